theorem dX10_laysRight_78 : decode cX10_laysRight 78 = .ok (.ifCond .ne 9, 3) := by decide +kernel
theorem dX10_laysRight_81 : decode cX10_laysRight 81 = .ok (.iinc 4 1, 3) := by decide +kernel
theorem dX10_laysRight_84 : decode cX10_laysRight 84 = .ok (.goto (-45), 3) := by decide +kernel
theorem dX10_laysRight_87 : decode cX10_laysRight 87 = .ok (.aload_n 0, 1) := by decide +kernel
theorem dX10_laysRight_88 : decode cX10_laysRight 88 = .ok (.getfield 31, 3) := by decide +kernel
theorem dX10_laysRight_91 : decode cX10_laysRight 91 = .ok (.aload_n 0, 1) := by decide +kernel
theorem dX10_laysRight_92 : decode cX10_laysRight 92 = .ok (.getfield 433, 3) := by decide +kernel
theorem dX10_laysRight_95 : decode cX10_laysRight 95 = .ok (.aload_n 0, 1) := by decide +kernel
theorem dX10_laysRight_96 : decode cX10_laysRight 96 = .ok (.getfield 436, 3) := by decide +kernel
theorem dX10_laysRight_99 : decode cX10_laysRight 99 = .ok (.iadd, 1) := by decide +kernel
theorem dX10_laysRight_100 : decode cX10_laysRight 100 = .ok (.iload_n 3, 1) := by decide +kernel
theorem dX10_laysRight_101 : decode cX10_laysRight 101 = .ok (.isub, 1) := by decide +kernel
theorem dX10_laysRight_102 : decode cX10_laysRight 102 = .ok (.iload 4, 2) := by decide +kernel
theorem dX10_laysRight_104 : decode cX10_laysRight 104 = .ok (.iastore, 1) := by decide +kernel
theorem dX10_laysRight_105 : decode cX10_laysRight 105 = .ok (.aload_n 0, 1) := by decide +kernel
theorem dX10_laysRight_106 : decode cX10_laysRight 106 = .ok (.iload_n 3, 1) := by decide +kernel
theorem dX10_laysRight_107 : decode cX10_laysRight 107 = .ok (.iload 4, 2) := by decide +kernel
theorem dX10_laysRight_109 : decode cX10_laysRight 109 = .ok (.invokevirtual 465, 3) := by decide +kernel
theorem dX10_laysRight_112 : decode cX10_laysRight 112 = .ok (.iload 4, 2) := by decide +kernel
theorem dX10_laysRight_114 : decode cX10_laysRight 114 = .ok (.istore_n 2, 1) := by decide +kernel
theorem dX10_laysRight_115 : decode cX10_laysRight 115 = .ok (.iload_n 3, 1) := by decide +kernel
theorem dX10_laysRight_116 : decode cX10_laysRight 116 = .ok (.iconst 1, 1) := by decide +kernel
theorem dX10_laysRight_117 : decode cX10_laysRight 117 = .ok (.if_icmp .ne 6, 3) := by decide +kernel
theorem dX10_laysRight_120 : decode cX10_laysRight 120 = .ok (.goto 9, 3) := by decide +kernel
theorem dX10_laysRight_123 : decode cX10_laysRight 123 = .ok (.aload_n 0, 1) := by decide +kernel
theorem dX10_laysRight_124 : decode cX10_laysRight 124 = .ok (.iload 4, 2) := by decide +kernel
theorem dX10_laysRight_126 : decode cX10_laysRight 126 = .ok (.invokevirtual 468, 3) := by decide +kernel
theorem dX10_laysRight_129 : decode cX10_laysRight 129 = .ok (.iinc 3 (-1), 3) := by decide +kernel
theorem dX10_laysRight_132 : decode cX10_laysRight 132 = .ok (.goto (-100), 3) := by decide +kernel
theorem dX10_laysRight_135 : decode cX10_laysRight 135 = .ok (.return_, 1) := by decide +kernel
theorem dX10_isAny_0 : decode cX10_isAny 0 = .ok (.iconst 0, 1) := by decide +kernel
theorem dX10_isAny_1 : decode cX10_isAny 1 = .ok (.istore_n 3, 1) := by decide +kernel
theorem dX10_isAny_2 : decode cX10_isAny 2 = .ok (.iload_n 3, 1) := by decide +kernel
theorem dX10_isAny_3 : decode cX10_isAny 3 = .ok (.bipush 100, 2) := by decide +kernel
theorem dX10_isAny_5 : decode cX10_isAny 5 = .ok (.if_icmp .ge 40, 3) := by decide +kernel
theorem dX10_isAny_8 : decode cX10_isAny 8 = .ok (.aload_n 0, 1) := by decide +kernel
theorem dX10_isAny_9 : decode cX10_isAny 9 = .ok (.getfield 38, 3) := by decide +kernel
theorem dX10_isAny_12 : decode cX10_isAny 12 = .ok (.iload_n 3, 1) := by decide +kernel
theorem dX10_isAny_13 : decode cX10_isAny 13 = .ok (.baload, 1) := by decide +kernel
theorem dX10_isAny_14 : decode cX10_isAny 14 = .ok (.ifCond .eq 25, 3) := by decide +kernel
theorem dX10_isAny_17 : decode cX10_isAny 17 = .ok (.aload_n 0, 1) := by decide +kernel
theorem dX10_isAny_18 : decode cX10_isAny 18 = .ok (.getfield 34, 3) := by decide +kernel
theorem dX10_isAny_21 : decode cX10_isAny 21 = .ok (.iload_n 1, 1) := by decide +kernel
theorem dX10_isAny_22 : decode cX10_isAny 22 = .ok (.sipush 900, 3) := by decide +kernel
theorem dX10_isAny_25 : decode cX10_isAny 25 = .ok (.imul, 1) := by decide +kernel
theorem dX10_isAny_26 : decode cX10_isAny 26 = .ok (.iload_n 2, 1) := by decide +kernel
theorem dX10_isAny_27 : decode cX10_isAny 27 = .ok (.bipush 100, 2) := by decide +kernel
theorem dX10_isAny_29 : decode cX10_isAny 29 = .ok (.imul, 1) := by decide +kernel
theorem dX10_isAny_30 : decode cX10_isAny 30 = .ok (.iadd, 1) := by decide +kernel
theorem dX10_isAny_31 : decode cX10_isAny 31 = .ok (.iload_n 3, 1) := by decide +kernel
theorem dX10_isAny_32 : decode cX10_isAny 32 = .ok (.iadd, 1) := by decide +kernel
theorem dX10_isAny_33 : decode cX10_isAny 33 = .ok (.baload, 1) := by decide +kernel
theorem dX10_isAny_34 : decode cX10_isAny 34 = .ok (.ifCond .eq 5, 3) := by decide +kernel
theorem dX10_isAny_37 : decode cX10_isAny 37 = .ok (.iconst 1, 1) := by decide +kernel
theorem dX10_isAny_38 : decode cX10_isAny 38 = .ok (.ireturn, 1) := by decide +kernel
theorem dX10_isAny_39 : decode cX10_isAny 39 = .ok (.iinc 3 1, 3) := by decide +kernel
theorem dX10_isAny_42 : decode cX10_isAny 42 = .ok (.goto (-40), 3) := by decide +kernel
theorem dX10_isAny_45 : decode cX10_isAny 45 = .ok (.iconst 0, 1) := by decide +kernel
theorem dX10_isAny_46 : decode cX10_isAny 46 = .ok (.ireturn, 1) := by decide +kernel
theorem dX10_narrows_0 : decode cX10_narrows 0 = .ok (.iconst 0, 1) := by decide +kernel
theorem dX10_narrows_1 : decode cX10_narrows 1 = .ok (.istore_n 3, 1) := by decide +kernel
theorem dX10_narrows_2 : decode cX10_narrows 2 = .ok (.iload_n 3, 1) := by decide +kernel
theorem dX10_narrows_3 : decode cX10_narrows 3 = .ok (.bipush 100, 2) := by decide +kernel
theorem dX10_narrows_5 : decode cX10_narrows 5 = .ok (.if_icmp .ge 49, 3) := by decide +kernel
theorem dX10_narrows_8 : decode cX10_narrows 8 = .ok (.aload_n 0, 1) := by decide +kernel
theorem dX10_narrows_9 : decode cX10_narrows 9 = .ok (.getfield 38, 3) := by decide +kernel
theorem dX10_narrows_12 : decode cX10_narrows 12 = .ok (.iload_n 3, 1) := by decide +kernel
theorem dX10_narrows_13 : decode cX10_narrows 13 = .ok (.aload_n 0, 1) := by decide +kernel
theorem dX10_narrows_14 : decode cX10_narrows 14 = .ok (.getfield 38, 3) := by decide +kernel
theorem dX10_narrows_17 : decode cX10_narrows 17 = .ok (.iload_n 3, 1) := by decide +kernel
theorem dX10_narrows_18 : decode cX10_narrows 18 = .ok (.baload, 1) := by decide +kernel
theorem dX10_narrows_19 : decode cX10_narrows 19 = .ok (.ifCond .eq 27, 3) := by decide +kernel
theorem dX10_narrows_22 : decode cX10_narrows 22 = .ok (.aload_n 0, 1) := by decide +kernel
theorem dX10_narrows_23 : decode cX10_narrows 23 = .ok (.getfield 34, 3) := by decide +kernel
theorem dX10_narrows_26 : decode cX10_narrows 26 = .ok (.iload_n 1, 1) := by decide +kernel
theorem dX10_narrows_27 : decode cX10_narrows 27 = .ok (.sipush 900, 3) := by decide +kernel
theorem dX10_narrows_30 : decode cX10_narrows 30 = .ok (.imul, 1) := by decide +kernel
theorem dX10_narrows_31 : decode cX10_narrows 31 = .ok (.iload_n 2, 1) := by decide +kernel
theorem dX10_narrows_32 : decode cX10_narrows 32 = .ok (.bipush 100, 2) := by decide +kernel
theorem dX10_narrows_34 : decode cX10_narrows 34 = .ok (.imul, 1) := by decide +kernel
theorem dX10_narrows_35 : decode cX10_narrows 35 = .ok (.iadd, 1) := by decide +kernel
theorem dX10_narrows_36 : decode cX10_narrows 36 = .ok (.iload_n 3, 1) := by decide +kernel
theorem dX10_narrows_37 : decode cX10_narrows 37 = .ok (.iadd, 1) := by decide +kernel
theorem dX10_narrows_38 : decode cX10_narrows 38 = .ok (.baload, 1) := by decide +kernel
theorem dX10_narrows_39 : decode cX10_narrows 39 = .ok (.ifCond .eq 7, 3) := by decide +kernel
theorem dX10_narrows_42 : decode cX10_narrows 42 = .ok (.iconst 1, 1) := by decide +kernel
theorem dX10_narrows_43 : decode cX10_narrows 43 = .ok (.goto 4, 3) := by decide +kernel
theorem dX10_narrows_46 : decode cX10_narrows 46 = .ok (.iconst 0, 1) := by decide +kernel
theorem dX10_narrows_47 : decode cX10_narrows 47 = .ok (.bastore, 1) := by decide +kernel
theorem dX10_narrows_48 : decode cX10_narrows 48 = .ok (.iinc 3 1, 3) := by decide +kernel
theorem dX10_narrows_51 : decode cX10_narrows 51 = .ok (.goto (-49), 3) := by decide +kernel
theorem dX10_narrows_54 : decode cX10_narrows 54 = .ok (.return_, 1) := by decide +kernel
theorem dX10_passes_0 : decode cX10_passes 0 = .ok (.aload_n 0, 1) := by decide +kernel
theorem dX10_passes_1 : decode cX10_passes 1 = .ok (.iload_n 1, 1) := by decide +kernel
theorem dX10_passes_2 : decode cX10_passes 2 = .ok (.invokevirtual 408, 3) := by decide +kernel
theorem dX10_passes_5 : decode cX10_passes 5 = .ok (.bipush 10, 2) := by decide +kernel
theorem dX10_passes_7 : decode cX10_passes 7 = .ok (.imul, 1) := by decide +kernel
theorem dX10_passes_8 : decode cX10_passes 8 = .ok (.aload_n 0, 1) := by decide +kernel
theorem dX10_passes_9 : decode cX10_passes 9 = .ok (.iload_n 1, 1) := by decide +kernel
theorem dX10_passes_10 : decode cX10_passes 10 = .ok (.invokevirtual 411, 3) := by decide +kernel
theorem dX10_passes_13 : decode cX10_passes 13 = .ok (.iadd, 1) := by decide +kernel
theorem dX10_passes_14 : decode cX10_passes 14 = .ok (.istore_n 2, 1) := by decide +kernel
theorem dX10_passes_15 : decode cX10_passes 15 = .ok (.iconst 0, 1) := by decide +kernel
theorem dX10_passes_16 : decode cX10_passes 16 = .ok (.istore_n 3, 1) := by decide +kernel
theorem dX10_passes_17 : decode cX10_passes 17 = .ok (.iload_n 3, 1) := by decide +kernel
theorem dX10_passes_18 : decode cX10_passes 18 = .ok (.bipush 100, 2) := by decide +kernel
theorem dX10_passes_20 : decode cX10_passes 20 = .ok (.if_icmp .ge 54, 3) := by decide +kernel
theorem dX10_passes_23 : decode cX10_passes 23 = .ok (.aload_n 0, 1) := by decide +kernel
theorem dX10_passes_24 : decode cX10_passes 24 = .ok (.getfield 38, 3) := by decide +kernel
theorem dX10_passes_27 : decode cX10_passes 27 = .ok (.iload_n 3, 1) := by decide +kernel
theorem dX10_passes_28 : decode cX10_passes 28 = .ok (.iload_n 3, 1) := by decide +kernel
theorem dX10_passes_29 : decode cX10_passes 29 = .ok (.iload_n 2, 1) := by decide +kernel
theorem dX10_passes_30 : decode cX10_passes 30 = .ok (.iadd, 1) := by decide +kernel
theorem dX10_passes_31 : decode cX10_passes 31 = .ok (.bipush 100, 2) := by decide +kernel
theorem dX10_passes_33 : decode cX10_passes 33 = .ok (.if_icmp .ge 33, 3) := by decide +kernel
theorem dX10_passes_36 : decode cX10_passes 36 = .ok (.iload_n 3, 1) := by decide +kernel
theorem dX10_passes_37 : decode cX10_passes 37 = .ok (.bipush 10, 2) := by decide +kernel
theorem dX10_passes_39 : decode cX10_passes 39 = .ok (.irem, 1) := by decide +kernel
theorem dX10_passes_40 : decode cX10_passes 40 = .ok (.aload_n 0, 1) := by decide +kernel
theorem dX10_passes_41 : decode cX10_passes 41 = .ok (.iload_n 1, 1) := by decide +kernel
theorem dX10_passes_42 : decode cX10_passes 42 = .ok (.invokevirtual 411, 3) := by decide +kernel
theorem dX10_passes_45 : decode cX10_passes 45 = .ok (.iadd, 1) := by decide +kernel
theorem dX10_passes_46 : decode cX10_passes 46 = .ok (.bipush 10, 2) := by decide +kernel
theorem dX10_passes_48 : decode cX10_passes 48 = .ok (.if_icmp .ge 18, 3) := by decide +kernel
theorem dX10_passes_51 : decode cX10_passes 51 = .ok (.aload_n 0, 1) := by decide +kernel
theorem dX10_passes_52 : decode cX10_passes 52 = .ok (.getfield 38, 3) := by decide +kernel
theorem dX10_passes_55 : decode cX10_passes 55 = .ok (.iload_n 3, 1) := by decide +kernel
theorem dX10_passes_56 : decode cX10_passes 56 = .ok (.iload_n 2, 1) := by decide +kernel
theorem dX10_passes_57 : decode cX10_passes 57 = .ok (.iadd, 1) := by decide +kernel
theorem dX10_passes_58 : decode cX10_passes 58 = .ok (.baload, 1) := by decide +kernel
theorem dX10_passes_59 : decode cX10_passes 59 = .ok (.ifCond .eq 7, 3) := by decide +kernel
theorem dX10_passes_62 : decode cX10_passes 62 = .ok (.iconst 1, 1) := by decide +kernel
theorem dX10_passes_63 : decode cX10_passes 63 = .ok (.goto 4, 3) := by decide +kernel
theorem dX10_passes_66 : decode cX10_passes 66 = .ok (.iconst 0, 1) := by decide +kernel
theorem dX10_passes_67 : decode cX10_passes 67 = .ok (.bastore, 1) := by decide +kernel
theorem dX10_passes_68 : decode cX10_passes 68 = .ok (.iinc 3 1, 3) := by decide +kernel
theorem dX10_passes_71 : decode cX10_passes 71 = .ok (.goto (-54), 3) := by decide +kernel
theorem dX10_passes_74 : decode cX10_passes 74 = .ok (.return_, 1) := by decide +kernel
theorem dX10_meets_0 : decode cX10_meets 0 = .ok (.aload_n 0, 1) := by decide +kernel
theorem dX10_meets_1 : decode cX10_meets 1 = .ok (.iconst 0, 1) := by decide +kernel
theorem dX10_meets_2 : decode cX10_meets 2 = .ok (.putfield 54, 3) := by decide +kernel
theorem dX10_meets_5 : decode cX10_meets 5 = .ok (.aload_n 0, 1) := by decide +kernel
theorem dX10_meets_6 : decode cX10_meets 6 = .ok (.getfield 346, 3) := by decide +kernel
theorem dX10_meets_9 : decode cX10_meets 9 = .ok (.ifnonnull 9, 3) := by decide +kernel
theorem dX10_meets_12 : decode cX10_meets 12 = .ok (.aload_n 0, 1) := by decide +kernel
theorem dX10_meets_13 : decode cX10_meets 13 = .ok (.iconst 1, 1) := by decide +kernel
theorem dX10_meets_14 : decode cX10_meets 14 = .ok (.invokevirtual 60, 3) := by decide +kernel
theorem dX10_meets_17 : decode cX10_meets 17 = .ok (.ireturn, 1) := by decide +kernel
theorem dX10_meets_18 : decode cX10_meets 18 = .ok (.aload_n 0, 1) := by decide +kernel
theorem dX10_meets_19 : decode cX10_meets 19 = .ok (.aload_n 0, 1) := by decide +kernel
theorem dX10_meets_20 : decode cX10_meets 20 = .ok (.aload_n 0, 1) := by decide +kernel
theorem dX10_meets_21 : decode cX10_meets 21 = .ok (.aload_n 0, 1) := by decide +kernel
theorem dX10_meets_22 : decode cX10_meets 22 = .ok (.iconst 0, 1) := by decide +kernel
theorem dX10_meets_23 : decode cX10_meets 23 = .ok (.invokevirtual 354, 3) := by decide +kernel
theorem dX10_meets_26 : decode cX10_meets 26 = .ok (.aload_n 0, 1) := by decide +kernel
theorem dX10_meets_27 : decode cX10_meets 27 = .ok (.iconst 1, 1) := by decide +kernel
theorem dX10_meets_28 : decode cX10_meets 28 = .ok (.invokevirtual 354, 3) := by decide +kernel
theorem dX10_meets_31 : decode cX10_meets 31 = .ok (.invokevirtual 380, 3) := by decide +kernel
theorem dX10_meets_34 : decode cX10_meets 34 = .ok (.invokevirtual 417, 3) := by decide +kernel
theorem dX10_meets_37 : decode cX10_meets 37 = .ok (.ifCond .eq 42, 3) := by decide +kernel
theorem dX10_meets_40 : decode cX10_meets 40 = .ok (.aload_n 0, 1) := by decide +kernel
theorem dX10_meets_41 : decode cX10_meets 41 = .ok (.iconst 0, 1) := by decide +kernel
theorem dX10_meets_42 : decode cX10_meets 42 = .ok (.invokevirtual 354, 3) := by decide +kernel
theorem dX10_meets_45 : decode cX10_meets 45 = .ok (.ifCond .le 34, 3) := by decide +kernel
theorem dX10_meets_48 : decode cX10_meets 48 = .ok (.aload_n 0, 1) := by decide +kernel
theorem dX10_meets_49 : decode cX10_meets 49 = .ok (.iconst 1, 1) := by decide +kernel
theorem dX10_meets_50 : decode cX10_meets 50 = .ok (.invokevirtual 354, 3) := by decide +kernel
theorem dX10_meets_53 : decode cX10_meets 53 = .ok (.ifCond .le 26, 3) := by decide +kernel
theorem dX10_meets_56 : decode cX10_meets 56 = .ok (.aload_n 0, 1) := by decide +kernel
theorem dX10_meets_57 : decode cX10_meets 57 = .ok (.aload_n 0, 1) := by decide +kernel
theorem dX10_meets_58 : decode cX10_meets 58 = .ok (.iconst 0, 1) := by decide +kernel
theorem dX10_meets_59 : decode cX10_meets 59 = .ok (.iconst 0, 1) := by decide +kernel
theorem dX10_meets_60 : decode cX10_meets 60 = .ok (.invokevirtual 360, 3) := by decide +kernel
theorem dX10_meets_63 : decode cX10_meets 63 = .ok (.aload_n 0, 1) := by decide +kernel
theorem dX10_meets_64 : decode cX10_meets 64 = .ok (.iconst 1, 1) := by decide +kernel
theorem dX10_meets_65 : decode cX10_meets 65 = .ok (.iconst 0, 1) := by decide +kernel
theorem dX10_meets_66 : decode cX10_meets 66 = .ok (.invokevirtual 360, 3) := by decide +kernel
theorem dX10_meets_69 : decode cX10_meets 69 = .ok (.invokevirtual 372, 3) := by decide +kernel
theorem dX10_meets_72 : decode cX10_meets 72 = .ok (.ifCond .eq 7, 3) := by decide +kernel
theorem dX10_meets_75 : decode cX10_meets 75 = .ok (.iconst 1, 1) := by decide +kernel
theorem dX10_meets_76 : decode cX10_meets 76 = .ok (.goto 4, 3) := by decide +kernel
theorem dX10_meets_79 : decode cX10_meets 79 = .ok (.iconst 0, 1) := by decide +kernel
theorem dX10_meets_80 : decode cX10_meets 80 = .ok (.invokevirtual 64, 3) := by decide +kernel
theorem dX10_meets_83 : decode cX10_meets 83 = .ok (.ireturn, 1) := by decide +kernel
theorem dX10_meeting_0 : decode cX10_meeting 0 = .ok (.aload_n 0, 1) := by decide +kernel
theorem dX10_meeting_1 : decode cX10_meeting 1 = .ok (.iconst 0, 1) := by decide +kernel
theorem dX10_meeting_2 : decode cX10_meeting 2 = .ok (.putfield 54, 3) := by decide +kernel
theorem dX10_meeting_5 : decode cX10_meeting 5 = .ok (.aload_n 0, 1) := by decide +kernel
theorem dX10_meeting_6 : decode cX10_meeting 6 = .ok (.getfield 346, 3) := by decide +kernel
theorem dX10_meeting_9 : decode cX10_meeting 9 = .ok (.ifnull 12, 3) := by decide +kernel
theorem dX10_meeting_12 : decode cX10_meeting 12 = .ok (.iload_n 1, 1) := by decide +kernel
theorem dX10_meeting_13 : decode cX10_meeting 13 = .ok (.iconst 0, 1) := by decide +kernel
theorem dX10_meeting_14 : decode cX10_meeting 14 = .ok (.iconst 3, 1) := by decide +kernel
theorem dX10_meeting_15 : decode cX10_meeting 15 = .ok (.invokestatic 134, 3) := by decide +kernel
theorem dX10_meeting_18 : decode cX10_meeting 18 = .ok (.ifCond .ne 9, 3) := by decide +kernel
theorem dX10_meeting_21 : decode cX10_meeting 21 = .ok (.aload_n 0, 1) := by decide +kernel
theorem dX10_meeting_22 : decode cX10_meeting 22 = .ok (.iconst 1, 1) := by decide +kernel
theorem dX10_meeting_23 : decode cX10_meeting 23 = .ok (.invokevirtual 60, 3) := by decide +kernel
theorem dX10_meeting_26 : decode cX10_meeting 26 = .ok (.ireturn, 1) := by decide +kernel
theorem dX10_meeting_27 : decode cX10_meeting 27 = .ok (.aload_n 0, 1) := by decide +kernel
theorem dX10_meeting_28 : decode cX10_meeting 28 = .ok (.invokevirtual 471, 3) := by decide +kernel
theorem dX10_meeting_31 : decode cX10_meeting 31 = .ok (.ifCond .ne 10, 3) := by decide +kernel
theorem dX10_meeting_34 : decode cX10_meeting 34 = .ok (.aload_n 0, 1) := by decide +kernel
theorem dX10_meeting_35 : decode cX10_meeting 35 = .ok (.bipush (-2), 2) := by decide +kernel
theorem dX10_meeting_37 : decode cX10_meeting 37 = .ok (.invokevirtual 64, 3) := by decide +kernel
theorem dX10_meeting_40 : decode cX10_meeting 40 = .ok (.ireturn, 1) := by decide +kernel
theorem dX10_meeting_41 : decode cX10_meeting 41 = .ok (.aload_n 0, 1) := by decide +kernel
theorem dX10_meeting_42 : decode cX10_meeting 42 = .ok (.iload_n 1, 1) := by decide +kernel
theorem dX10_meeting_43 : decode cX10_meeting 43 = .ok (.ifCond .ne 15, 3) := by decide +kernel
theorem dX10_meeting_46 : decode cX10_meeting 46 = .ok (.aload_n 0, 1) := by decide +kernel
theorem dX10_meeting_47 : decode cX10_meeting 47 = .ok (.getfield 427, 3) := by decide +kernel
theorem dX10_meeting_50 : decode cX10_meeting 50 = .ok (.aload_n 0, 1) := by decide +kernel
theorem dX10_meeting_51 : decode cX10_meeting 51 = .ok (.getfield 430, 3) := by decide +kernel
theorem dX10_meeting_54 : decode cX10_meeting 54 = .ok (.iadd, 1) := by decide +kernel
theorem dX10_meeting_55 : decode cX10_meeting 55 = .ok (.goto 36, 3) := by decide +kernel
theorem dX10_meeting_58 : decode cX10_meeting 58 = .ok (.iload_n 1, 1) := by decide +kernel
theorem dX10_meeting_59 : decode cX10_meeting 59 = .ok (.iconst 1, 1) := by decide +kernel
theorem dX10_meeting_60 : decode cX10_meeting 60 = .ok (.if_icmp .ne 15, 3) := by decide +kernel
theorem dX10_meeting_63 : decode cX10_meeting 63 = .ok (.aload_n 0, 1) := by decide +kernel
theorem dX10_meeting_64 : decode cX10_meeting 64 = .ok (.getfield 433, 3) := by decide +kernel
theorem dX10_meeting_67 : decode cX10_meeting 67 = .ok (.aload_n 0, 1) := by decide +kernel
theorem dX10_meeting_68 : decode cX10_meeting 68 = .ok (.getfield 436, 3) := by decide +kernel
theorem dX10_meeting_71 : decode cX10_meeting 71 = .ok (.iadd, 1) := by decide +kernel
theorem dX10_meeting_72 : decode cX10_meeting 72 = .ok (.goto 19, 3) := by decide +kernel
theorem dX10_meeting_75 : decode cX10_meeting 75 = .ok (.iload_n 1, 1) := by decide +kernel
theorem dX10_meeting_76 : decode cX10_meeting 76 = .ok (.iconst 2, 1) := by decide +kernel
theorem dX10_meeting_77 : decode cX10_meeting 77 = .ok (.if_icmp .ne 10, 3) := by decide +kernel
theorem dX10_meeting_80 : decode cX10_meeting 80 = .ok (.aload_n 0, 1) := by decide +kernel
theorem dX10_meeting_81 : decode cX10_meeting 81 = .ok (.getfield 427, 3) := by decide +kernel
theorem dX10_meeting_84 : decode cX10_meeting 84 = .ok (.goto 7, 3) := by decide +kernel
theorem dX10_meeting_87 : decode cX10_meeting 87 = .ok (.aload_n 0, 1) := by decide +kernel
theorem dX10_meeting_88 : decode cX10_meeting 88 = .ok (.getfield 433, 3) := by decide +kernel
theorem dX10_meeting_91 : decode cX10_meeting 91 = .ok (.invokevirtual 64, 3) := by decide +kernel
theorem dX10_meeting_94 : decode cX10_meeting 94 = .ok (.ireturn, 1) := by decide +kernel
theorem dX10_woven_0 : decode cX10_woven 0 = .ok (.aload_n 0, 1) := by decide +kernel
theorem dX10_woven_1 : decode cX10_woven 1 = .ok (.iconst 0, 1) := by decide +kernel
theorem dX10_woven_2 : decode cX10_woven 2 = .ok (.putfield 54, 3) := by decide +kernel
theorem dX10_woven_5 : decode cX10_woven 5 = .ok (.aload_n 0, 1) := by decide +kernel
theorem dX10_woven_6 : decode cX10_woven 6 = .ok (.getfield 346, 3) := by decide +kernel
theorem dX10_woven_9 : decode cX10_woven 9 = .ok (.ifnull 7, 3) := by decide +kernel
theorem dX10_woven_12 : decode cX10_woven 12 = .ok (.iload_n 1, 1) := by decide +kernel
theorem dX10_woven_13 : decode cX10_woven 13 = .ok (.ifCond .ge 9, 3) := by decide +kernel
theorem dX10_woven_16 : decode cX10_woven 16 = .ok (.aload_n 0, 1) := by decide +kernel
theorem dX10_woven_17 : decode cX10_woven 17 = .ok (.iconst 1, 1) := by decide +kernel
theorem dX10_woven_18 : decode cX10_woven 18 = .ok (.invokevirtual 60, 3) := by decide +kernel
theorem dX10_woven_21 : decode cX10_woven 21 = .ok (.ireturn, 1) := by decide +kernel
theorem dX10_woven_22 : decode cX10_woven 22 = .ok (.aload_n 0, 1) := by decide +kernel
theorem dX10_woven_23 : decode cX10_woven 23 = .ok (.invokevirtual 471, 3) := by decide +kernel
theorem dX10_woven_26 : decode cX10_woven 26 = .ok (.ifCond .ne 10, 3) := by decide +kernel
theorem dX10_woven_29 : decode cX10_woven 29 = .ok (.aload_n 0, 1) := by decide +kernel
theorem dX10_woven_30 : decode cX10_woven 30 = .ok (.bipush 6, 2) := by decide +kernel
theorem dX10_woven_32 : decode cX10_woven 32 = .ok (.invokevirtual 60, 3) := by decide +kernel
theorem dX10_woven_35 : decode cX10_woven 35 = .ok (.ireturn, 1) := by decide +kernel
theorem dX10_woven_36 : decode cX10_woven 36 = .ok (.iload_n 1, 1) := by decide +kernel
theorem dX10_woven_37 : decode cX10_woven 37 = .ok (.aload_n 0, 1) := by decide +kernel
theorem dX10_woven_38 : decode cX10_woven 38 = .ok (.getfield 433, 3) := by decide +kernel
theorem dX10_woven_41 : decode cX10_woven 41 = .ok (.aload_n 0, 1) := by decide +kernel
theorem dX10_woven_42 : decode cX10_woven 42 = .ok (.getfield 436, 3) := by decide +kernel
theorem dX10_woven_45 : decode cX10_woven 45 = .ok (.iadd, 1) := by decide +kernel
theorem dX10_woven_46 : decode cX10_woven 46 = .ok (.if_icmp .lt 9, 3) := by decide +kernel
theorem dX10_woven_49 : decode cX10_woven 49 = .ok (.aload_n 0, 1) := by decide +kernel
theorem dX10_woven_50 : decode cX10_woven 50 = .ok (.iconst 1, 1) := by decide +kernel
theorem dX10_woven_51 : decode cX10_woven 51 = .ok (.invokevirtual 60, 3) := by decide +kernel
theorem dX10_woven_54 : decode cX10_woven 54 = .ok (.ireturn, 1) := by decide +kernel
theorem dX10_woven_55 : decode cX10_woven 55 = .ok (.aload_n 0, 1) := by decide +kernel
theorem dX10_woven_56 : decode cX10_woven 56 = .ok (.invokevirtual 474, 3) := by decide +kernel
theorem dX10_woven_59 : decode cX10_woven 59 = .ok (.aload_n 0, 1) := by decide +kernel
theorem dX10_woven_60 : decode cX10_woven 60 = .ok (.aload_n 0, 1) := by decide +kernel
theorem dX10_woven_61 : decode cX10_woven 61 = .ok (.getfield 31, 3) := by decide +kernel
theorem dX10_woven_64 : decode cX10_woven 64 = .ok (.iload_n 1, 1) := by decide +kernel
theorem dX10_woven_65 : decode cX10_woven 65 = .ok (.iaload, 1) := by decide +kernel
theorem dX10_woven_66 : decode cX10_woven 66 = .ok (.invokevirtual 64, 3) := by decide +kernel
theorem dX10_woven_69 : decode cX10_woven 69 = .ok (.ireturn, 1) := by decide +kernel
theorem dX10_takes_0 : decode cX10_takes 0 = .ok (.aload_n 0, 1) := by decide +kernel
theorem dX10_takes_1 : decode cX10_takes 1 = .ok (.iconst 0, 1) := by decide +kernel
theorem dX10_takes_2 : decode cX10_takes 2 = .ok (.putfield 54, 3) := by decide +kernel
theorem dX10_takes_5 : decode cX10_takes 5 = .ok (.aload_n 0, 1) := by decide +kernel
theorem dX10_takes_6 : decode cX10_takes 6 = .ok (.iload_n 1, 1) := by decide +kernel
theorem dX10_takes_7 : decode cX10_takes 7 = .ok (.invokevirtual 377, 3) := by decide +kernel
theorem dX10_takes_10 : decode cX10_takes 10 = .ok (.ifCond .eq 20, 3) := by decide +kernel
theorem dX10_takes_13 : decode cX10_takes 13 = .ok (.iload_n 2, 1) := by decide +kernel
theorem dX10_takes_14 : decode cX10_takes 14 = .ok (.iconst 0, 1) := by decide +kernel
theorem dX10_takes_15 : decode cX10_takes 15 = .ok (.aload_n 0, 1) := by decide +kernel
theorem dX10_takes_16 : decode cX10_takes 16 = .ok (.getfield 346, 3) := by decide +kernel
theorem dX10_takes_19 : decode cX10_takes 19 = .ok (.getfield 248, 3) := by decide +kernel
theorem dX10_takes_22 : decode cX10_takes 22 = .ok (.iconst 1, 1) := by decide +kernel
theorem dX10_takes_23 : decode cX10_takes 23 = .ok (.isub, 1) := by decide +kernel
theorem dX10_takes_24 : decode cX10_takes 24 = .ok (.invokestatic 134, 3) := by decide +kernel
theorem dX10_takes_27 : decode cX10_takes 27 = .ok (.ifCond .ne 9, 3) := by decide +kernel
theorem dX10_takes_30 : decode cX10_takes 30 = .ok (.aload_n 0, 1) := by decide +kernel
theorem dX10_takes_31 : decode cX10_takes 31 = .ok (.iconst 1, 1) := by decide +kernel
theorem dX10_takes_32 : decode cX10_takes 32 = .ok (.invokevirtual 60, 3) := by decide +kernel
theorem dX10_takes_35 : decode cX10_takes 35 = .ok (.ireturn, 1) := by decide +kernel
theorem dX10_takes_36 : decode cX10_takes 36 = .ok (.aload_n 0, 1) := by decide +kernel
theorem dX10_takes_37 : decode cX10_takes 37 = .ok (.invokevirtual 471, 3) := by decide +kernel
theorem dX10_takes_40 : decode cX10_takes 40 = .ok (.ifCond .ne 10, 3) := by decide +kernel
theorem dX10_takes_43 : decode cX10_takes 43 = .ok (.aload_n 0, 1) := by decide +kernel
theorem dX10_takes_44 : decode cX10_takes 44 = .ok (.bipush 6, 2) := by decide +kernel
theorem dX10_takes_46 : decode cX10_takes 46 = .ok (.invokevirtual 60, 3) := by decide +kernel
theorem dX10_takes_49 : decode cX10_takes 49 = .ok (.ireturn, 1) := by decide +kernel
theorem dX10_takes_50 : decode cX10_takes 50 = .ok (.aload_n 0, 1) := by decide +kernel
theorem dX10_takes_51 : decode cX10_takes 51 = .ok (.invokevirtual 474, 3) := by decide +kernel
theorem dX10_takes_54 : decode cX10_takes 54 = .ok (.iconst 0, 1) := by decide +kernel
theorem dX10_takes_55 : decode cX10_takes 55 = .ok (.istore_n 3, 1) := by decide +kernel
theorem dX10_takes_56 : decode cX10_takes 56 = .ok (.iconst 0, 1) := by decide +kernel
theorem dX10_takes_57 : decode cX10_takes 57 = .ok (.istore 4, 2) := by decide +kernel
theorem dX10_takes_59 : decode cX10_takes 59 = .ok (.iload 4, 2) := by decide +kernel
theorem dX10_takes_61 : decode cX10_takes 61 = .ok (.aload_n 0, 1) := by decide +kernel
theorem dX10_takes_62 : decode cX10_takes 62 = .ok (.getfield 433, 3) := by decide +kernel
theorem dX10_takes_65 : decode cX10_takes 65 = .ok (.aload_n 0, 1) := by decide +kernel
theorem dX10_takes_66 : decode cX10_takes 66 = .ok (.getfield 436, 3) := by decide +kernel
theorem dX10_takes_69 : decode cX10_takes 69 = .ok (.iadd, 1) := by decide +kernel
theorem dX10_takes_70 : decode cX10_takes 70 = .ok (.if_icmp .ge 76, 3) := by decide +kernel
theorem dX10_takes_73 : decode cX10_takes 73 = .ok (.iload_n 3, 1) := by decide +kernel
theorem dX10_takes_74 : decode cX10_takes 74 = .ok (.iload 4, 2) := by decide +kernel
theorem dX10_takes_76 : decode cX10_takes 76 = .ok (.aload_n 0, 1) := by decide +kernel
theorem dX10_takes_77 : decode cX10_takes 77 = .ok (.getfield 433, 3) := by decide +kernel
theorem dX10_takes_80 : decode cX10_takes 80 = .ok (.if_icmp .ge 7, 3) := by decide +kernel
theorem dX10_takes_83 : decode cX10_takes 83 = .ok (.iconst 1, 1) := by decide +kernel
theorem dX10_takes_84 : decode cX10_takes 84 = .ok (.goto 4, 3) := by decide +kernel
theorem dX10_takes_87 : decode cX10_takes 87 = .ok (.iconst 0, 1) := by decide +kernel
theorem dX10_takes_88 : decode cX10_takes 88 = .ok (.iload_n 1, 1) := by decide +kernel
theorem dX10_takes_89 : decode cX10_takes 89 = .ok (.ifCond .ne 7, 3) := by decide +kernel
theorem dX10_takes_92 : decode cX10_takes 92 = .ok (.iconst 1, 1) := by decide +kernel
theorem dX10_takes_93 : decode cX10_takes 93 = .ok (.goto 4, 3) := by decide +kernel
theorem dX10_takes_96 : decode cX10_takes 96 = .ok (.iconst 0, 1) := by decide +kernel
theorem dX10_takes_97 : decode cX10_takes 97 = .ok (.if_icmp .ne 40, 3) := by decide +kernel
theorem dX10_takes_100 : decode cX10_takes 100 = .ok (.aload_n 0, 1) := by decide +kernel
theorem dX10_takes_101 : decode cX10_takes 101 = .ok (.getfield 346, 3) := by decide +kernel
theorem dX10_takes_104 : decode cX10_takes 104 = .ok (.getfield 273, 3) := by decide +kernel
theorem dX10_takes_107 : decode cX10_takes 107 = .ok (.aload_n 0, 1) := by decide +kernel
theorem dX10_takes_108 : decode cX10_takes 108 = .ok (.getfield 31, 3) := by decide +kernel
theorem dX10_takes_111 : decode cX10_takes 111 = .ok (.iload 4, 2) := by decide +kernel
theorem dX10_takes_113 : decode cX10_takes 113 = .ok (.iaload, 1) := by decide +kernel
theorem dX10_takes_114 : decode cX10_takes 114 = .ok (.iaload, 1) := by decide +kernel
theorem dX10_takes_115 : decode cX10_takes 115 = .ok (.iload_n 2, 1) := by decide +kernel
theorem dX10_takes_116 : decode cX10_takes 116 = .ok (.if_icmp .ne 21, 3) := by decide +kernel
theorem dX10_takes_119 : decode cX10_takes 119 = .ok (.aload_n 0, 1) := by decide +kernel
theorem dX10_takes_120 : decode cX10_takes 120 = .ok (.getfield 346, 3) := by decide +kernel
theorem dX10_takes_123 : decode cX10_takes 123 = .ok (.getfield 275, 3) := by decide +kernel
theorem dX10_takes_126 : decode cX10_takes 126 = .ok (.aload_n 0, 1) := by decide +kernel
theorem dX10_takes_127 : decode cX10_takes 127 = .ok (.getfield 31, 3) := by decide +kernel
theorem dX10_takes_130 : decode cX10_takes 130 = .ok (.iload 4, 2) := by decide +kernel
theorem dX10_takes_132 : decode cX10_takes 132 = .ok (.iaload, 1) := by decide +kernel
theorem dX10_takes_133 : decode cX10_takes 133 = .ok (.iaload, 1) := by decide +kernel
theorem dX10_takes_134 : decode cX10_takes 134 = .ok (.goto 4, 3) := by decide +kernel
theorem dX10_takes_137 : decode cX10_takes 137 = .ok (.iconst 0, 1) := by decide +kernel
theorem dX10_takes_138 : decode cX10_takes 138 = .ok (.iadd, 1) := by decide +kernel
theorem dX10_takes_139 : decode cX10_takes 139 = .ok (.istore_n 3, 1) := by decide +kernel
theorem dX10_takes_140 : decode cX10_takes 140 = .ok (.iinc 4 1, 3) := by decide +kernel
theorem dX10_takes_143 : decode cX10_takes 143 = .ok (.goto (-84), 3) := by decide +kernel
theorem dX10_takes_146 : decode cX10_takes 146 = .ok (.aload_n 0, 1) := by decide +kernel
theorem dX10_takes_147 : decode cX10_takes 147 = .ok (.iload_n 3, 1) := by decide +kernel
theorem dX10_takes_148 : decode cX10_takes 148 = .ok (.invokevirtual 64, 3) := by decide +kernel
theorem dX10_takes_151 : decode cX10_takes 151 = .ok (.ireturn, 1) := by decide +kernel
theorem dX10_far_0 : decode cX10_far 0 = .ok (.aload_n 0, 1) := by decide +kernel
theorem dX10_far_1 : decode cX10_far 1 = .ok (.iconst 0, 1) := by decide +kernel
theorem dX10_far_2 : decode cX10_far 2 = .ok (.putfield 54, 3) := by decide +kernel
theorem dX10_far_5 : decode cX10_far 5 = .ok (.aload_n 0, 1) := by decide +kernel
theorem dX10_far_6 : decode cX10_far 6 = .ok (.iload_n 1, 1) := by decide +kernel
theorem dX10_far_7 : decode cX10_far 7 = .ok (.invokevirtual 377, 3) := by decide +kernel
theorem dX10_far_10 : decode cX10_far 10 = .ok (.ifCond .ne 9, 3) := by decide +kernel
theorem dX10_far_13 : decode cX10_far 13 = .ok (.aload_n 0, 1) := by decide +kernel
theorem dX10_far_14 : decode cX10_far 14 = .ok (.iconst 1, 1) := by decide +kernel
theorem dX10_far_15 : decode cX10_far 15 = .ok (.invokevirtual 60, 3) := by decide +kernel
theorem dX10_far_18 : decode cX10_far 18 = .ok (.ireturn, 1) := by decide +kernel
theorem dX10_far_19 : decode cX10_far 19 = .ok (.aload_n 0, 1) := by decide +kernel
theorem dX10_far_20 : decode cX10_far 20 = .ok (.invokevirtual 439, 3) := by decide +kernel
theorem dX10_far_23 : decode cX10_far 23 = .ok (.iconst 0, 1) := by decide +kernel
theorem dX10_far_24 : decode cX10_far 24 = .ok (.istore_n 2, 1) := by decide +kernel
theorem dX10_far_25 : decode cX10_far 25 = .ok (.iload_n 2, 1) := by decide +kernel
theorem dX10_far_26 : decode cX10_far 26 = .ok (.aload_n 0, 1) := by decide +kernel
theorem dX10_far_27 : decode cX10_far 27 = .ok (.iload_n 1, 1) := by decide +kernel
theorem dX10_far_28 : decode cX10_far 28 = .ok (.invokevirtual 354, 3) := by decide +kernel
theorem dX10_far_31 : decode cX10_far 31 = .ok (.iadd, 1) := by decide +kernel
theorem dX10_far_32 : decode cX10_far 32 = .ok (.bipush 24, 2) := by decide +kernel
theorem dX10_far_34 : decode cX10_far 34 = .ok (.if_icmp .ge 28, 3) := by decide +kernel
theorem dX10_far_37 : decode cX10_far 37 = .ok (.aload_n 0, 1) := by decide +kernel
theorem dX10_far_38 : decode cX10_far 38 = .ok (.iload_n 1, 1) := by decide +kernel
theorem dX10_far_39 : decode cX10_far 39 = .ok (.iload_n 2, 1) := by decide +kernel
theorem dX10_far_40 : decode cX10_far 40 = .ok (.iconst 1, 1) := by decide +kernel
theorem dX10_far_41 : decode cX10_far 41 = .ok (.iadd, 1) := by decide +kernel
theorem dX10_far_42 : decode cX10_far 42 = .ok (.aload_n 0, 1) := by decide +kernel
theorem dX10_far_43 : decode cX10_far 43 = .ok (.iload_n 1, 1) := by decide +kernel
theorem dX10_far_44 : decode cX10_far 44 = .ok (.iconst 0, 1) := by decide +kernel
theorem dX10_far_45 : decode cX10_far 45 = .ok (.invokevirtual 360, 3) := by decide +kernel
theorem dX10_far_48 : decode cX10_far 48 = .ok (.iconst 0, 1) := by decide +kernel
theorem dX10_far_49 : decode cX10_far 49 = .ok (.iconst 0, 1) := by decide +kernel
theorem dX10_far_50 : decode cX10_far 50 = .ok (.invokevirtual 414, 3) := by decide +kernel
theorem dX10_far_53 : decode cX10_far 53 = .ok (.ifCond .eq 9, 3) := by decide +kernel
theorem dX10_far_56 : decode cX10_far 56 = .ok (.iinc 2 1, 3) := by decide +kernel
theorem dX10_far_59 : decode cX10_far 59 = .ok (.goto (-34), 3) := by decide +kernel
theorem dX10_far_62 : decode cX10_far 62 = .ok (.aload_n 0, 1) := by decide +kernel
theorem dX10_far_63 : decode cX10_far 63 = .ok (.iload_n 2, 1) := by decide +kernel
theorem dX10_far_64 : decode cX10_far 64 = .ok (.invokevirtual 64, 3) := by decide +kernel
theorem dX10_far_67 : decode cX10_far 67 = .ok (.ireturn, 1) := by decide +kernel
theorem dX10_laysWays_0 : decode cX10_laysWays 0 = .ok (.iconst 0, 1) := by decide +kernel
theorem dX10_laysWays_1 : decode cX10_laysWays 1 = .ok (.istore_n 2, 1) := by decide +kernel
theorem dX10_laysWays_2 : decode cX10_laysWays 2 = .ok (.iload_n 2, 1) := by decide +kernel
theorem dX10_laysWays_3 : decode cX10_laysWays 3 = .ok (.aload_n 0, 1) := by decide +kernel
theorem dX10_laysWays_4 : decode cX10_laysWays 4 = .ok (.getfield 41, 3) := by decide +kernel
theorem dX10_laysWays_7 : decode cX10_laysWays 7 = .ok (.arraylength, 1) := by decide +kernel
theorem dX10_laysWays_8 : decode cX10_laysWays 8 = .ok (.if_icmp .ge 16, 3) := by decide +kernel
theorem dX10_laysWays_11 : decode cX10_laysWays 11 = .ok (.aload_n 0, 1) := by decide +kernel
theorem dX10_laysWays_12 : decode cX10_laysWays 12 = .ok (.getfield 41, 3) := by decide +kernel
theorem dX10_laysWays_15 : decode cX10_laysWays 15 = .ok (.iload_n 2, 1) := by decide +kernel
theorem dX10_laysWays_16 : decode cX10_laysWays 16 = .ok (.lconst 0, 1) := by decide +kernel
theorem dX10_laysWays_17 : decode cX10_laysWays 17 = .ok (.lastore, 1) := by decide +kernel
theorem dX10_laysWays_18 : decode cX10_laysWays 18 = .ok (.iinc 2 1, 3) := by decide +kernel
theorem dX10_laysWays_21 : decode cX10_laysWays 21 = .ok (.goto (-19), 3) := by decide +kernel
theorem dX10_laysWays_24 : decode cX10_laysWays 24 = .ok (.aload_n 0, 1) := by decide +kernel
theorem dX10_laysWays_25 : decode cX10_laysWays 25 = .ok (.getfield 41, 3) := by decide +kernel
theorem dX10_laysWays_28 : decode cX10_laysWays 28 = .ok (.aload_n 0, 1) := by decide +kernel
theorem dX10_laysWays_29 : decode cX10_laysWays 29 = .ok (.iload_n 1, 1) := by decide +kernel
theorem dX10_laysWays_30 : decode cX10_laysWays 30 = .ok (.iconst 0, 1) := by decide +kernel
theorem dX10_laysWays_31 : decode cX10_laysWays 31 = .ok (.invokevirtual 360, 3) := by decide +kernel
theorem dX10_laysWays_34 : decode cX10_laysWays 34 = .ok (.bipush 100, 2) := by decide +kernel
theorem dX10_laysWays_36 : decode cX10_laysWays 36 = .ok (.imul, 1) := by decide +kernel
theorem dX10_laysWays_37 : decode cX10_laysWays 37 = .ok (.lconst 1, 1) := by decide +kernel
theorem dX10_laysWays_38 : decode cX10_laysWays 38 = .ok (.lastore, 1) := by decide +kernel
theorem dX10_laysWays_39 : decode cX10_laysWays 39 = .ok (.iconst 0, 1) := by decide +kernel
theorem dX10_laysWays_40 : decode cX10_laysWays 40 = .ok (.istore_n 2, 1) := by decide +kernel
theorem dX10_laysWays_41 : decode cX10_laysWays 41 = .ok (.iload_n 2, 1) := by decide +kernel
theorem dX10_laysWays_42 : decode cX10_laysWays 42 = .ok (.bipush 24, 2) := by decide +kernel
theorem dX10_laysWays_44 : decode cX10_laysWays 44 = .ok (.if_icmp .gt 187, 3) := by decide +kernel
theorem dX10_laysWays_47 : decode cX10_laysWays 47 = .ok (.iconst 0, 1) := by decide +kernel
theorem dX10_laysWays_48 : decode cX10_laysWays 48 = .ok (.istore_n 3, 1) := by decide +kernel
theorem dX10_laysWays_49 : decode cX10_laysWays 49 = .ok (.iload_n 3, 1) := by decide +kernel
theorem dX10_laysWays_50 : decode cX10_laysWays 50 = .ok (.bipush 9, 2) := by decide +kernel
theorem dX10_laysWays_52 : decode cX10_laysWays 52 = .ok (.if_icmp .ge 65, 3) := by decide +kernel
theorem dX10_laysWays_55 : decode cX10_laysWays 55 = .ok (.lconst 0, 1) := by decide +kernel
theorem dX10_laysWays_56 : decode cX10_laysWays 56 = .ok (.lstore 4, 2) := by decide +kernel
theorem dX10_laysWays_58 : decode cX10_laysWays 58 = .ok (.iconst 0, 1) := by decide +kernel
theorem dX10_laysWays_59 : decode cX10_laysWays 59 = .ok (.istore 6, 2) := by decide +kernel
theorem dX10_laysWays_61 : decode cX10_laysWays 61 = .ok (.iload 6, 2) := by decide +kernel
theorem dX10_laysWays_63 : decode cX10_laysWays 63 = .ok (.bipush 100, 2) := by decide +kernel
theorem dX10_laysWays_65 : decode cX10_laysWays 65 = .ok (.if_icmp .ge 28, 3) := by decide +kernel
theorem dX10_laysWays_68 : decode cX10_laysWays 68 = .ok (.lload 4, 2) := by decide +kernel
theorem dX10_laysWays_70 : decode cX10_laysWays 70 = .ok (.aload_n 0, 1) := by decide +kernel
theorem dX10_laysWays_71 : decode cX10_laysWays 71 = .ok (.getfield 41, 3) := by decide +kernel
theorem dX10_laysWays_74 : decode cX10_laysWays 74 = .ok (.iload_n 3, 1) := by decide +kernel
theorem dX10_laysWays_75 : decode cX10_laysWays 75 = .ok (.bipush 100, 2) := by decide +kernel
theorem dX10_laysWays_77 : decode cX10_laysWays 77 = .ok (.imul, 1) := by decide +kernel
theorem dX10_laysWays_78 : decode cX10_laysWays 78 = .ok (.iload 6, 2) := by decide +kernel
theorem dX10_laysWays_80 : decode cX10_laysWays 80 = .ok (.iadd, 1) := by decide +kernel
theorem dX10_laysWays_81 : decode cX10_laysWays 81 = .ok (.laload, 1) := by decide +kernel
theorem dX10_laysWays_82 : decode cX10_laysWays 82 = .ok (.invokestatic 477, 3) := by decide +kernel
theorem dX10_laysWays_85 : decode cX10_laysWays 85 = .ok (.lstore 4, 2) := by decide +kernel
theorem dX10_laysWays_87 : decode cX10_laysWays 87 = .ok (.iinc 6 1, 3) := by decide +kernel
theorem dX10_laysWays_90 : decode cX10_laysWays 90 = .ok (.goto (-29), 3) := by decide +kernel
theorem dX10_laysWays_93 : decode cX10_laysWays 93 = .ok (.aload_n 0, 1) := by decide +kernel
theorem dX10_laysWays_94 : decode cX10_laysWays 94 = .ok (.getfield 48, 3) := by decide +kernel
theorem dX10_laysWays_97 : decode cX10_laysWays 97 = .ok (.bipush 25, 2) := by decide +kernel
theorem dX10_laysWays_99 : decode cX10_laysWays 99 = .ok (.iload_n 1, 1) := by decide +kernel
theorem dX10_laysWays_100 : decode cX10_laysWays 100 = .ok (.imul, 1) := by decide +kernel
theorem dX10_laysWays_101 : decode cX10_laysWays 101 = .ok (.iload_n 2, 1) := by decide +kernel
theorem dX10_laysWays_102 : decode cX10_laysWays 102 = .ok (.iadd, 1) := by decide +kernel
theorem dX10_laysWays_103 : decode cX10_laysWays 103 = .ok (.bipush 9, 2) := by decide +kernel
theorem dX10_laysWays_105 : decode cX10_laysWays 105 = .ok (.imul, 1) := by decide +kernel
theorem dX10_laysWays_106 : decode cX10_laysWays 106 = .ok (.iload_n 3, 1) := by decide +kernel
theorem dX10_laysWays_107 : decode cX10_laysWays 107 = .ok (.iadd, 1) := by decide +kernel
theorem dX10_laysWays_108 : decode cX10_laysWays 108 = .ok (.lload 4, 2) := by decide +kernel
theorem dX10_laysWays_110 : decode cX10_laysWays 110 = .ok (.lastore, 1) := by decide +kernel
theorem dX10_laysWays_111 : decode cX10_laysWays 111 = .ok (.iinc 3 1, 3) := by decide +kernel
theorem dX10_laysWays_114 : decode cX10_laysWays 114 = .ok (.goto (-65), 3) := by decide +kernel
theorem dX10_laysWays_117 : decode cX10_laysWays 117 = .ok (.iconst 0, 1) := by decide +kernel
theorem dX10_laysWays_118 : decode cX10_laysWays 118 = .ok (.istore_n 3, 1) := by decide +kernel
theorem dX10_laysWays_119 : decode cX10_laysWays 119 = .ok (.iload_n 3, 1) := by decide +kernel
theorem dX10_laysWays_120 : decode cX10_laysWays 120 = .ok (.aload_n 0, 1) := by decide +kernel
theorem dX10_laysWays_121 : decode cX10_laysWays 121 = .ok (.getfield 45, 3) := by decide +kernel
theorem dX10_laysWays_124 : decode cX10_laysWays 124 = .ok (.arraylength, 1) := by decide +kernel
theorem dX10_laysWays_125 : decode cX10_laysWays 125 = .ok (.if_icmp .ge 16, 3) := by decide +kernel
theorem dX10_laysWays_128 : decode cX10_laysWays 128 = .ok (.aload_n 0, 1) := by decide +kernel
theorem dX10_laysWays_129 : decode cX10_laysWays 129 = .ok (.getfield 45, 3) := by decide +kernel
theorem dX10_laysWays_132 : decode cX10_laysWays 132 = .ok (.iload_n 3, 1) := by decide +kernel
theorem dX10_laysWays_133 : decode cX10_laysWays 133 = .ok (.lconst 0, 1) := by decide +kernel
theorem dX10_laysWays_134 : decode cX10_laysWays 134 = .ok (.lastore, 1) := by decide +kernel
theorem dX10_laysWays_135 : decode cX10_laysWays 135 = .ok (.iinc 3 1, 3) := by decide +kernel
theorem dX10_laysWays_138 : decode cX10_laysWays 138 = .ok (.goto (-19), 3) := by decide +kernel
theorem dX10_laysWays_141 : decode cX10_laysWays 141 = .ok (.iconst 0, 1) := by decide +kernel
theorem dX10_laysWays_142 : decode cX10_laysWays 142 = .ok (.istore_n 3, 1) := by decide +kernel
theorem dX10_laysWays_143 : decode cX10_laysWays 143 = .ok (.iload_n 3, 1) := by decide +kernel
theorem dX10_laysWays_144 : decode cX10_laysWays 144 = .ok (.bipush 9, 2) := by decide +kernel
theorem dX10_laysWays_146 : decode cX10_laysWays 146 = .ok (.if_icmp .ge 50, 3) := by decide +kernel
theorem dX10_laysWays_149 : decode cX10_laysWays 149 = .ok (.iconst 0, 1) := by decide +kernel
theorem dX10_laysWays_150 : decode cX10_laysWays 150 = .ok (.istore 4, 2) := by decide +kernel
theorem dX10_laysWays_152 : decode cX10_laysWays 152 = .ok (.iload 4, 2) := by decide +kernel
theorem dX10_laysWays_154 : decode cX10_laysWays 154 = .ok (.bipush 100, 2) := by decide +kernel
theorem dX10_laysWays_156 : decode cX10_laysWays 156 = .ok (.if_icmp .ge 34, 3) := by decide +kernel
theorem dX10_laysWays_159 : decode cX10_laysWays 159 = .ok (.aload_n 0, 1) := by decide +kernel
theorem dX10_laysWays_160 : decode cX10_laysWays 160 = .ok (.getfield 41, 3) := by decide +kernel
theorem dX10_laysWays_163 : decode cX10_laysWays 163 = .ok (.iload_n 3, 1) := by decide +kernel
theorem dX10_laysWays_164 : decode cX10_laysWays 164 = .ok (.bipush 100, 2) := by decide +kernel
theorem dX10_laysWays_166 : decode cX10_laysWays 166 = .ok (.imul, 1) := by decide +kernel
theorem dX10_laysWays_167 : decode cX10_laysWays 167 = .ok (.iload 4, 2) := by decide +kernel
theorem dX10_laysWays_169 : decode cX10_laysWays 169 = .ok (.iadd, 1) := by decide +kernel
theorem dX10_laysWays_170 : decode cX10_laysWays 170 = .ok (.laload, 1) := by decide +kernel
theorem dX10_laysWays_171 : decode cX10_laysWays 171 = .ok (.lconst 0, 1) := by decide +kernel
theorem dX10_laysWays_172 : decode cX10_laysWays 172 = .ok (.lcmp, 1) := by decide +kernel
theorem dX10_laysWays_173 : decode cX10_laysWays 173 = .ok (.ifCond .le 11, 3) := by decide +kernel
theorem dX10_laysWays_176 : decode cX10_laysWays 176 = .ok (.aload_n 0, 1) := by decide +kernel
theorem dX10_laysWays_177 : decode cX10_laysWays 177 = .ok (.iload_n 1, 1) := by decide +kernel
theorem dX10_laysWays_178 : decode cX10_laysWays 178 = .ok (.iload_n 3, 1) := by decide +kernel
theorem dX10_laysWays_179 : decode cX10_laysWays 179 = .ok (.iload 4, 2) := by decide +kernel
theorem dX10_laysWays_181 : decode cX10_laysWays 181 = .ok (.invokevirtual 481, 3) := by decide +kernel
theorem dX10_laysWays_184 : decode cX10_laysWays 184 = .ok (.iinc 4 1, 3) := by decide +kernel
theorem dX10_laysWays_187 : decode cX10_laysWays 187 = .ok (.goto (-35), 3) := by decide +kernel
theorem dX10_laysWays_190 : decode cX10_laysWays 190 = .ok (.iinc 3 1, 3) := by decide +kernel
theorem dX10_laysWays_193 : decode cX10_laysWays 193 = .ok (.goto (-50), 3) := by decide +kernel
theorem dX10_laysWays_196 : decode cX10_laysWays 196 = .ok (.iconst 0, 1) := by decide +kernel
theorem dX10_laysWays_197 : decode cX10_laysWays 197 = .ok (.istore_n 3, 1) := by decide +kernel
theorem dX10_laysWays_198 : decode cX10_laysWays 198 = .ok (.iload_n 3, 1) := by decide +kernel
theorem dX10_laysWays_199 : decode cX10_laysWays 199 = .ok (.aload_n 0, 1) := by decide +kernel
theorem dX10_laysWays_200 : decode cX10_laysWays 200 = .ok (.getfield 41, 3) := by decide +kernel
theorem dX10_laysWays_203 : decode cX10_laysWays 203 = .ok (.arraylength, 1) := by decide +kernel
theorem dX10_laysWays_204 : decode cX10_laysWays 204 = .ok (.if_icmp .ge 21, 3) := by decide +kernel
theorem dX10_laysWays_207 : decode cX10_laysWays 207 = .ok (.aload_n 0, 1) := by decide +kernel
theorem dX10_laysWays_208 : decode cX10_laysWays 208 = .ok (.getfield 41, 3) := by decide +kernel
theorem dX10_laysWays_211 : decode cX10_laysWays 211 = .ok (.iload_n 3, 1) := by decide +kernel
theorem dX10_laysWays_212 : decode cX10_laysWays 212 = .ok (.aload_n 0, 1) := by decide +kernel
theorem dX10_laysWays_213 : decode cX10_laysWays 213 = .ok (.getfield 45, 3) := by decide +kernel
theorem dX10_laysWays_216 : decode cX10_laysWays 216 = .ok (.iload_n 3, 1) := by decide +kernel
theorem dX10_laysWays_217 : decode cX10_laysWays 217 = .ok (.laload, 1) := by decide +kernel
theorem dX10_laysWays_218 : decode cX10_laysWays 218 = .ok (.lastore, 1) := by decide +kernel
theorem dX10_laysWays_219 : decode cX10_laysWays 219 = .ok (.iinc 3 1, 3) := by decide +kernel
theorem dX10_laysWays_222 : decode cX10_laysWays 222 = .ok (.goto (-24), 3) := by decide +kernel
theorem dX10_laysWays_225 : decode cX10_laysWays 225 = .ok (.iinc 2 1, 3) := by decide +kernel
theorem dX10_laysWays_228 : decode cX10_laysWays 228 = .ok (.goto (-187), 3) := by decide +kernel
theorem dX10_laysWays_231 : decode cX10_laysWays 231 = .ok (.return_, 1) := by decide +kernel
theorem dX10_goes_0 : decode cX10_goes 0 = .ok (.iconst 0, 1) := by decide +kernel
theorem dX10_goes_1 : decode cX10_goes 1 = .ok (.istore 4, 2) := by decide +kernel
theorem dX10_goes_3 : decode cX10_goes 3 = .ok (.iload 4, 2) := by decide +kernel
theorem dX10_goes_5 : decode cX10_goes 5 = .ok (.aload_n 0, 1) := by decide +kernel
theorem dX10_goes_6 : decode cX10_goes 6 = .ok (.getfield 346, 3) := by decide +kernel
theorem dX10_goes_9 : decode cX10_goes 9 = .ok (.getfield 203, 3) := by decide +kernel
theorem dX10_goes_12 : decode cX10_goes 12 = .ok (.if_icmp .ge 118, 3) := by decide +kernel
theorem dX10_goes_15 : decode cX10_goes 15 = .ok (.iload_n 3, 1) := by decide +kernel
theorem dX10_goes_16 : decode cX10_goes 16 = .ok (.bipush 10, 2) := by decide +kernel
theorem dX10_goes_18 : decode cX10_goes 18 = .ok (.idiv, 1) := by decide +kernel
theorem dX10_goes_19 : decode cX10_goes 19 = .ok (.aload_n 0, 1) := by decide +kernel
theorem dX10_goes_20 : decode cX10_goes 20 = .ok (.iload 4, 2) := by decide +kernel
theorem dX10_goes_22 : decode cX10_goes 22 = .ok (.invokevirtual 408, 3) := by decide +kernel
theorem dX10_goes_25 : decode cX10_goes 25 = .ok (.iadd, 1) := by decide +kernel
theorem dX10_goes_26 : decode cX10_goes 26 = .ok (.istore 5, 2) := by decide +kernel
theorem dX10_goes_28 : decode cX10_goes 28 = .ok (.iload_n 3, 1) := by decide +kernel
theorem dX10_goes_29 : decode cX10_goes 29 = .ok (.bipush 10, 2) := by decide +kernel
theorem dX10_goes_31 : decode cX10_goes 31 = .ok (.irem, 1) := by decide +kernel
theorem dX10_goes_32 : decode cX10_goes 32 = .ok (.aload_n 0, 1) := by decide +kernel
theorem dX10_goes_33 : decode cX10_goes 33 = .ok (.iload 4, 2) := by decide +kernel
theorem dX10_goes_35 : decode cX10_goes 35 = .ok (.invokevirtual 411, 3) := by decide +kernel
theorem dX10_goes_38 : decode cX10_goes 38 = .ok (.iadd, 1) := by decide +kernel
theorem dX10_goes_39 : decode cX10_goes 39 = .ok (.istore 6, 2) := by decide +kernel
theorem dX10_goes_41 : decode cX10_goes 41 = .ok (.aload_n 0, 1) := by decide +kernel
theorem dX10_goes_42 : decode cX10_goes 42 = .ok (.getfield 346, 3) := by decide +kernel
theorem dX10_goes_45 : decode cX10_goes 45 = .ok (.iload_n 1, 1) := by decide +kernel
theorem dX10_goes_46 : decode cX10_goes 46 = .ok (.iload_n 2, 1) := by decide +kernel
theorem dX10_goes_47 : decode cX10_goes 47 = .ok (.iload 4, 2) := by decide +kernel
theorem dX10_goes_49 : decode cX10_goes 49 = .ok (.invokevirtual 299, 3) := by decide +kernel
theorem dX10_goes_52 : decode cX10_goes 52 = .ok (.ifCond .eq 72, 3) := by decide +kernel
theorem dX10_goes_55 : decode cX10_goes 55 = .ok (.iload 5, 2) := by decide +kernel
theorem dX10_goes_57 : decode cX10_goes 57 = .ok (.aload_n 0, 1) := by decide +kernel
theorem dX10_goes_58 : decode cX10_goes 58 = .ok (.iload_n 1, 1) := by decide +kernel
theorem dX10_goes_59 : decode cX10_goes 59 = .ok (.iconst 0, 1) := by decide +kernel
theorem dX10_goes_60 : decode cX10_goes 60 = .ok (.invokevirtual 402, 3) := by decide +kernel
theorem dX10_goes_63 : decode cX10_goes 63 = .ok (.if_icmp .gt 61, 3) := by decide +kernel
theorem dX10_goes_66 : decode cX10_goes 66 = .ok (.iload 6, 2) := by decide +kernel
theorem dX10_goes_68 : decode cX10_goes 68 = .ok (.aload_n 0, 1) := by decide +kernel
theorem dX10_goes_69 : decode cX10_goes 69 = .ok (.iload_n 1, 1) := by decide +kernel
theorem dX10_goes_70 : decode cX10_goes 70 = .ok (.iconst 1, 1) := by decide +kernel
theorem dX10_goes_71 : decode cX10_goes 71 = .ok (.invokevirtual 402, 3) := by decide +kernel
theorem dX10_goes_74 : decode cX10_goes 74 = .ok (.if_icmp .le 6, 3) := by decide +kernel
theorem dX10_goes_77 : decode cX10_goes 77 = .ok (.goto 47, 3) := by decide +kernel
theorem dX10_goes_80 : decode cX10_goes 80 = .ok (.iload 4, 2) := by decide +kernel
theorem dX10_goes_82 : decode cX10_goes 82 = .ok (.bipush 100, 2) := by decide +kernel
theorem dX10_goes_84 : decode cX10_goes 84 = .ok (.imul, 1) := by decide +kernel
theorem dX10_goes_85 : decode cX10_goes 85 = .ok (.iload 5, 2) := by decide +kernel
theorem dX10_goes_87 : decode cX10_goes 87 = .ok (.bipush 10, 2) := by decide +kernel
theorem dX10_goes_89 : decode cX10_goes 89 = .ok (.imul, 1) := by decide +kernel
theorem dX10_goes_90 : decode cX10_goes 90 = .ok (.iadd, 1) := by decide +kernel
theorem dX10_goes_91 : decode cX10_goes 91 = .ok (.iload 6, 2) := by decide +kernel
theorem dX10_goes_93 : decode cX10_goes 93 = .ok (.iadd, 1) := by decide +kernel
theorem dX10_goes_94 : decode cX10_goes 94 = .ok (.istore 7, 2) := by decide +kernel
theorem dX10_goes_96 : decode cX10_goes 96 = .ok (.aload_n 0, 1) := by decide +kernel
theorem dX10_goes_97 : decode cX10_goes 97 = .ok (.getfield 45, 3) := by decide +kernel
theorem dX10_goes_100 : decode cX10_goes 100 = .ok (.iload 7, 2) := by decide +kernel
theorem dX10_goes_102 : decode cX10_goes 102 = .ok (.aload_n 0, 1) := by decide +kernel
theorem dX10_goes_103 : decode cX10_goes 103 = .ok (.getfield 45, 3) := by decide +kernel
theorem dX10_goes_106 : decode cX10_goes 106 = .ok (.iload 7, 2) := by decide +kernel
theorem dX10_goes_108 : decode cX10_goes 108 = .ok (.laload, 1) := by decide +kernel
theorem dX10_goes_109 : decode cX10_goes 109 = .ok (.aload_n 0, 1) := by decide +kernel
theorem dX10_goes_110 : decode cX10_goes 110 = .ok (.getfield 41, 3) := by decide +kernel
theorem dX10_goes_113 : decode cX10_goes 113 = .ok (.iload_n 2, 1) := by decide +kernel
theorem dX10_goes_114 : decode cX10_goes 114 = .ok (.bipush 100, 2) := by decide +kernel
theorem dX10_goes_116 : decode cX10_goes 116 = .ok (.imul, 1) := by decide +kernel
theorem dX10_goes_117 : decode cX10_goes 117 = .ok (.iload_n 3, 1) := by decide +kernel
theorem dX10_goes_118 : decode cX10_goes 118 = .ok (.iadd, 1) := by decide +kernel
theorem dX10_goes_119 : decode cX10_goes 119 = .ok (.laload, 1) := by decide +kernel
theorem dX10_goes_120 : decode cX10_goes 120 = .ok (.invokestatic 477, 3) := by decide +kernel
theorem dX10_goes_123 : decode cX10_goes 123 = .ok (.lastore, 1) := by decide +kernel
theorem dX10_goes_124 : decode cX10_goes 124 = .ok (.iinc 4 1, 3) := by decide +kernel
theorem dX10_goes_127 : decode cX10_goes 127 = .ok (.goto (-124), 3) := by decide +kernel
theorem dX10_goes_130 : decode cX10_goes 130 = .ok (.return_, 1) := by decide +kernel
theorem dX10_ways_0 : decode cX10_ways 0 = .ok (.aload_n 0, 1) := by decide +kernel
theorem dX10_ways_1 : decode cX10_ways 1 = .ok (.iconst 0, 1) := by decide +kernel
theorem dX10_ways_2 : decode cX10_ways 2 = .ok (.putfield 54, 3) := by decide +kernel
theorem dX10_ways_5 : decode cX10_ways 5 = .ok (.aload_n 0, 1) := by decide +kernel
theorem dX10_ways_6 : decode cX10_ways 6 = .ok (.getfield 346, 3) := by decide +kernel
theorem dX10_ways_9 : decode cX10_ways 9 = .ok (.ifnonnull 10, 3) := by decide +kernel
theorem dX10_ways_12 : decode cX10_ways 12 = .ok (.aload_n 0, 1) := by decide +kernel
theorem dX10_ways_13 : decode cX10_ways 13 = .ok (.iconst 1, 1) := by decide +kernel
theorem dX10_ways_14 : decode cX10_ways 14 = .ok (.invokevirtual 60, 3) := by decide +kernel
theorem dX10_ways_17 : decode cX10_ways 17 = .ok (.i2l, 1) := by decide +kernel
theorem dX10_ways_18 : decode cX10_ways 18 = .ok (.lreturn, 1) := by decide +kernel
theorem dX10_ways_19 : decode cX10_ways 19 = .ok (.aload_n 0, 1) := by decide +kernel
theorem dX10_ways_20 : decode cX10_ways 20 = .ok (.iconst 0, 1) := by decide +kernel
theorem dX10_ways_21 : decode cX10_ways 21 = .ok (.invokevirtual 485, 3) := by decide +kernel
theorem dX10_ways_24 : decode cX10_ways 24 = .ok (.aload_n 0, 1) := by decide +kernel
theorem dX10_ways_25 : decode cX10_ways 25 = .ok (.iconst 1, 1) := by decide +kernel
theorem dX10_ways_26 : decode cX10_ways 26 = .ok (.invokevirtual 485, 3) := by decide +kernel
theorem dX10_ways_29 : decode cX10_ways 29 = .ok (.lconst 0, 1) := by decide +kernel
theorem dX10_ways_30 : decode cX10_ways 30 = .ok (.lstore_n 1, 1) := by decide +kernel
theorem dX10_ways_31 : decode cX10_ways 31 = .ok (.iconst 0, 1) := by decide +kernel
theorem dX10_ways_32 : decode cX10_ways 32 = .ok (.istore_n 3, 1) := by decide +kernel
theorem dX10_ways_33 : decode cX10_ways 33 = .ok (.iload_n 3, 1) := by decide +kernel
theorem dX10_ways_34 : decode cX10_ways 34 = .ok (.aload_n 0, 1) := by decide +kernel
theorem dX10_ways_35 : decode cX10_ways 35 = .ok (.iconst 0, 1) := by decide +kernel
theorem dX10_ways_36 : decode cX10_ways 36 = .ok (.invokevirtual 354, 3) := by decide +kernel
theorem dX10_ways_39 : decode cX10_ways 39 = .ok (.iadd, 1) := by decide +kernel
theorem dX10_ways_40 : decode cX10_ways 40 = .ok (.bipush 24, 2) := by decide +kernel
theorem dX10_ways_42 : decode cX10_ways 42 = .ok (.if_icmp .gt 149, 3) := by decide +kernel
theorem dX10_ways_45 : decode cX10_ways 45 = .ok (.iconst 0, 1) := by decide +kernel
theorem dX10_ways_46 : decode cX10_ways 46 = .ok (.istore 4, 2) := by decide +kernel
theorem dX10_ways_48 : decode cX10_ways 48 = .ok (.iload 4, 2) := by decide +kernel
theorem dX10_ways_50 : decode cX10_ways 50 = .ok (.aload_n 0, 1) := by decide +kernel
theorem dX10_ways_51 : decode cX10_ways 51 = .ok (.iconst 1, 1) := by decide +kernel
theorem dX10_ways_52 : decode cX10_ways 52 = .ok (.invokevirtual 354, 3) := by decide +kernel
theorem dX10_ways_55 : decode cX10_ways 55 = .ok (.iadd, 1) := by decide +kernel
theorem dX10_ways_56 : decode cX10_ways 56 = .ok (.bipush 24, 2) := by decide +kernel
theorem dX10_ways_58 : decode cX10_ways 58 = .ok (.if_icmp .gt 127, 3) := by decide +kernel
theorem dX10_ways_61 : decode cX10_ways 61 = .ok (.aload_n 0, 1) := by decide +kernel
theorem dX10_ways_62 : decode cX10_ways 62 = .ok (.aload_n 0, 1) := by decide +kernel
theorem dX10_ways_63 : decode cX10_ways 63 = .ok (.aload_n 0, 1) := by decide +kernel
theorem dX10_ways_64 : decode cX10_ways 64 = .ok (.iconst 0, 1) := by decide +kernel
theorem dX10_ways_65 : decode cX10_ways 65 = .ok (.invokevirtual 354, 3) := by decide +kernel
theorem dX10_ways_68 : decode cX10_ways 68 = .ok (.iload_n 3, 1) := by decide +kernel
theorem dX10_ways_69 : decode cX10_ways 69 = .ok (.iadd, 1) := by decide +kernel
theorem dX10_ways_70 : decode cX10_ways 70 = .ok (.aload_n 0, 1) := by decide +kernel
theorem dX10_ways_71 : decode cX10_ways 71 = .ok (.iconst 1, 1) := by decide +kernel
theorem dX10_ways_72 : decode cX10_ways 72 = .ok (.invokevirtual 354, 3) := by decide +kernel
theorem dX10_ways_75 : decode cX10_ways 75 = .ok (.iload 4, 2) := by decide +kernel
theorem dX10_ways_77 : decode cX10_ways 77 = .ok (.iadd, 1) := by decide +kernel
theorem dX10_ways_78 : decode cX10_ways 78 = .ok (.invokevirtual 380, 3) := by decide +kernel
theorem dX10_ways_81 : decode cX10_ways 81 = .ok (.invokevirtual 417, 3) := by decide +kernel
theorem dX10_ways_84 : decode cX10_ways 84 = .ok (.ifCond .ne 6, 3) := by decide +kernel
theorem dX10_ways_87 : decode cX10_ways 87 = .ok (.goto 92, 3) := by decide +kernel
theorem dX10_ways_90 : decode cX10_ways 90 = .ok (.iconst 0, 1) := by decide +kernel
theorem dX10_ways_91 : decode cX10_ways 91 = .ok (.istore 5, 2) := by decide +kernel
theorem dX10_ways_93 : decode cX10_ways 93 = .ok (.iload 5, 2) := by decide +kernel
theorem dX10_ways_95 : decode cX10_ways 95 = .ok (.aload_n 0, 1) := by decide +kernel
theorem dX10_ways_96 : decode cX10_ways 96 = .ok (.getfield 346, 3) := by decide +kernel
theorem dX10_ways_99 : decode cX10_ways 99 = .ok (.getfield 203, 3) := by decide +kernel
theorem dX10_ways_102 : decode cX10_ways 102 = .ok (.if_icmp .ge 77, 3) := by decide +kernel
theorem dX10_ways_105 : decode cX10_ways 105 = .ok (.iconst 0, 1) := by decide +kernel
theorem dX10_ways_106 : decode cX10_ways 106 = .ok (.istore 6, 2) := by decide +kernel
theorem dX10_ways_108 : decode cX10_ways 108 = .ok (.iload 6, 2) := by decide +kernel
theorem dX10_ways_110 : decode cX10_ways 110 = .ok (.aload_n 0, 1) := by decide +kernel
theorem dX10_ways_111 : decode cX10_ways 111 = .ok (.getfield 346, 3) := by decide +kernel
theorem dX10_ways_114 : decode cX10_ways 114 = .ok (.getfield 203, 3) := by decide +kernel
theorem dX10_ways_117 : decode cX10_ways 117 = .ok (.if_icmp .ge 56, 3) := by decide +kernel
theorem dX10_ways_120 : decode cX10_ways 120 = .ok (.aload_n 0, 1) := by decide +kernel
theorem dX10_ways_121 : decode cX10_ways 121 = .ok (.iload 5, 2) := by decide +kernel
theorem dX10_ways_123 : decode cX10_ways 123 = .ok (.iload 6, 2) := by decide +kernel
theorem dX10_ways_125 : decode cX10_ways 125 = .ok (.invokevirtual 372, 3) := by decide +kernel
theorem dX10_ways_128 : decode cX10_ways 128 = .ok (.ifCond .eq 39, 3) := by decide +kernel
theorem dX10_ways_131 : decode cX10_ways 131 = .ok (.lload_n 1, 1) := by decide +kernel
theorem dX10_ways_132 : decode cX10_ways 132 = .ok (.aload_n 0, 1) := by decide +kernel
theorem dX10_ways_133 : decode cX10_ways 133 = .ok (.getfield 48, 3) := by decide +kernel
theorem dX10_ways_136 : decode cX10_ways 136 = .ok (.iload_n 3, 1) := by decide +kernel
theorem dX10_ways_137 : decode cX10_ways 137 = .ok (.bipush 9, 2) := by decide +kernel
theorem dX10_ways_139 : decode cX10_ways 139 = .ok (.imul, 1) := by decide +kernel
theorem dX10_ways_140 : decode cX10_ways 140 = .ok (.iload 5, 2) := by decide +kernel
theorem dX10_ways_142 : decode cX10_ways 142 = .ok (.iadd, 1) := by decide +kernel
theorem dX10_ways_143 : decode cX10_ways 143 = .ok (.laload, 1) := by decide +kernel
theorem dX10_ways_144 : decode cX10_ways 144 = .ok (.aload_n 0, 1) := by decide +kernel
theorem dX10_ways_145 : decode cX10_ways 145 = .ok (.getfield 48, 3) := by decide +kernel
theorem dX10_ways_148 : decode cX10_ways 148 = .ok (.bipush 25, 2) := by decide +kernel
theorem dX10_ways_150 : decode cX10_ways 150 = .ok (.iload 4, 2) := by decide +kernel
theorem dX10_ways_152 : decode cX10_ways 152 = .ok (.iadd, 1) := by decide +kernel
theorem dX10_ways_153 : decode cX10_ways 153 = .ok (.bipush 9, 2) := by decide +kernel
theorem dX10_ways_155 : decode cX10_ways 155 = .ok (.imul, 1) := by decide +kernel
theorem dX10_ways_156 : decode cX10_ways 156 = .ok (.iload 6, 2) := by decide +kernel
theorem dX10_ways_158 : decode cX10_ways 158 = .ok (.iadd, 1) := by decide +kernel
theorem dX10_ways_159 : decode cX10_ways 159 = .ok (.laload, 1) := by decide +kernel
theorem dX10_ways_160 : decode cX10_ways 160 = .ok (.invokestatic 488, 3) := by decide +kernel
theorem dX10_ways_163 : decode cX10_ways 163 = .ok (.invokestatic 477, 3) := by decide +kernel
theorem dX10_ways_166 : decode cX10_ways 166 = .ok (.lstore_n 1, 1) := by decide +kernel
theorem dX10_ways_167 : decode cX10_ways 167 = .ok (.iinc 6 1, 3) := by decide +kernel
theorem dX10_ways_170 : decode cX10_ways 170 = .ok (.goto (-62), 3) := by decide +kernel
theorem dX10_ways_173 : decode cX10_ways 173 = .ok (.iinc 5 1, 3) := by decide +kernel
theorem dX10_ways_176 : decode cX10_ways 176 = .ok (.goto (-83), 3) := by decide +kernel
theorem dX10_ways_179 : decode cX10_ways 179 = .ok (.iinc 4 1, 3) := by decide +kernel
theorem dX10_ways_182 : decode cX10_ways 182 = .ok (.goto (-134), 3) := by decide +kernel
theorem dX10_ways_185 : decode cX10_ways 185 = .ok (.iinc 3 1, 3) := by decide +kernel
theorem dX10_ways_188 : decode cX10_ways 188 = .ok (.goto (-155), 3) := by decide +kernel
theorem dX10_ways_191 : decode cX10_ways 191 = .ok (.aload_n 0, 1) := by decide +kernel
theorem dX10_ways_192 : decode cX10_ways 192 = .ok (.iconst 0, 1) := by decide +kernel
theorem dX10_ways_193 : decode cX10_ways 193 = .ok (.invokevirtual 64, 3) := by decide +kernel
theorem dX10_ways_196 : decode cX10_ways 196 = .ok (.pop, 1) := by decide +kernel
theorem dX10_ways_197 : decode cX10_ways 197 = .ok (.lload_n 1, 1) := by decide +kernel
theorem dX10_ways_198 : decode cX10_ways 198 = .ok (.lreturn, 1) := by decide +kernel
theorem dX10_isSure_0 : decode cX10_isSure 0 = .ok (.aload_n 0, 1) := by decide +kernel
theorem dX10_isSure_1 : decode cX10_isSure 1 = .ok (.iload_n 1, 1) := by decide +kernel
theorem dX10_isSure_2 : decode cX10_isSure 2 = .ok (.iload_n 2, 1) := by decide +kernel
theorem dX10_isSure_3 : decode cX10_isSure 3 = .ok (.invokevirtual 392, 3) := by decide +kernel
theorem dX10_isSure_6 : decode cX10_isSure 6 = .ok (.iconst 1, 1) := by decide +kernel
theorem dX10_isSure_7 : decode cX10_isSure 7 = .ok (.iload_n 1, 1) := by decide +kernel
theorem dX10_isSure_8 : decode cX10_isSure 8 = .ok (.isub, 1) := by decide +kernel
theorem dX10_isSure_9 : decode cX10_isSure 9 = .ok (.istore_n 3, 1) := by decide +kernel
theorem dX10_isSure_10 : decode cX10_isSure 10 = .ok (.aload_n 0, 1) := by decide +kernel
theorem dX10_isSure_11 : decode cX10_isSure 11 = .ok (.iload_n 3, 1) := by decide +kernel
theorem dX10_isSure_12 : decode cX10_isSure 12 = .ok (.invokevirtual 383, 3) := by decide +kernel
theorem dX10_isSure_15 : decode cX10_isSure 15 = .ok (.istore 4, 2) := by decide +kernel
theorem dX10_isSure_17 : decode cX10_isSure 17 = .ok (.iload 4, 2) := by decide +kernel
theorem dX10_isSure_19 : decode cX10_isSure 19 = .ok (.ifCond .ne 11, 3) := by decide +kernel
theorem dX10_isSure_22 : decode cX10_isSure 22 = .ok (.aload_n 0, 1) := by decide +kernel
theorem dX10_isSure_23 : decode cX10_isSure 23 = .ok (.iconst 0, 1) := by decide +kernel
theorem dX10_isSure_24 : decode cX10_isSure 24 = .ok (.invokevirtual 445, 3) := by decide +kernel
theorem dX10_isSure_27 : decode cX10_isSure 27 = .ok (.ifCond .eq 7, 3) := by decide +kernel
theorem dX10_isSure_30 : decode cX10_isSure 30 = .ok (.iconst 1, 1) := by decide +kernel
theorem dX10_isSure_31 : decode cX10_isSure 31 = .ok (.goto 4, 3) := by decide +kernel
theorem dX10_isSure_34 : decode cX10_isSure 34 = .ok (.iconst 0, 1) := by decide +kernel
theorem dX10_isSure_35 : decode cX10_isSure 35 = .ok (.istore 5, 2) := by decide +kernel
theorem dX10_isSure_37 : decode cX10_isSure 37 = .ok (.iconst 0, 1) := by decide +kernel
theorem dX10_isSure_38 : decode cX10_isSure 38 = .ok (.istore 6, 2) := by decide +kernel
theorem dX10_isSure_40 : decode cX10_isSure 40 = .ok (.iload 6, 2) := by decide +kernel
theorem dX10_isSure_42 : decode cX10_isSure 42 = .ok (.aload_n 0, 1) := by decide +kernel
theorem dX10_isSure_43 : decode cX10_isSure 43 = .ok (.getfield 346, 3) := by decide +kernel
theorem dX10_isSure_46 : decode cX10_isSure 46 = .ok (.getfield 203, 3) := by decide +kernel
theorem dX10_isSure_49 : decode cX10_isSure 49 = .ok (.if_icmp .ge 46, 3) := by decide +kernel
theorem dX10_isSure_52 : decode cX10_isSure 52 = .ok (.iload 5, 2) := by decide +kernel
theorem dX10_isSure_54 : decode cX10_isSure 54 = .ok (.ifCond .eq 41, 3) := by decide +kernel
theorem dX10_isSure_57 : decode cX10_isSure 57 = .ok (.iload 4, 2) := by decide +kernel
theorem dX10_isSure_59 : decode cX10_isSure 59 = .ok (.iload 6, 2) := by decide +kernel
theorem dX10_isSure_61 : decode cX10_isSure 61 = .ok (.invokestatic 287, 3) := by decide +kernel
theorem dX10_isSure_64 : decode cX10_isSure 64 = .ok (.ifCond .ne 6, 3) := by decide +kernel
theorem dX10_isSure_67 : decode cX10_isSure 67 = .ok (.goto 22, 3) := by decide +kernel
theorem dX10_isSure_70 : decode cX10_isSure 70 = .ok (.aload_n 0, 1) := by decide +kernel
theorem dX10_isSure_71 : decode cX10_isSure 71 = .ok (.iload_n 3, 1) := by decide +kernel
theorem dX10_isSure_72 : decode cX10_isSure 72 = .ok (.iload 6, 2) := by decide +kernel
theorem dX10_isSure_74 : decode cX10_isSure 74 = .ok (.invokevirtual 392, 3) := by decide +kernel
theorem dX10_isSure_77 : decode cX10_isSure 77 = .ok (.aload_n 0, 1) := by decide +kernel
theorem dX10_isSure_78 : decode cX10_isSure 78 = .ok (.iconst 0, 1) := by decide +kernel
theorem dX10_isSure_79 : decode cX10_isSure 79 = .ok (.invokevirtual 445, 3) := by decide +kernel
theorem dX10_isSure_82 : decode cX10_isSure 82 = .ok (.istore 5, 2) := by decide +kernel
theorem dX10_isSure_84 : decode cX10_isSure 84 = .ok (.aload_n 0, 1) := by decide +kernel
theorem dX10_isSure_85 : decode cX10_isSure 85 = .ok (.iload_n 3, 1) := by decide +kernel
theorem dX10_isSure_86 : decode cX10_isSure 86 = .ok (.invokevirtual 491, 3) := by decide +kernel
theorem dX10_isSure_89 : decode cX10_isSure 89 = .ok (.iinc 6 1, 3) := by decide +kernel
theorem dX10_isSure_92 : decode cX10_isSure 92 = .ok (.goto (-52), 3) := by decide +kernel
theorem dX10_isSure_95 : decode cX10_isSure 95 = .ok (.aload_n 0, 1) := by decide +kernel
theorem dX10_isSure_96 : decode cX10_isSure 96 = .ok (.iload_n 1, 1) := by decide +kernel
theorem dX10_isSure_97 : decode cX10_isSure 97 = .ok (.invokevirtual 491, 3) := by decide +kernel
theorem dX10_isSure_100 : decode cX10_isSure 100 = .ok (.iload 5, 2) := by decide +kernel
theorem dX10_isSure_102 : decode cX10_isSure 102 = .ok (.ireturn, 1) := by decide +kernel
theorem dX10_sure_0 : decode cX10_sure 0 = .ok (.aload_n 0, 1) := by decide +kernel
theorem dX10_sure_1 : decode cX10_sure 1 = .ok (.iconst 0, 1) := by decide +kernel
theorem dX10_sure_2 : decode cX10_sure 2 = .ok (.putfield 54, 3) := by decide +kernel
theorem dX10_sure_5 : decode cX10_sure 5 = .ok (.aload_n 0, 1) := by decide +kernel
theorem dX10_sure_6 : decode cX10_sure 6 = .ok (.iload_n 1, 1) := by decide +kernel
theorem dX10_sure_7 : decode cX10_sure 7 = .ok (.invokevirtual 377, 3) := by decide +kernel
theorem dX10_sure_10 : decode cX10_sure 10 = .ok (.ifCond .eq 11, 3) := by decide +kernel
theorem dX10_sure_13 : decode cX10_sure 13 = .ok (.aload_n 0, 1) := by decide +kernel
theorem dX10_sure_14 : decode cX10_sure 14 = .ok (.iload_n 2, 1) := by decide +kernel
theorem dX10_sure_15 : decode cX10_sure 15 = .ok (.invokevirtual 369, 3) := by decide +kernel
theorem dX10_sure_18 : decode cX10_sure 18 = .ok (.ifCond .ne 9, 3) := by decide +kernel
theorem dX10_sure_21 : decode cX10_sure 21 = .ok (.aload_n 0, 1) := by decide +kernel
theorem dX10_sure_22 : decode cX10_sure 22 = .ok (.iconst 1, 1) := by decide +kernel
theorem dX10_sure_23 : decode cX10_sure 23 = .ok (.invokevirtual 60, 3) := by decide +kernel
theorem dX10_sure_26 : decode cX10_sure 26 = .ok (.ireturn, 1) := by decide +kernel
theorem dX10_sure_27 : decode cX10_sure 27 = .ok (.aload_n 0, 1) := by decide +kernel
theorem dX10_sure_28 : decode cX10_sure 28 = .ok (.iload_n 1, 1) := by decide +kernel
theorem dX10_sure_29 : decode cX10_sure 29 = .ok (.iload_n 2, 1) := by decide +kernel
theorem dX10_sure_30 : decode cX10_sure 30 = .ok (.invokevirtual 366, 3) := by decide +kernel
theorem dX10_sure_33 : decode cX10_sure 33 = .ok (.ifCond .eq 24, 3) := by decide +kernel
theorem dX10_sure_36 : decode cX10_sure 36 = .ok (.aload_n 0, 1) := by decide +kernel
theorem dX10_sure_37 : decode cX10_sure 37 = .ok (.aload_n 0, 1) := by decide +kernel
theorem dX10_sure_38 : decode cX10_sure 38 = .ok (.iload_n 1, 1) := by decide +kernel
theorem dX10_sure_39 : decode cX10_sure 39 = .ok (.iload_n 2, 1) := by decide +kernel
theorem dX10_sure_40 : decode cX10_sure 40 = .ok (.invokevirtual 494, 3) := by decide +kernel
theorem dX10_sure_43 : decode cX10_sure 43 = .ok (.ifCond .eq 7, 3) := by decide +kernel
theorem dX10_sure_46 : decode cX10_sure 46 = .ok (.iconst 1, 1) := by decide +kernel
theorem dX10_sure_47 : decode cX10_sure 47 = .ok (.goto 4, 3) := by decide +kernel
theorem dX10_sure_50 : decode cX10_sure 50 = .ok (.iconst 0, 1) := by decide +kernel
theorem dX10_sure_51 : decode cX10_sure 51 = .ok (.invokevirtual 64, 3) := by decide +kernel
theorem dX10_sure_54 : decode cX10_sure 54 = .ok (.goto 8, 3) := by decide +kernel
theorem dX10_sure_57 : decode cX10_sure 57 = .ok (.aload_n 0, 1) := by decide +kernel
theorem dX10_sure_58 : decode cX10_sure 58 = .ok (.iconst 5, 1) := by decide +kernel
theorem dX10_sure_59 : decode cX10_sure 59 = .ok (.invokevirtual 60, 3) := by decide +kernel
theorem dX10_sure_62 : decode cX10_sure 62 = .ok (.ireturn, 1) := by decide +kernel
theorem dX10_sureRows_0 : decode cX10_sureRows 0 = .ok (.aload_n 0, 1) := by decide +kernel
theorem dX10_sureRows_1 : decode cX10_sureRows 1 = .ok (.iconst 0, 1) := by decide +kernel
theorem dX10_sureRows_2 : decode cX10_sureRows 2 = .ok (.putfield 54, 3) := by decide +kernel
theorem dX10_sureRows_5 : decode cX10_sureRows 5 = .ok (.aload_n 0, 1) := by decide +kernel
theorem dX10_sureRows_6 : decode cX10_sureRows 6 = .ok (.iload_n 1, 1) := by decide +kernel
theorem dX10_sureRows_7 : decode cX10_sureRows 7 = .ok (.invokevirtual 377, 3) := by decide +kernel
theorem dX10_sureRows_10 : decode cX10_sureRows 10 = .ok (.ifCond .ne 9, 3) := by decide +kernel
theorem dX10_sureRows_13 : decode cX10_sureRows 13 = .ok (.aload_n 0, 1) := by decide +kernel
theorem dX10_sureRows_14 : decode cX10_sureRows 14 = .ok (.iconst 1, 1) := by decide +kernel
theorem dX10_sureRows_15 : decode cX10_sureRows 15 = .ok (.invokevirtual 60, 3) := by decide +kernel
theorem dX10_sureRows_18 : decode cX10_sureRows 18 = .ok (.ireturn, 1) := by decide +kernel
theorem dX10_sureRows_19 : decode cX10_sureRows 19 = .ok (.iconst 0, 1) := by decide +kernel
theorem dX10_sureRows_20 : decode cX10_sureRows 20 = .ok (.istore_n 2, 1) := by decide +kernel
theorem dX10_sureRows_21 : decode cX10_sureRows 21 = .ok (.iconst 0, 1) := by decide +kernel
theorem dX10_sureRows_22 : decode cX10_sureRows 22 = .ok (.istore_n 3, 1) := by decide +kernel
theorem dX10_sureRows_23 : decode cX10_sureRows 23 = .ok (.iload_n 3, 1) := by decide +kernel
theorem dX10_sureRows_24 : decode cX10_sureRows 24 = .ok (.aload_n 0, 1) := by decide +kernel
theorem dX10_sureRows_25 : decode cX10_sureRows 25 = .ok (.getfield 346, 3) := by decide +kernel
theorem dX10_sureRows_28 : decode cX10_sureRows 28 = .ok (.getfield 203, 3) := by decide +kernel
theorem dX10_sureRows_31 : decode cX10_sureRows 31 = .ok (.if_icmp .ge 37, 3) := by decide +kernel
theorem dX10_sureRows_34 : decode cX10_sureRows 34 = .ok (.iload_n 2, 1) := by decide +kernel
theorem dX10_sureRows_35 : decode cX10_sureRows 35 = .ok (.aload_n 0, 1) := by decide +kernel
theorem dX10_sureRows_36 : decode cX10_sureRows 36 = .ok (.iload_n 1, 1) := by decide +kernel
theorem dX10_sureRows_37 : decode cX10_sureRows 37 = .ok (.iload_n 3, 1) := by decide +kernel
theorem dX10_sureRows_38 : decode cX10_sureRows 38 = .ok (.invokevirtual 366, 3) := by decide +kernel
theorem dX10_sureRows_41 : decode cX10_sureRows 41 = .ok (.ifCond .eq 18, 3) := by decide +kernel
theorem dX10_sureRows_44 : decode cX10_sureRows 44 = .ok (.aload_n 0, 1) := by decide +kernel
theorem dX10_sureRows_45 : decode cX10_sureRows 45 = .ok (.iload_n 1, 1) := by decide +kernel
theorem dX10_sureRows_46 : decode cX10_sureRows 46 = .ok (.iload_n 3, 1) := by decide +kernel
theorem dX10_sureRows_47 : decode cX10_sureRows 47 = .ok (.invokevirtual 494, 3) := by decide +kernel
theorem dX10_sureRows_50 : decode cX10_sureRows 50 = .ok (.ifCond .eq 9, 3) := by decide +kernel
theorem dX10_sureRows_53 : decode cX10_sureRows 53 = .ok (.iconst 1, 1) := by decide +kernel
theorem dX10_sureRows_54 : decode cX10_sureRows 54 = .ok (.iload_n 3, 1) := by decide +kernel
theorem dX10_sureRows_55 : decode cX10_sureRows 55 = .ok (.ishl, 1) := by decide +kernel
theorem dX10_sureRows_56 : decode cX10_sureRows 56 = .ok (.goto 4, 3) := by decide +kernel
theorem dX10_sureRows_59 : decode cX10_sureRows 59 = .ok (.iconst 0, 1) := by decide +kernel
theorem dX10_sureRows_60 : decode cX10_sureRows 60 = .ok (.ior, 1) := by decide +kernel
theorem dX10_sureRows_61 : decode cX10_sureRows 61 = .ok (.istore_n 2, 1) := by decide +kernel
theorem dX10_sureRows_62 : decode cX10_sureRows 62 = .ok (.iinc 3 1, 3) := by decide +kernel
theorem dX10_sureRows_65 : decode cX10_sureRows 65 = .ok (.goto (-42), 3) := by decide +kernel
theorem dX10_sureRows_68 : decode cX10_sureRows 68 = .ok (.aload_n 0, 1) := by decide +kernel
theorem dX10_sureRows_69 : decode cX10_sureRows 69 = .ok (.iload_n 2, 1) := by decide +kernel
theorem dX10_sureRows_70 : decode cX10_sureRows 70 = .ok (.invokevirtual 64, 3) := by decide +kernel
theorem dX10_sureRows_73 : decode cX10_sureRows 73 = .ok (.ireturn, 1) := by decide +kernel
theorem dX10_third_0 : decode cX10_third 0 = .ok (.aload_n 0, 1) := by decide +kernel
theorem dX10_third_1 : decode cX10_third 1 = .ok (.iconst 0, 1) := by decide +kernel
theorem dX10_third_2 : decode cX10_third 2 = .ok (.putfield 54, 3) := by decide +kernel
theorem dX10_third_5 : decode cX10_third 5 = .ok (.aload_n 0, 1) := by decide +kernel
theorem dX10_third_6 : decode cX10_third 6 = .ok (.getfield 346, 3) := by decide +kernel
theorem dX10_third_9 : decode cX10_third 9 = .ok (.ifnonnull 9, 3) := by decide +kernel
theorem dX10_third_12 : decode cX10_third 12 = .ok (.aload_n 0, 1) := by decide +kernel
theorem dX10_third_13 : decode cX10_third 13 = .ok (.iconst 1, 1) := by decide +kernel
theorem dX10_third_14 : decode cX10_third 14 = .ok (.invokevirtual 60, 3) := by decide +kernel
theorem dX10_third_17 : decode cX10_third 17 = .ok (.ireturn, 1) := by decide +kernel
theorem dX10_third_18 : decode cX10_third 18 = .ok (.aload_n 0, 1) := by decide +kernel
theorem dX10_third_19 : decode cX10_third 19 = .ok (.iconst 0, 1) := by decide +kernel
theorem dX10_third_20 : decode cX10_third 20 = .ok (.invokevirtual 354, 3) := by decide +kernel
theorem dX10_third_23 : decode cX10_third 23 = .ok (.ifCond .eq 11, 3) := by decide +kernel
theorem dX10_third_26 : decode cX10_third 26 = .ok (.aload_n 0, 1) := by decide +kernel
theorem dX10_third_27 : decode cX10_third 27 = .ok (.iconst 1, 1) := by decide +kernel
theorem dX10_third_28 : decode cX10_third 28 = .ok (.invokevirtual 354, 3) := by decide +kernel
theorem dX10_third_31 : decode cX10_third 31 = .ok (.ifCond .ne 10, 3) := by decide +kernel
theorem dX10_third_34 : decode cX10_third 34 = .ok (.aload_n 0, 1) := by decide +kernel
theorem dX10_third_35 : decode cX10_third 35 = .ok (.bipush 6, 2) := by decide +kernel
theorem dX10_third_37 : decode cX10_third 37 = .ok (.invokevirtual 60, 3) := by decide +kernel
theorem dX10_third_40 : decode cX10_third 40 = .ok (.ireturn, 1) := by decide +kernel
theorem dX10_third_41 : decode cX10_third 41 = .ok (.iconst 0, 1) := by decide +kernel
theorem dX10_third_42 : decode cX10_third 42 = .ok (.istore_n 1, 1) := by decide +kernel
theorem dX10_third_43 : decode cX10_third 43 = .ok (.iconst 0, 1) := by decide +kernel
theorem dX10_third_44 : decode cX10_third 44 = .ok (.istore_n 2, 1) := by decide +kernel
theorem dX10_third_45 : decode cX10_third 45 = .ok (.iload_n 2, 1) := by decide +kernel
theorem dX10_third_46 : decode cX10_third 46 = .ok (.aload_n 0, 1) := by decide +kernel
theorem dX10_third_47 : decode cX10_third 47 = .ok (.getfield 346, 3) := by decide +kernel
theorem dX10_third_50 : decode cX10_third 50 = .ok (.getfield 203, 3) := by decide +kernel
theorem dX10_third_53 : decode cX10_third 53 = .ok (.if_icmp .ge 47, 3) := by decide +kernel
theorem dX10_third_56 : decode cX10_third 56 = .ok (.iload_n 1, 1) := by decide +kernel
theorem dX10_third_57 : decode cX10_third 57 = .ok (.aload_n 0, 1) := by decide +kernel
theorem dX10_third_58 : decode cX10_third 58 = .ok (.aload_n 0, 1) := by decide +kernel
theorem dX10_third_59 : decode cX10_third 59 = .ok (.iconst 0, 1) := by decide +kernel
theorem dX10_third_60 : decode cX10_third 60 = .ok (.iconst 0, 1) := by decide +kernel
theorem dX10_third_61 : decode cX10_third 61 = .ok (.invokevirtual 360, 3) := by decide +kernel
theorem dX10_third_64 : decode cX10_third 64 = .ok (.iload_n 2, 1) := by decide +kernel
theorem dX10_third_65 : decode cX10_third 65 = .ok (.invokevirtual 372, 3) := by decide +kernel
theorem dX10_third_68 : decode cX10_third 68 = .ok (.ifCond .eq 23, 3) := by decide +kernel
theorem dX10_third_71 : decode cX10_third 71 = .ok (.aload_n 0, 1) := by decide +kernel
theorem dX10_third_72 : decode cX10_third 72 = .ok (.iload_n 2, 1) := by decide +kernel
theorem dX10_third_73 : decode cX10_third 73 = .ok (.aload_n 0, 1) := by decide +kernel
theorem dX10_third_74 : decode cX10_third 74 = .ok (.iconst 1, 1) := by decide +kernel
theorem dX10_third_75 : decode cX10_third 75 = .ok (.iconst 0, 1) := by decide +kernel
theorem dX10_third_76 : decode cX10_third 76 = .ok (.invokevirtual 360, 3) := by decide +kernel
theorem dX10_third_79 : decode cX10_third 79 = .ok (.invokevirtual 372, 3) := by decide +kernel
theorem dX10_third_82 : decode cX10_third 82 = .ok (.ifCond .eq 9, 3) := by decide +kernel
theorem dX10_third_85 : decode cX10_third 85 = .ok (.iconst 1, 1) := by decide +kernel
theorem dX10_third_86 : decode cX10_third 86 = .ok (.iload_n 2, 1) := by decide +kernel
theorem dX10_third_87 : decode cX10_third 87 = .ok (.ishl, 1) := by decide +kernel
theorem dX10_third_88 : decode cX10_third 88 = .ok (.goto 4, 3) := by decide +kernel
theorem dX10_third_91 : decode cX10_third 91 = .ok (.iconst 0, 1) := by decide +kernel
theorem dX10_third_92 : decode cX10_third 92 = .ok (.ior, 1) := by decide +kernel
theorem dX10_third_93 : decode cX10_third 93 = .ok (.istore_n 1, 1) := by decide +kernel
theorem dX10_third_94 : decode cX10_third 94 = .ok (.iinc 2 1, 3) := by decide +kernel
theorem dX10_third_97 : decode cX10_third 97 = .ok (.goto (-52), 3) := by decide +kernel
theorem dX10_third_100 : decode cX10_third 100 = .ok (.aload_n 0, 1) := by decide +kernel
theorem dX10_third_101 : decode cX10_third 101 = .ok (.iload_n 1, 1) := by decide +kernel
theorem dX10_third_102 : decode cX10_third 102 = .ok (.invokevirtual 64, 3) := by decide +kernel
theorem dX10_third_105 : decode cX10_third 105 = .ok (.ireturn, 1) := by decide +kernel
theorem dX10_told_0 : decode cX10_told 0 = .ok (.aload_n 0, 1) := by decide +kernel
theorem dX10_told_1 : decode cX10_told 1 = .ok (.iconst 0, 1) := by decide +kernel
theorem dX10_told_2 : decode cX10_told 2 = .ok (.invokevirtual 445, 3) := by decide +kernel
theorem dX10_told_5 : decode cX10_told 5 = .ok (.ifCond .eq 21, 3) := by decide +kernel
theorem dX10_told_8 : decode cX10_told 8 = .ok (.iload_n 1, 1) := by decide +kernel
theorem dX10_told_9 : decode cX10_told 9 = .ok (.ifCond .ne 10, 3) := by decide +kernel
theorem dX10_told_12 : decode cX10_told 12 = .ok (.aload_n 0, 1) := by decide +kernel
theorem dX10_told_13 : decode cX10_told 13 = .ok (.getfield 433, 3) := by decide +kernel
theorem dX10_told_16 : decode cX10_told 16 = .ok (.goto 7, 3) := by decide +kernel
theorem dX10_told_19 : decode cX10_told 19 = .ok (.aload_n 0, 1) := by decide +kernel
theorem dX10_told_20 : decode cX10_told 20 = .ok (.getfield 436, 3) := by decide +kernel
theorem dX10_told_23 : decode cX10_told 23 = .ok (.ifCond .ne 5, 3) := by decide +kernel
theorem dX10_told_26 : decode cX10_told 26 = .ok (.iconst (-1), 1) := by decide +kernel
theorem dX10_told_27 : decode cX10_told 27 = .ok (.ireturn, 1) := by decide +kernel
theorem dX10_told_28 : decode cX10_told 28 = .ok (.aload_n 0, 1) := by decide +kernel
theorem dX10_told_29 : decode cX10_told 29 = .ok (.invokevirtual 474, 3) := by decide +kernel
theorem dX10_told_32 : decode cX10_told 32 = .ok (.iload_n 1, 1) := by decide +kernel
theorem dX10_told_33 : decode cX10_told 33 = .ok (.ifCond .ne 12, 3) := by decide +kernel
theorem dX10_told_36 : decode cX10_told 36 = .ok (.aload_n 0, 1) := by decide +kernel
theorem dX10_told_37 : decode cX10_told 37 = .ok (.getfield 31, 3) := by decide +kernel
theorem dX10_told_40 : decode cX10_told 40 = .ok (.iconst 0, 1) := by decide +kernel
theorem dX10_told_41 : decode cX10_told 41 = .ok (.iaload, 1) := by decide +kernel
theorem dX10_told_42 : decode cX10_told 42 = .ok (.goto 19, 3) := by decide +kernel
theorem dX10_told_45 : decode cX10_told 45 = .ok (.aload_n 0, 1) := by decide +kernel
theorem dX10_told_46 : decode cX10_told 46 = .ok (.getfield 31, 3) := by decide +kernel
theorem dX10_told_49 : decode cX10_told 49 = .ok (.aload_n 0, 1) := by decide +kernel
theorem dX10_told_50 : decode cX10_told 50 = .ok (.getfield 433, 3) := by decide +kernel
theorem dX10_told_53 : decode cX10_told 53 = .ok (.aload_n 0, 1) := by decide +kernel
theorem dX10_told_54 : decode cX10_told 54 = .ok (.getfield 436, 3) := by decide +kernel
theorem dX10_told_57 : decode cX10_told 57 = .ok (.iadd, 1) := by decide +kernel
theorem dX10_told_58 : decode cX10_told 58 = .ok (.iconst 1, 1) := by decide +kernel
theorem dX10_told_59 : decode cX10_told 59 = .ok (.isub, 1) := by decide +kernel
theorem dX10_told_60 : decode cX10_told 60 = .ok (.iaload, 1) := by decide +kernel
theorem dX10_told_61 : decode cX10_told 61 = .ok (.ireturn, 1) := by decide +kernel
theorem dX10_weeks_0 : decode cX10_weeks 0 = .ok (.aload_n 0, 1) := by decide +kernel
theorem dX10_weeks_1 : decode cX10_weeks 1 = .ok (.iconst 0, 1) := by decide +kernel
theorem dX10_weeks_2 : decode cX10_weeks 2 = .ok (.putfield 54, 3) := by decide +kernel
theorem dX10_weeks_5 : decode cX10_weeks 5 = .ok (.aload_n 0, 1) := by decide +kernel
theorem dX10_weeks_6 : decode cX10_weeks 6 = .ok (.getfield 346, 3) := by decide +kernel
theorem dX10_weeks_9 : decode cX10_weeks 9 = .ok (.ifnonnull 9, 3) := by decide +kernel
theorem dX10_weeks_12 : decode cX10_weeks 12 = .ok (.aload_n 0, 1) := by decide +kernel
theorem dX10_weeks_13 : decode cX10_weeks 13 = .ok (.iconst 1, 1) := by decide +kernel
theorem dX10_weeks_14 : decode cX10_weeks 14 = .ok (.invokevirtual 60, 3) := by decide +kernel
theorem dX10_weeks_17 : decode cX10_weeks 17 = .ok (.ireturn, 1) := by decide +kernel
theorem dX10_weeks_18 : decode cX10_weeks 18 = .ok (.iload_n 1, 1) := by decide +kernel
theorem dX10_weeks_19 : decode cX10_weeks 19 = .ok (.iconst 1, 1) := by decide +kernel
theorem dX10_weeks_20 : decode cX10_weeks 20 = .ok (.bipush 9, 2) := by decide +kernel
theorem dX10_weeks_22 : decode cX10_weeks 22 = .ok (.invokestatic 134, 3) := by decide +kernel
theorem dX10_weeks_25 : decode cX10_weeks 25 = .ok (.ifCond .ne 9, 3) := by decide +kernel
theorem dX10_weeks_28 : decode cX10_weeks 28 = .ok (.aload_n 0, 1) := by decide +kernel
theorem dX10_weeks_29 : decode cX10_weeks 29 = .ok (.iconst 2, 1) := by decide +kernel
theorem dX10_weeks_30 : decode cX10_weeks 30 = .ok (.invokevirtual 60, 3) := by decide +kernel
theorem dX10_weeks_33 : decode cX10_weeks 33 = .ok (.ireturn, 1) := by decide +kernel
theorem dX10_weeks_34 : decode cX10_weeks 34 = .ok (.aload_n 0, 1) := by decide +kernel
theorem dX10_weeks_35 : decode cX10_weeks 35 = .ok (.invokevirtual 389, 3) := by decide +kernel
theorem dX10_weeks_38 : decode cX10_weeks 38 = .ok (.iconst 0, 1) := by decide +kernel
theorem dX10_weeks_39 : decode cX10_weeks 39 = .ok (.istore_n 2, 1) := by decide +kernel
theorem dX10_weeks_40 : decode cX10_weeks 40 = .ok (.iconst 0, 1) := by decide +kernel
theorem dX10_weeks_41 : decode cX10_weeks 41 = .ok (.istore_n 3, 1) := by decide +kernel
theorem dX10_weeks_42 : decode cX10_weeks 42 = .ok (.iload_n 3, 1) := by decide +kernel
theorem dX10_weeks_43 : decode cX10_weeks 43 = .ok (.iload_n 1, 1) := by decide +kernel
theorem dX10_weeks_44 : decode cX10_weeks 44 = .ok (.if_icmp .ge 79, 3) := by decide +kernel
theorem dX10_weeks_47 : decode cX10_weeks 47 = .ok (.iconst 0, 1) := by decide +kernel
theorem dX10_weeks_48 : decode cX10_weeks 48 = .ok (.istore 4, 2) := by decide +kernel
theorem dX10_weeks_50 : decode cX10_weeks 50 = .ok (.iload 4, 2) := by decide +kernel
theorem dX10_weeks_52 : decode cX10_weeks 52 = .ok (.iconst 2, 1) := by decide +kernel
theorem dX10_weeks_53 : decode cX10_weeks 53 = .ok (.aload_n 0, 1) := by decide +kernel
theorem dX10_weeks_54 : decode cX10_weeks 54 = .ok (.getfield 346, 3) := by decide +kernel
theorem dX10_weeks_57 : decode cX10_weeks 57 = .ok (.getfield 246, 3) := by decide +kernel
theorem dX10_weeks_60 : decode cX10_weeks 60 = .ok (.imul, 1) := by decide +kernel
theorem dX10_weeks_61 : decode cX10_weeks 61 = .ok (.if_icmp .ge 56, 3) := by decide +kernel
theorem dX10_weeks_64 : decode cX10_weeks 64 = .ok (.iload 4, 2) := by decide +kernel
theorem dX10_weeks_66 : decode cX10_weeks 66 = .ok (.aload_n 0, 1) := by decide +kernel
theorem dX10_weeks_67 : decode cX10_weeks 67 = .ok (.getfield 346, 3) := by decide +kernel
theorem dX10_weeks_70 : decode cX10_weeks 70 = .ok (.getfield 246, 3) := by decide +kernel
theorem dX10_weeks_73 : decode cX10_weeks 73 = .ok (.if_icmp .ge 7, 3) := by decide +kernel
theorem dX10_weeks_76 : decode cX10_weeks 76 = .ok (.iconst 0, 1) := by decide +kernel
theorem dX10_weeks_77 : decode cX10_weeks 77 = .ok (.goto 4, 3) := by decide +kernel
theorem dX10_weeks_80 : decode cX10_weeks 80 = .ok (.iconst 1, 1) := by decide +kernel
theorem dX10_weeks_81 : decode cX10_weeks 81 = .ok (.istore 5, 2) := by decide +kernel
theorem dX10_weeks_83 : decode cX10_weeks 83 = .ok (.aload_n 0, 1) := by decide +kernel
theorem dX10_weeks_84 : decode cX10_weeks 84 = .ok (.iload 5, 2) := by decide +kernel
theorem dX10_weeks_86 : decode cX10_weeks 86 = .ok (.invokevirtual 497, 3) := by decide +kernel
theorem dX10_weeks_89 : decode cX10_weeks 89 = .ok (.istore 6, 2) := by decide +kernel
theorem dX10_weeks_91 : decode cX10_weeks 91 = .ok (.iload 6, 2) := by decide +kernel
theorem dX10_weeks_93 : decode cX10_weeks 93 = .ok (.iconst (-1), 1) := by decide +kernel
theorem dX10_weeks_94 : decode cX10_weeks 94 = .ok (.if_icmp .ne 6, 3) := by decide +kernel
theorem dX10_weeks_97 : decode cX10_weeks 97 = .ok (.goto 14, 3) := by decide +kernel
theorem dX10_weeks_100 : decode cX10_weeks 100 = .ok (.aload_n 0, 1) := by decide +kernel
theorem dX10_weeks_101 : decode cX10_weeks 101 = .ok (.iload 5, 2) := by decide +kernel
theorem dX10_weeks_103 : decode cX10_weeks 103 = .ok (.iload 6, 2) := by decide +kernel
theorem dX10_weeks_105 : decode cX10_weeks 105 = .ok (.invokevirtual 392, 3) := by decide +kernel
theorem dX10_weeks_108 : decode cX10_weeks 108 = .ok (.iinc 2 1, 3) := by decide +kernel
theorem dX10_weeks_111 : decode cX10_weeks 111 = .ok (.iinc 4 1, 3) := by decide +kernel
theorem dX10_weeks_114 : decode cX10_weeks 114 = .ok (.goto (-64), 3) := by decide +kernel
theorem dX10_weeks_117 : decode cX10_weeks 117 = .ok (.iinc 3 1, 3) := by decide +kernel
theorem dX10_weeks_120 : decode cX10_weeks 120 = .ok (.goto (-78), 3) := by decide +kernel
theorem dX10_weeks_123 : decode cX10_weeks 123 = .ok (.aload_n 0, 1) := by decide +kernel
theorem dX10_weeks_124 : decode cX10_weeks 124 = .ok (.getfield 17, 3) := by decide +kernel
theorem dX10_weeks_127 : decode cX10_weeks 127 = .ok (.bipush 58, 2) := by decide +kernel
theorem dX10_weeks_129 : decode cX10_weeks 129 = .ok (.dup2, 1) := by decide +kernel
theorem dX10_weeks_130 : decode cX10_weeks 130 = .ok (.iaload, 1) := by decide +kernel
theorem dX10_weeks_131 : decode cX10_weeks 131 = .ok (.iload_n 1, 1) := by decide +kernel
theorem dX10_weeks_132 : decode cX10_weeks 132 = .ok (.iadd, 1) := by decide +kernel
theorem dX10_weeks_133 : decode cX10_weeks 133 = .ok (.iastore, 1) := by decide +kernel
theorem dX10_weeks_134 : decode cX10_weeks 134 = .ok (.aload_n 0, 1) := by decide +kernel
theorem dX10_weeks_135 : decode cX10_weeks 135 = .ok (.iload_n 2, 1) := by decide +kernel
theorem dX10_weeks_136 : decode cX10_weeks 136 = .ok (.invokevirtual 64, 3) := by decide +kernel
theorem dX10_weeks_139 : decode cX10_weeks 139 = .ok (.ireturn, 1) := by decide +kernel
theorem dX10_isAnswered_0 : decode cX10_isAnswered 0 = .ok (.aload_n 0, 1) := by decide +kernel
theorem dX10_isAnswered_1 : decode cX10_isAnswered 1 = .ok (.getfield 346, 3) := by decide +kernel
theorem dX10_isAnswered_4 : decode cX10_isAnswered 4 = .ok (.getfield 281, 3) := by decide +kernel
theorem dX10_isAnswered_7 : decode cX10_isAnswered 7 = .ok (.aload_n 0, 1) := by decide +kernel
theorem dX10_isAnswered_8 : decode cX10_isAnswered 8 = .ok (.iconst 0, 1) := by decide +kernel
theorem dX10_isAnswered_9 : decode cX10_isAnswered 9 = .ok (.iload_n 1, 1) := by decide +kernel
theorem dX10_isAnswered_10 : decode cX10_isAnswered 10 = .ok (.invokevirtual 357, 3) := by decide +kernel
theorem dX10_isAnswered_13 : decode cX10_isAnswered 13 = .ok (.iaload, 1) := by decide +kernel
theorem dX10_isAnswered_14 : decode cX10_isAnswered 14 = .ok (.aload_n 0, 1) := by decide +kernel
theorem dX10_isAnswered_15 : decode cX10_isAnswered 15 = .ok (.iconst 1, 1) := by decide +kernel
theorem dX10_isAnswered_16 : decode cX10_isAnswered 16 = .ok (.iload_n 1, 1) := by decide +kernel
theorem dX10_isAnswered_17 : decode cX10_isAnswered 17 = .ok (.invokevirtual 357, 3) := by decide +kernel
theorem dX10_isAnswered_20 : decode cX10_isAnswered 20 = .ok (.if_icmp .ne 7, 3) := by decide +kernel
theorem dX10_isAnswered_23 : decode cX10_isAnswered 23 = .ok (.iconst 1, 1) := by decide +kernel
theorem dX10_isAnswered_24 : decode cX10_isAnswered 24 = .ok (.goto 4, 3) := by decide +kernel
theorem dX10_isAnswered_27 : decode cX10_isAnswered 27 = .ok (.iconst 0, 1) := by decide +kernel
theorem dX10_isAnswered_28 : decode cX10_isAnswered 28 = .ok (.ireturn, 1) := by decide +kernel
theorem dX10_both_0 : decode cX10_both 0 = .ok (.aload_n 0, 1) := by decide +kernel
theorem dX10_both_1 : decode cX10_both 1 = .ok (.iconst 0, 1) := by decide +kernel
theorem dX10_both_2 : decode cX10_both 2 = .ok (.invokevirtual 354, 3) := by decide +kernel
theorem dX10_both_5 : decode cX10_both 5 = .ok (.aload_n 0, 1) := by decide +kernel
theorem dX10_both_6 : decode cX10_both 6 = .ok (.iconst 1, 1) := by decide +kernel
theorem dX10_both_7 : decode cX10_both 7 = .ok (.invokevirtual 354, 3) := by decide +kernel
theorem dX10_both_10 : decode cX10_both 10 = .ok (.if_icmp .ge 11, 3) := by decide +kernel
theorem dX10_both_13 : decode cX10_both 13 = .ok (.aload_n 0, 1) := by decide +kernel
theorem dX10_both_14 : decode cX10_both 14 = .ok (.iconst 0, 1) := by decide +kernel
theorem dX10_both_15 : decode cX10_both 15 = .ok (.invokevirtual 354, 3) := by decide +kernel
theorem dX10_both_18 : decode cX10_both 18 = .ok (.goto 8, 3) := by decide +kernel
theorem dX10_both_21 : decode cX10_both 21 = .ok (.aload_n 0, 1) := by decide +kernel
theorem dX10_both_22 : decode cX10_both 22 = .ok (.iconst 1, 1) := by decide +kernel
theorem dX10_both_23 : decode cX10_both 23 = .ok (.invokevirtual 354, 3) := by decide +kernel
theorem dX10_both_26 : decode cX10_both 26 = .ok (.ireturn, 1) := by decide +kernel
theorem dX10_answered_0 : decode cX10_answered 0 = .ok (.aload_n 0, 1) := by decide +kernel
theorem dX10_answered_1 : decode cX10_answered 1 = .ok (.iconst 0, 1) := by decide +kernel
theorem dX10_answered_2 : decode cX10_answered 2 = .ok (.putfield 54, 3) := by decide +kernel
theorem dX10_answered_5 : decode cX10_answered 5 = .ok (.aload_n 0, 1) := by decide +kernel
theorem dX10_answered_6 : decode cX10_answered 6 = .ok (.getfield 346, 3) := by decide +kernel
theorem dX10_answered_9 : decode cX10_answered 9 = .ok (.ifnull 13, 3) := by decide +kernel
theorem dX10_answered_12 : decode cX10_answered 12 = .ok (.iload_n 1, 1) := by decide +kernel
theorem dX10_answered_13 : decode cX10_answered 13 = .ok (.iconst 0, 1) := by decide +kernel
theorem dX10_answered_14 : decode cX10_answered 14 = .ok (.bipush 23, 2) := by decide +kernel
theorem dX10_answered_16 : decode cX10_answered 16 = .ok (.invokestatic 134, 3) := by decide +kernel
theorem dX10_answered_19 : decode cX10_answered 19 = .ok (.ifCond .ne 9, 3) := by decide +kernel
theorem dX10_answered_22 : decode cX10_answered 22 = .ok (.aload_n 0, 1) := by decide +kernel
theorem dX10_answered_23 : decode cX10_answered 23 = .ok (.iconst 1, 1) := by decide +kernel
theorem dX10_answered_24 : decode cX10_answered 24 = .ok (.invokevirtual 60, 3) := by decide +kernel
theorem dX10_answered_27 : decode cX10_answered 27 = .ok (.ireturn, 1) := by decide +kernel
theorem dX10_answered_28 : decode cX10_answered 28 = .ok (.iload_n 1, 1) := by decide +kernel
theorem dX10_answered_29 : decode cX10_answered 29 = .ok (.aload_n 0, 1) := by decide +kernel
theorem dX10_answered_30 : decode cX10_answered 30 = .ok (.invokevirtual 500, 3) := by decide +kernel
theorem dX10_answered_33 : decode cX10_answered 33 = .ok (.if_icmp .ge 23, 3) := by decide +kernel
theorem dX10_answered_36 : decode cX10_answered 36 = .ok (.aload_n 0, 1) := by decide +kernel
theorem dX10_answered_37 : decode cX10_answered 37 = .ok (.aload_n 0, 1) := by decide +kernel
theorem dX10_answered_38 : decode cX10_answered 38 = .ok (.iload_n 1, 1) := by decide +kernel
theorem dX10_answered_39 : decode cX10_answered 39 = .ok (.invokevirtual 503, 3) := by decide +kernel
theorem dX10_answered_42 : decode cX10_answered 42 = .ok (.ifCond .eq 7, 3) := by decide +kernel
theorem dX10_answered_45 : decode cX10_answered 45 = .ok (.iconst 1, 1) := by decide +kernel
theorem dX10_answered_46 : decode cX10_answered 46 = .ok (.goto 4, 3) := by decide +kernel
theorem dX10_answered_49 : decode cX10_answered 49 = .ok (.iconst 0, 1) := by decide +kernel
theorem dX10_answered_50 : decode cX10_answered 50 = .ok (.invokevirtual 64, 3) := by decide +kernel
theorem dX10_answered_53 : decode cX10_answered 53 = .ok (.goto 9, 3) := by decide +kernel
theorem dX10_answered_56 : decode cX10_answered 56 = .ok (.aload_n 0, 1) := by decide +kernel
theorem dX10_answered_57 : decode cX10_answered 57 = .ok (.bipush 6, 2) := by decide +kernel
theorem dX10_answered_59 : decode cX10_answered 59 = .ok (.invokevirtual 60, 3) := by decide +kernel
theorem dX10_answered_62 : decode cX10_answered 62 = .ok (.ireturn, 1) := by decide +kernel
theorem dX10_wrongs_0 : decode cX10_wrongs 0 = .ok (.aload_n 0, 1) := by decide +kernel
theorem dX10_wrongs_1 : decode cX10_wrongs 1 = .ok (.iconst 0, 1) := by decide +kernel
theorem dX10_wrongs_2 : decode cX10_wrongs 2 = .ok (.putfield 54, 3) := by decide +kernel
theorem dX10_wrongs_5 : decode cX10_wrongs 5 = .ok (.aload_n 0, 1) := by decide +kernel
theorem dX10_wrongs_6 : decode cX10_wrongs 6 = .ok (.getfield 346, 3) := by decide +kernel
theorem dX10_wrongs_9 : decode cX10_wrongs 9 = .ok (.ifnonnull 9, 3) := by decide +kernel
theorem dX10_wrongs_12 : decode cX10_wrongs 12 = .ok (.aload_n 0, 1) := by decide +kernel
theorem dX10_wrongs_13 : decode cX10_wrongs 13 = .ok (.iconst 1, 1) := by decide +kernel
theorem dX10_wrongs_14 : decode cX10_wrongs 14 = .ok (.invokevirtual 60, 3) := by decide +kernel
theorem dX10_wrongs_17 : decode cX10_wrongs 17 = .ok (.ireturn, 1) := by decide +kernel
theorem dX10_wrongs_18 : decode cX10_wrongs 18 = .ok (.iconst 0, 1) := by decide +kernel
theorem dX10_wrongs_19 : decode cX10_wrongs 19 = .ok (.istore_n 1, 1) := by decide +kernel
theorem dX10_wrongs_20 : decode cX10_wrongs 20 = .ok (.iconst 0, 1) := by decide +kernel
theorem dX10_wrongs_21 : decode cX10_wrongs 21 = .ok (.istore_n 2, 1) := by decide +kernel
theorem dX10_wrongs_22 : decode cX10_wrongs 22 = .ok (.iload_n 2, 1) := by decide +kernel
theorem dX10_wrongs_23 : decode cX10_wrongs 23 = .ok (.aload_n 0, 1) := by decide +kernel
theorem dX10_wrongs_24 : decode cX10_wrongs 24 = .ok (.invokevirtual 500, 3) := by decide +kernel
theorem dX10_wrongs_27 : decode cX10_wrongs 27 = .ok (.if_icmp .ge 25, 3) := by decide +kernel
theorem dX10_wrongs_30 : decode cX10_wrongs 30 = .ok (.iload_n 1, 1) := by decide +kernel
theorem dX10_wrongs_31 : decode cX10_wrongs 31 = .ok (.aload_n 0, 1) := by decide +kernel
theorem dX10_wrongs_32 : decode cX10_wrongs 32 = .ok (.iload_n 2, 1) := by decide +kernel
theorem dX10_wrongs_33 : decode cX10_wrongs 33 = .ok (.invokevirtual 503, 3) := by decide +kernel
theorem dX10_wrongs_36 : decode cX10_wrongs 36 = .ok (.ifCond .eq 7, 3) := by decide +kernel
theorem dX10_wrongs_39 : decode cX10_wrongs 39 = .ok (.iconst 0, 1) := by decide +kernel
theorem dX10_wrongs_40 : decode cX10_wrongs 40 = .ok (.goto 4, 3) := by decide +kernel
theorem dX10_wrongs_43 : decode cX10_wrongs 43 = .ok (.iconst 1, 1) := by decide +kernel
theorem dX10_wrongs_44 : decode cX10_wrongs 44 = .ok (.iadd, 1) := by decide +kernel
theorem dX10_wrongs_45 : decode cX10_wrongs 45 = .ok (.istore_n 1, 1) := by decide +kernel
theorem dX10_wrongs_46 : decode cX10_wrongs 46 = .ok (.iinc 2 1, 3) := by decide +kernel
theorem dX10_wrongs_49 : decode cX10_wrongs 49 = .ok (.goto (-27), 3) := by decide +kernel
theorem dX10_wrongs_52 : decode cX10_wrongs 52 = .ok (.aload_n 0, 1) := by decide +kernel
theorem dX10_wrongs_53 : decode cX10_wrongs 53 = .ok (.iload_n 1, 1) := by decide +kernel
theorem dX10_wrongs_54 : decode cX10_wrongs 54 = .ok (.invokevirtual 64, 3) := by decide +kernel
theorem dX10_wrongs_57 : decode cX10_wrongs 57 = .ok (.ireturn, 1) := by decide +kernel
theorem dX10_firstWrong_0 : decode cX10_firstWrong 0 = .ok (.iconst 0, 1) := by decide +kernel
theorem dX10_firstWrong_1 : decode cX10_firstWrong 1 = .ok (.istore_n 1, 1) := by decide +kernel
theorem dX10_firstWrong_2 : decode cX10_firstWrong 2 = .ok (.iload_n 1, 1) := by decide +kernel
theorem dX10_firstWrong_3 : decode cX10_firstWrong 3 = .ok (.aload_n 0, 1) := by decide +kernel
theorem dX10_firstWrong_4 : decode cX10_firstWrong 4 = .ok (.invokevirtual 500, 3) := by decide +kernel
theorem dX10_firstWrong_7 : decode cX10_firstWrong 7 = .ok (.if_icmp .ge 19, 3) := by decide +kernel
theorem dX10_firstWrong_10 : decode cX10_firstWrong 10 = .ok (.aload_n 0, 1) := by decide +kernel
theorem dX10_firstWrong_11 : decode cX10_firstWrong 11 = .ok (.iload_n 1, 1) := by decide +kernel
theorem dX10_firstWrong_12 : decode cX10_firstWrong 12 = .ok (.invokevirtual 503, 3) := by decide +kernel
theorem dX10_firstWrong_15 : decode cX10_firstWrong 15 = .ok (.ifCond .ne 5, 3) := by decide +kernel
theorem dX10_firstWrong_18 : decode cX10_firstWrong 18 = .ok (.iload_n 1, 1) := by decide +kernel
theorem dX10_firstWrong_19 : decode cX10_firstWrong 19 = .ok (.ireturn, 1) := by decide +kernel
theorem dX10_firstWrong_20 : decode cX10_firstWrong 20 = .ok (.iinc 1 1, 3) := by decide +kernel
theorem dX10_firstWrong_23 : decode cX10_firstWrong 23 = .ok (.goto (-21), 3) := by decide +kernel
theorem dX10_firstWrong_26 : decode cX10_firstWrong 26 = .ok (.iconst (-1), 1) := by decide +kernel
theorem dX10_firstWrong_27 : decode cX10_firstWrong 27 = .ok (.ireturn, 1) := by decide +kernel
theorem dX10_mend_0 : decode cX10_mend 0 = .ok (.aload_n 0, 1) := by decide +kernel
theorem dX10_mend_1 : decode cX10_mend 1 = .ok (.iconst 0, 1) := by decide +kernel
theorem dX10_mend_2 : decode cX10_mend 2 = .ok (.putfield 54, 3) := by decide +kernel
theorem dX10_mend_5 : decode cX10_mend 5 = .ok (.aload_n 0, 1) := by decide +kernel
theorem dX10_mend_6 : decode cX10_mend 6 = .ok (.getfield 346, 3) := by decide +kernel
theorem dX10_mend_9 : decode cX10_mend 9 = .ok (.ifnonnull 9, 3) := by decide +kernel
theorem dX10_mend_12 : decode cX10_mend 12 = .ok (.aload_n 0, 1) := by decide +kernel
theorem dX10_mend_13 : decode cX10_mend 13 = .ok (.iconst 1, 1) := by decide +kernel
theorem dX10_mend_14 : decode cX10_mend 14 = .ok (.invokevirtual 60, 3) := by decide +kernel
theorem dX10_mend_17 : decode cX10_mend 17 = .ok (.ireturn, 1) := by decide +kernel
theorem dX10_mend_18 : decode cX10_mend 18 = .ok (.aload_n 0, 1) := by decide +kernel
theorem dX10_mend_19 : decode cX10_mend 19 = .ok (.invokevirtual 506, 3) := by decide +kernel
theorem dX10_mend_22 : decode cX10_mend 22 = .ok (.istore_n 1, 1) := by decide +kernel
theorem dX10_mend_23 : decode cX10_mend 23 = .ok (.aload_n 0, 1) := by decide +kernel
theorem dX10_mend_24 : decode cX10_mend 24 = .ok (.iload_n 1, 1) := by decide +kernel
theorem dX10_mend_25 : decode cX10_mend 25 = .ok (.iconst (-1), 1) := by decide +kernel
theorem dX10_mend_26 : decode cX10_mend 26 = .ok (.if_icmp .ne 7, 3) := by decide +kernel
theorem dX10_mend_29 : decode cX10_mend 29 = .ok (.iconst 0, 1) := by decide +kernel
theorem dX10_mend_30 : decode cX10_mend 30 = .ok (.goto 9, 3) := by decide +kernel
theorem dX10_mend_33 : decode cX10_mend 33 = .ok (.aload_n 0, 1) := by decide +kernel
theorem dX10_mend_34 : decode cX10_mend 34 = .ok (.invokevirtual 500, 3) := by decide +kernel
theorem dX10_mend_37 : decode cX10_mend 37 = .ok (.iload_n 1, 1) := by decide +kernel
theorem dX10_mend_38 : decode cX10_mend 38 = .ok (.isub, 1) := by decide +kernel
theorem dX10_mend_39 : decode cX10_mend 39 = .ok (.invokevirtual 64, 3) := by decide +kernel
theorem dX10_mend_42 : decode cX10_mend 42 = .ok (.ireturn, 1) := by decide +kernel
theorem dX10_mendBy_0 : decode cX10_mendBy 0 = .ok (.aload_n 0, 1) := by decide +kernel
theorem dX10_mendBy_1 : decode cX10_mendBy 1 = .ok (.iconst 0, 1) := by decide +kernel
theorem dX10_mendBy_2 : decode cX10_mendBy 2 = .ok (.putfield 54, 3) := by decide +kernel
theorem dX10_mendBy_5 : decode cX10_mendBy 5 = .ok (.aload_n 0, 1) := by decide +kernel
theorem dX10_mendBy_6 : decode cX10_mendBy 6 = .ok (.getfield 346, 3) := by decide +kernel
theorem dX10_mendBy_9 : decode cX10_mendBy 9 = .ok (.ifnonnull 9, 3) := by decide +kernel
theorem dX10_mendBy_12 : decode cX10_mendBy 12 = .ok (.aload_n 0, 1) := by decide +kernel
theorem dX10_mendBy_13 : decode cX10_mendBy 13 = .ok (.iconst 1, 1) := by decide +kernel
theorem dX10_mendBy_14 : decode cX10_mendBy 14 = .ok (.invokevirtual 60, 3) := by decide +kernel
theorem dX10_mendBy_17 : decode cX10_mendBy 17 = .ok (.ireturn, 1) := by decide +kernel
theorem dX10_mendBy_18 : decode cX10_mendBy 18 = .ok (.aload_n 0, 1) := by decide +kernel
theorem dX10_mendBy_19 : decode cX10_mendBy 19 = .ok (.aload_n 0, 1) := by decide +kernel
theorem dX10_mendBy_20 : decode cX10_mendBy 20 = .ok (.invokevirtual 506, 3) := by decide +kernel
theorem dX10_mendBy_23 : decode cX10_mendBy 23 = .ok (.iconst (-1), 1) := by decide +kernel
theorem dX10_mendBy_24 : decode cX10_mendBy 24 = .ok (.if_icmp .ne 8, 3) := by decide +kernel
theorem dX10_mendBy_27 : decode cX10_mendBy 27 = .ok (.bipush (-2), 2) := by decide +kernel
theorem dX10_mendBy_29 : decode cX10_mendBy 29 = .ok (.goto 21, 3) := by decide +kernel
theorem dX10_mendBy_32 : decode cX10_mendBy 32 = .ok (.aload_n 0, 1) := by decide +kernel
theorem dX10_mendBy_33 : decode cX10_mendBy 33 = .ok (.iconst 0, 1) := by decide +kernel
theorem dX10_mendBy_34 : decode cX10_mendBy 34 = .ok (.invokevirtual 354, 3) := by decide +kernel
theorem dX10_mendBy_37 : decode cX10_mendBy 37 = .ok (.aload_n 0, 1) := by decide +kernel
theorem dX10_mendBy_38 : decode cX10_mendBy 38 = .ok (.iconst 1, 1) := by decide +kernel
theorem dX10_mendBy_39 : decode cX10_mendBy 39 = .ok (.invokevirtual 354, 3) := by decide +kernel
theorem dX10_mendBy_42 : decode cX10_mendBy 42 = .ok (.if_icmp .gt 7, 3) := by decide +kernel
theorem dX10_mendBy_45 : decode cX10_mendBy 45 = .ok (.iconst 0, 1) := by decide +kernel
theorem dX10_mendBy_46 : decode cX10_mendBy 46 = .ok (.goto 4, 3) := by decide +kernel
theorem dX10_mendBy_49 : decode cX10_mendBy 49 = .ok (.iconst 1, 1) := by decide +kernel
theorem dX10_mendBy_50 : decode cX10_mendBy 50 = .ok (.invokevirtual 64, 3) := by decide +kernel
theorem dX10_mendBy_53 : decode cX10_mendBy 53 = .ok (.ireturn, 1) := by decide +kernel
theorem dX10_isPlain_0 : decode cX10_isPlain 0 = .ok (.aload_n 0, 1) := by decide +kernel
theorem dX10_isPlain_1 : decode cX10_isPlain 1 = .ok (.getfield 346, 3) := by decide +kernel
theorem dX10_isPlain_4 : decode cX10_isPlain 4 = .ok (.getfield 324, 3) := by decide +kernel
theorem dX10_isPlain_7 : decode cX10_isPlain 7 = .ok (.iload_n 1, 1) := by decide +kernel
theorem dX10_isPlain_8 : decode cX10_isPlain 8 = .ok (.iaload, 1) := by decide +kernel
theorem dX10_isPlain_9 : decode cX10_isPlain 9 = .ok (.istore 5, 2) := by decide +kernel
theorem dX10_isPlain_11 : decode cX10_isPlain 11 = .ok (.iload_n 3, 1) := by decide +kernel
theorem dX10_isPlain_12 : decode cX10_isPlain 12 = .ok (.iload 5, 2) := by decide +kernel
theorem dX10_isPlain_14 : decode cX10_isPlain 14 = .ok (.iadd, 1) := by decide +kernel
theorem dX10_isPlain_15 : decode cX10_isPlain 15 = .ok (.aload_n 0, 1) := by decide +kernel
theorem dX10_isPlain_16 : decode cX10_isPlain 16 = .ok (.iload_n 2, 1) := by decide +kernel
theorem dX10_isPlain_17 : decode cX10_isPlain 17 = .ok (.invokevirtual 354, 3) := by decide +kernel
theorem dX10_isPlain_20 : decode cX10_isPlain 20 = .ok (.if_icmp .le 5, 3) := by decide +kernel
theorem dX10_isPlain_23 : decode cX10_isPlain 23 = .ok (.iconst 0, 1) := by decide +kernel
theorem dX10_isPlain_24 : decode cX10_isPlain 24 = .ok (.ireturn, 1) := by decide +kernel
theorem dX10_isPlain_25 : decode cX10_isPlain 25 = .ok (.iconst 0, 1) := by decide +kernel
theorem dX10_isPlain_26 : decode cX10_isPlain 26 = .ok (.istore 6, 2) := by decide +kernel
theorem dX10_isPlain_28 : decode cX10_isPlain 28 = .ok (.iload 6, 2) := by decide +kernel
theorem dX10_isPlain_30 : decode cX10_isPlain 30 = .ok (.iload 5, 2) := by decide +kernel
theorem dX10_isPlain_32 : decode cX10_isPlain 32 = .ok (.if_icmp .ge 52, 3) := by decide +kernel
theorem dX10_isPlain_35 : decode cX10_isPlain 35 = .ok (.aload_n 0, 1) := by decide +kernel
theorem dX10_isPlain_36 : decode cX10_isPlain 36 = .ok (.iload_n 2, 1) := by decide +kernel
theorem dX10_isPlain_37 : decode cX10_isPlain 37 = .ok (.iload_n 3, 1) := by decide +kernel
theorem dX10_isPlain_38 : decode cX10_isPlain 38 = .ok (.iload 6, 2) := by decide +kernel
theorem dX10_isPlain_40 : decode cX10_isPlain 40 = .ok (.iadd, 1) := by decide +kernel
theorem dX10_isPlain_41 : decode cX10_isPlain 41 = .ok (.invokevirtual 357, 3) := by decide +kernel
theorem dX10_isPlain_44 : decode cX10_isPlain 44 = .ok (.aload_n 0, 1) := by decide +kernel
theorem dX10_isPlain_45 : decode cX10_isPlain 45 = .ok (.getfield 346, 3) := by decide +kernel
theorem dX10_isPlain_48 : decode cX10_isPlain 48 = .ok (.getfield 319, 3) := by decide +kernel
theorem dX10_isPlain_51 : decode cX10_isPlain 51 = .ok (.iconst 4, 1) := by decide +kernel
theorem dX10_isPlain_52 : decode cX10_isPlain 52 = .ok (.iload_n 1, 1) := by decide +kernel
theorem dX10_isPlain_53 : decode cX10_isPlain 53 = .ok (.imul, 1) := by decide +kernel
theorem dX10_isPlain_54 : decode cX10_isPlain 54 = .ok (.iload 4, 2) := by decide +kernel
theorem dX10_isPlain_56 : decode cX10_isPlain 56 = .ok (.ifCond .eq 13, 3) := by decide +kernel
theorem dX10_isPlain_59 : decode cX10_isPlain 59 = .ok (.iload 5, 2) := by decide +kernel
theorem dX10_isPlain_61 : decode cX10_isPlain 61 = .ok (.iconst 1, 1) := by decide +kernel
theorem dX10_isPlain_62 : decode cX10_isPlain 62 = .ok (.isub, 1) := by decide +kernel
theorem dX10_isPlain_63 : decode cX10_isPlain 63 = .ok (.iload 6, 2) := by decide +kernel
theorem dX10_isPlain_65 : decode cX10_isPlain 65 = .ok (.isub, 1) := by decide +kernel
theorem dX10_isPlain_66 : decode cX10_isPlain 66 = .ok (.goto 5, 3) := by decide +kernel
theorem dX10_isPlain_69 : decode cX10_isPlain 69 = .ok (.iload 6, 2) := by decide +kernel
theorem dX10_isPlain_71 : decode cX10_isPlain 71 = .ok (.iadd, 1) := by decide +kernel
theorem dX10_isPlain_72 : decode cX10_isPlain 72 = .ok (.iaload, 1) := by decide +kernel
theorem dX10_isPlain_73 : decode cX10_isPlain 73 = .ok (.if_icmp .eq 5, 3) := by decide +kernel
theorem dX10_isPlain_76 : decode cX10_isPlain 76 = .ok (.iconst 0, 1) := by decide +kernel
theorem dX10_isPlain_77 : decode cX10_isPlain 77 = .ok (.ireturn, 1) := by decide +kernel
theorem dX10_isPlain_78 : decode cX10_isPlain 78 = .ok (.iinc 6 1, 3) := by decide +kernel
theorem dX10_isPlain_81 : decode cX10_isPlain 81 = .ok (.goto (-53), 3) := by decide +kernel
theorem dX10_isPlain_84 : decode cX10_isPlain 84 = .ok (.iconst 1, 1) := by decide +kernel
theorem dX10_isPlain_85 : decode cX10_isPlain 85 = .ok (.ireturn, 1) := by decide +kernel
theorem dX10_isGrowing_0 : decode cX10_isGrowing 0 = .ok (.iload_n 3, 1) := by decide +kernel
theorem dX10_isGrowing_1 : decode cX10_isGrowing 1 = .ok (.istore 4, 2) := by decide +kernel
theorem dX10_isGrowing_3 : decode cX10_isGrowing 3 = .ok (.iconst 0, 1) := by decide +kernel
theorem dX10_isGrowing_4 : decode cX10_isGrowing 4 = .ok (.istore 5, 2) := by decide +kernel
theorem dX10_isGrowing_6 : decode cX10_isGrowing 6 = .ok (.iload 5, 2) := by decide +kernel
theorem dX10_isGrowing_8 : decode cX10_isGrowing 8 = .ok (.aload_n 0, 1) := by decide +kernel
theorem dX10_isGrowing_9 : decode cX10_isGrowing 9 = .ok (.getfield 346, 3) := by decide +kernel
theorem dX10_isGrowing_12 : decode cX10_isGrowing 12 = .ok (.getfield 324, 3) := by decide +kernel
theorem dX10_isGrowing_15 : decode cX10_isGrowing 15 = .ok (.iload_n 1, 1) := by decide +kernel
theorem dX10_isGrowing_16 : decode cX10_isGrowing 16 = .ok (.iaload, 1) := by decide +kernel
theorem dX10_isGrowing_17 : decode cX10_isGrowing 17 = .ok (.if_icmp .ge 64, 3) := by decide +kernel
theorem dX10_isGrowing_20 : decode cX10_isGrowing 20 = .ok (.iconst 0, 1) := by decide +kernel
theorem dX10_isGrowing_21 : decode cX10_isGrowing 21 = .ok (.istore 6, 2) := by decide +kernel
theorem dX10_isGrowing_23 : decode cX10_isGrowing 23 = .ok (.iload 6, 2) := by decide +kernel
theorem dX10_isGrowing_25 : decode cX10_isGrowing 25 = .ok (.iload 5, 2) := by decide +kernel
theorem dX10_isGrowing_27 : decode cX10_isGrowing 27 = .ok (.if_icmp .gt 48, 3) := by decide +kernel
theorem dX10_isGrowing_30 : decode cX10_isGrowing 30 = .ok (.iload 4, 2) := by decide +kernel
theorem dX10_isGrowing_32 : decode cX10_isGrowing 32 = .ok (.aload_n 0, 1) := by decide +kernel
theorem dX10_isGrowing_33 : decode cX10_isGrowing 33 = .ok (.iload_n 2, 1) := by decide +kernel
theorem dX10_isGrowing_34 : decode cX10_isGrowing 34 = .ok (.invokevirtual 354, 3) := by decide +kernel
theorem dX10_isGrowing_37 : decode cX10_isGrowing 37 = .ok (.if_icmp .ge 27, 3) := by decide +kernel
theorem dX10_isGrowing_40 : decode cX10_isGrowing 40 = .ok (.aload_n 0, 1) := by decide +kernel
theorem dX10_isGrowing_41 : decode cX10_isGrowing 41 = .ok (.iload_n 2, 1) := by decide +kernel
theorem dX10_isGrowing_42 : decode cX10_isGrowing 42 = .ok (.iload 4, 2) := by decide +kernel
theorem dX10_isGrowing_44 : decode cX10_isGrowing 44 = .ok (.invokevirtual 357, 3) := by decide +kernel
theorem dX10_isGrowing_47 : decode cX10_isGrowing 47 = .ok (.aload_n 0, 1) := by decide +kernel
theorem dX10_isGrowing_48 : decode cX10_isGrowing 48 = .ok (.getfield 346, 3) := by decide +kernel
theorem dX10_isGrowing_51 : decode cX10_isGrowing 51 = .ok (.getfield 319, 3) := by decide +kernel
theorem dX10_isGrowing_54 : decode cX10_isGrowing 54 = .ok (.iconst 4, 1) := by decide +kernel
theorem dX10_isGrowing_55 : decode cX10_isGrowing 55 = .ok (.iload_n 1, 1) := by decide +kernel
theorem dX10_isGrowing_56 : decode cX10_isGrowing 56 = .ok (.imul, 1) := by decide +kernel
theorem dX10_isGrowing_57 : decode cX10_isGrowing 57 = .ok (.iload 5, 2) := by decide +kernel
theorem dX10_isGrowing_59 : decode cX10_isGrowing 59 = .ok (.iadd, 1) := by decide +kernel
theorem dX10_isGrowing_60 : decode cX10_isGrowing 60 = .ok (.iaload, 1) := by decide +kernel
theorem dX10_isGrowing_61 : decode cX10_isGrowing 61 = .ok (.if_icmp .eq 5, 3) := by decide +kernel
theorem dX10_isGrowing_64 : decode cX10_isGrowing 64 = .ok (.iconst 0, 1) := by decide +kernel
theorem dX10_isGrowing_65 : decode cX10_isGrowing 65 = .ok (.ireturn, 1) := by decide +kernel
theorem dX10_isGrowing_66 : decode cX10_isGrowing 66 = .ok (.iinc 4 1, 3) := by decide +kernel
theorem dX10_isGrowing_69 : decode cX10_isGrowing 69 = .ok (.iinc 6 1, 3) := by decide +kernel
theorem dX10_isGrowing_72 : decode cX10_isGrowing 72 = .ok (.goto (-49), 3) := by decide +kernel
theorem dX10_isGrowing_75 : decode cX10_isGrowing 75 = .ok (.iinc 5 1, 3) := by decide +kernel
theorem dX10_isGrowing_78 : decode cX10_isGrowing 78 = .ok (.goto (-72), 3) := by decide +kernel
theorem dX10_isGrowing_81 : decode cX10_isGrowing 81 = .ok (.iconst 1, 1) := by decide +kernel
theorem dX10_isGrowing_82 : decode cX10_isGrowing 82 = .ok (.ireturn, 1) := by decide +kernel
theorem dX10_isThere_0 : decode cX10_isThere 0 = .ok (.aload_n 0, 1) := by decide +kernel
theorem dX10_isThere_1 : decode cX10_isThere 1 = .ok (.getfield 346, 3) := by decide +kernel
theorem dX10_isThere_4 : decode cX10_isThere 4 = .ok (.getfield 321, 3) := by decide +kernel
theorem dX10_isThere_7 : decode cX10_isThere 7 = .ok (.iload_n 1, 1) := by decide +kernel
theorem dX10_isThere_8 : decode cX10_isThere 8 = .ok (.iaload, 1) := by decide +kernel
theorem dX10_isThere_9 : decode cX10_isThere 9 = .ok (.tableswitch 73 0 2 #[27, 36, 45], 27) := by decide +kernel
theorem dX10_isThere_36 : decode cX10_isThere 36 = .ok (.aload_n 0, 1) := by decide +kernel
theorem dX10_isThere_37 : decode cX10_isThere 37 = .ok (.iload_n 1, 1) := by decide +kernel
theorem dX10_isThere_38 : decode cX10_isThere 38 = .ok (.iload_n 2, 1) := by decide +kernel
theorem dX10_isThere_39 : decode cX10_isThere 39 = .ok (.iload_n 3, 1) := by decide +kernel
theorem dX10_isThere_40 : decode cX10_isThere 40 = .ok (.iconst 0, 1) := by decide +kernel
theorem dX10_isThere_41 : decode cX10_isThere 41 = .ok (.invokevirtual 509, 3) := by decide +kernel
theorem dX10_isThere_44 : decode cX10_isThere 44 = .ok (.ireturn, 1) := by decide +kernel
theorem dX10_isThere_45 : decode cX10_isThere 45 = .ok (.aload_n 0, 1) := by decide +kernel
theorem dX10_isThere_46 : decode cX10_isThere 46 = .ok (.iload_n 1, 1) := by decide +kernel
theorem dX10_isThere_47 : decode cX10_isThere 47 = .ok (.iload_n 2, 1) := by decide +kernel
theorem dX10_isThere_48 : decode cX10_isThere 48 = .ok (.iload_n 3, 1) := by decide +kernel
theorem dX10_isThere_49 : decode cX10_isThere 49 = .ok (.iconst 1, 1) := by decide +kernel
theorem dX10_isThere_50 : decode cX10_isThere 50 = .ok (.invokevirtual 509, 3) := by decide +kernel
theorem dX10_isThere_53 : decode cX10_isThere 53 = .ok (.ireturn, 1) := by decide +kernel
theorem dX10_isThere_54 : decode cX10_isThere 54 = .ok (.aload_n 0, 1) := by decide +kernel
theorem dX10_isThere_55 : decode cX10_isThere 55 = .ok (.iload_n 1, 1) := by decide +kernel
theorem dX10_isThere_56 : decode cX10_isThere 56 = .ok (.iload_n 2, 1) := by decide +kernel
theorem dX10_isThere_57 : decode cX10_isThere 57 = .ok (.iload_n 3, 1) := by decide +kernel
theorem dX10_isThere_58 : decode cX10_isThere 58 = .ok (.iconst 0, 1) := by decide +kernel
theorem dX10_isThere_59 : decode cX10_isThere 59 = .ok (.invokevirtual 509, 3) := by decide +kernel
theorem dX10_isThere_62 : decode cX10_isThere 62 = .ok (.ifCond .ne 14, 3) := by decide +kernel
theorem dX10_isThere_65 : decode cX10_isThere 65 = .ok (.aload_n 0, 1) := by decide +kernel
theorem dX10_isThere_66 : decode cX10_isThere 66 = .ok (.iload_n 1, 1) := by decide +kernel
theorem dX10_isThere_67 : decode cX10_isThere 67 = .ok (.iload_n 2, 1) := by decide +kernel
theorem dX10_isThere_68 : decode cX10_isThere 68 = .ok (.iload_n 3, 1) := by decide +kernel
theorem dX10_isThere_69 : decode cX10_isThere 69 = .ok (.iconst 1, 1) := by decide +kernel
theorem dX10_isThere_70 : decode cX10_isThere 70 = .ok (.invokevirtual 509, 3) := by decide +kernel
theorem dX10_isThere_73 : decode cX10_isThere 73 = .ok (.ifCond .eq 7, 3) := by decide +kernel
theorem dX10_isThere_76 : decode cX10_isThere 76 = .ok (.iconst 1, 1) := by decide +kernel
theorem dX10_isThere_77 : decode cX10_isThere 77 = .ok (.goto 4, 3) := by decide +kernel
theorem dX10_isThere_80 : decode cX10_isThere 80 = .ok (.iconst 0, 1) := by decide +kernel
theorem dX10_isThere_81 : decode cX10_isThere 81 = .ok (.ireturn, 1) := by decide +kernel
theorem dX10_isThere_82 : decode cX10_isThere 82 = .ok (.aload_n 0, 1) := by decide +kernel
theorem dX10_isThere_83 : decode cX10_isThere 83 = .ok (.iload_n 1, 1) := by decide +kernel
theorem dX10_isThere_84 : decode cX10_isThere 84 = .ok (.iload_n 2, 1) := by decide +kernel
theorem dX10_isThere_85 : decode cX10_isThere 85 = .ok (.iload_n 3, 1) := by decide +kernel
theorem dX10_isThere_86 : decode cX10_isThere 86 = .ok (.invokevirtual 513, 3) := by decide +kernel
theorem dX10_isThere_89 : decode cX10_isThere 89 = .ok (.ireturn, 1) := by decide +kernel
theorem dX10_isMotif_0 : decode cX10_isMotif 0 = .ok (.aload_n 0, 1) := by decide +kernel
theorem dX10_isMotif_1 : decode cX10_isMotif 1 = .ok (.iload_n 2, 1) := by decide +kernel
theorem dX10_isMotif_2 : decode cX10_isMotif 2 = .ok (.invokevirtual 377, 3) := by decide +kernel
theorem dX10_isMotif_5 : decode cX10_isMotif 5 = .ok (.ifCond .eq 22, 3) := by decide +kernel
theorem dX10_isMotif_8 : decode cX10_isMotif 8 = .ok (.iload_n 1, 1) := by decide +kernel
theorem dX10_isMotif_9 : decode cX10_isMotif 9 = .ok (.ifCond .lt 18, 3) := by decide +kernel
theorem dX10_isMotif_12 : decode cX10_isMotif 12 = .ok (.iload_n 1, 1) := by decide +kernel
theorem dX10_isMotif_13 : decode cX10_isMotif 13 = .ok (.aload_n 0, 1) := by decide +kernel
theorem dX10_isMotif_14 : decode cX10_isMotif 14 = .ok (.getfield 346, 3) := by decide +kernel
theorem dX10_isMotif_17 : decode cX10_isMotif 17 = .ok (.getfield 308, 3) := by decide +kernel
theorem dX10_isMotif_20 : decode cX10_isMotif 20 = .ok (.if_icmp .ge 7, 3) := by decide +kernel
theorem dX10_isMotif_23 : decode cX10_isMotif 23 = .ok (.iconst 1, 1) := by decide +kernel
theorem dX10_isMotif_24 : decode cX10_isMotif 24 = .ok (.goto 4, 3) := by decide +kernel
theorem dX10_isMotif_27 : decode cX10_isMotif 27 = .ok (.iconst 0, 1) := by decide +kernel
theorem dX10_isMotif_28 : decode cX10_isMotif 28 = .ok (.ireturn, 1) := by decide +kernel
theorem dX10_seen_0 : decode cX10_seen 0 = .ok (.aload_n 0, 1) := by decide +kernel
theorem dX10_seen_1 : decode cX10_seen 1 = .ok (.iconst 0, 1) := by decide +kernel
theorem dX10_seen_2 : decode cX10_seen 2 = .ok (.putfield 54, 3) := by decide +kernel
theorem dX10_seen_5 : decode cX10_seen 5 = .ok (.aload_n 0, 1) := by decide +kernel
theorem dX10_seen_6 : decode cX10_seen 6 = .ok (.iload_n 1, 1) := by decide +kernel
theorem dX10_seen_7 : decode cX10_seen 7 = .ok (.iload_n 2, 1) := by decide +kernel
theorem dX10_seen_8 : decode cX10_seen 8 = .ok (.invokevirtual 516, 3) := by decide +kernel
theorem dX10_seen_11 : decode cX10_seen 11 = .ok (.ifCond .ne 9, 3) := by decide +kernel
theorem dX10_seen_14 : decode cX10_seen 14 = .ok (.aload_n 0, 1) := by decide +kernel
theorem dX10_seen_15 : decode cX10_seen 15 = .ok (.iconst 1, 1) := by decide +kernel
theorem dX10_seen_16 : decode cX10_seen 16 = .ok (.invokevirtual 60, 3) := by decide +kernel
theorem dX10_seen_19 : decode cX10_seen 19 = .ok (.ireturn, 1) := by decide +kernel
theorem dX10_seen_20 : decode cX10_seen 20 = .ok (.iconst 0, 1) := by decide +kernel
theorem dX10_seen_21 : decode cX10_seen 21 = .ok (.istore_n 3, 1) := by decide +kernel
theorem dX10_seen_22 : decode cX10_seen 22 = .ok (.iconst 0, 1) := by decide +kernel
theorem dX10_seen_23 : decode cX10_seen 23 = .ok (.istore 4, 2) := by decide +kernel
theorem dX10_seen_25 : decode cX10_seen 25 = .ok (.iload 4, 2) := by decide +kernel
theorem dX10_seen_27 : decode cX10_seen 27 = .ok (.aload_n 0, 1) := by decide +kernel
theorem dX10_seen_28 : decode cX10_seen 28 = .ok (.iload_n 2, 1) := by decide +kernel
theorem dX10_seen_29 : decode cX10_seen 29 = .ok (.invokevirtual 354, 3) := by decide +kernel
theorem dX10_seen_32 : decode cX10_seen 32 = .ok (.if_icmp .ge 28, 3) := by decide +kernel
theorem dX10_seen_35 : decode cX10_seen 35 = .ok (.iload_n 3, 1) := by decide +kernel
theorem dX10_seen_36 : decode cX10_seen 36 = .ok (.aload_n 0, 1) := by decide +kernel
theorem dX10_seen_37 : decode cX10_seen 37 = .ok (.iload_n 1, 1) := by decide +kernel
theorem dX10_seen_38 : decode cX10_seen 38 = .ok (.iload_n 2, 1) := by decide +kernel
theorem dX10_seen_39 : decode cX10_seen 39 = .ok (.iload 4, 2) := by decide +kernel
theorem dX10_seen_41 : decode cX10_seen 41 = .ok (.invokevirtual 519, 3) := by decide +kernel
theorem dX10_seen_44 : decode cX10_seen 44 = .ok (.ifCond .eq 7, 3) := by decide +kernel
theorem dX10_seen_47 : decode cX10_seen 47 = .ok (.iconst 1, 1) := by decide +kernel
theorem dX10_seen_48 : decode cX10_seen 48 = .ok (.goto 4, 3) := by decide +kernel
theorem dX10_seen_51 : decode cX10_seen 51 = .ok (.iconst 0, 1) := by decide +kernel
theorem dX10_seen_52 : decode cX10_seen 52 = .ok (.iadd, 1) := by decide +kernel
theorem dX10_seen_53 : decode cX10_seen 53 = .ok (.istore_n 3, 1) := by decide +kernel
theorem dX10_seen_54 : decode cX10_seen 54 = .ok (.iinc 4 1, 3) := by decide +kernel
theorem dX10_seen_57 : decode cX10_seen 57 = .ok (.goto (-32), 3) := by decide +kernel
theorem dX10_seen_60 : decode cX10_seen 60 = .ok (.aload_n 0, 1) := by decide +kernel
theorem dX10_seen_61 : decode cX10_seen 61 = .ok (.iload_n 3, 1) := by decide +kernel
theorem dX10_seen_62 : decode cX10_seen 62 = .ok (.invokevirtual 64, 3) := by decide +kernel
theorem dX10_seen_65 : decode cX10_seen 65 = .ok (.ireturn, 1) := by decide +kernel
theorem dX10_seenAt_0 : decode cX10_seenAt 0 = .ok (.aload_n 0, 1) := by decide +kernel
theorem dX10_seenAt_1 : decode cX10_seenAt 1 = .ok (.iconst 0, 1) := by decide +kernel
theorem dX10_seenAt_2 : decode cX10_seenAt 2 = .ok (.putfield 54, 3) := by decide +kernel
theorem dX10_seenAt_5 : decode cX10_seenAt 5 = .ok (.aload_n 0, 1) := by decide +kernel
theorem dX10_seenAt_6 : decode cX10_seenAt 6 = .ok (.iload_n 1, 1) := by decide +kernel
theorem dX10_seenAt_7 : decode cX10_seenAt 7 = .ok (.iload_n 2, 1) := by decide +kernel
theorem dX10_seenAt_8 : decode cX10_seenAt 8 = .ok (.invokevirtual 516, 3) := by decide +kernel
theorem dX10_seenAt_11 : decode cX10_seenAt 11 = .ok (.ifCond .ne 9, 3) := by decide +kernel
theorem dX10_seenAt_14 : decode cX10_seenAt 14 = .ok (.aload_n 0, 1) := by decide +kernel
theorem dX10_seenAt_15 : decode cX10_seenAt 15 = .ok (.iconst 1, 1) := by decide +kernel
theorem dX10_seenAt_16 : decode cX10_seenAt 16 = .ok (.invokevirtual 60, 3) := by decide +kernel
theorem dX10_seenAt_19 : decode cX10_seenAt 19 = .ok (.ireturn, 1) := by decide +kernel
theorem dX10_seenAt_20 : decode cX10_seenAt 20 = .ok (.iconst 0, 1) := by decide +kernel
theorem dX10_seenAt_21 : decode cX10_seenAt 21 = .ok (.istore_n 3, 1) := by decide +kernel
theorem dX10_seenAt_22 : decode cX10_seenAt 22 = .ok (.iload_n 3, 1) := by decide +kernel
theorem dX10_seenAt_23 : decode cX10_seenAt 23 = .ok (.aload_n 0, 1) := by decide +kernel
theorem dX10_seenAt_24 : decode cX10_seenAt 24 = .ok (.iload_n 2, 1) := by decide +kernel
theorem dX10_seenAt_25 : decode cX10_seenAt 25 = .ok (.invokevirtual 354, 3) := by decide +kernel
theorem dX10_seenAt_28 : decode cX10_seenAt 28 = .ok (.if_icmp .ge 25, 3) := by decide +kernel
theorem dX10_seenAt_31 : decode cX10_seenAt 31 = .ok (.aload_n 0, 1) := by decide +kernel
theorem dX10_seenAt_32 : decode cX10_seenAt 32 = .ok (.iload_n 1, 1) := by decide +kernel
theorem dX10_seenAt_33 : decode cX10_seenAt 33 = .ok (.iload_n 2, 1) := by decide +kernel
theorem dX10_seenAt_34 : decode cX10_seenAt 34 = .ok (.iload_n 3, 1) := by decide +kernel
theorem dX10_seenAt_35 : decode cX10_seenAt 35 = .ok (.invokevirtual 519, 3) := by decide +kernel
theorem dX10_seenAt_38 : decode cX10_seenAt 38 = .ok (.ifCond .eq 9, 3) := by decide +kernel
theorem dX10_seenAt_41 : decode cX10_seenAt 41 = .ok (.aload_n 0, 1) := by decide +kernel
theorem dX10_seenAt_42 : decode cX10_seenAt 42 = .ok (.iload_n 3, 1) := by decide +kernel
theorem dX10_seenAt_43 : decode cX10_seenAt 43 = .ok (.invokevirtual 64, 3) := by decide +kernel
theorem dX10_seenAt_46 : decode cX10_seenAt 46 = .ok (.ireturn, 1) := by decide +kernel
theorem dX10_seenAt_47 : decode cX10_seenAt 47 = .ok (.iinc 3 1, 3) := by decide +kernel
theorem dX10_seenAt_50 : decode cX10_seenAt 50 = .ok (.goto (-28), 3) := by decide +kernel
theorem dX10_seenAt_53 : decode cX10_seenAt 53 = .ok (.aload_n 0, 1) := by decide +kernel
theorem dX10_seenAt_54 : decode cX10_seenAt 54 = .ok (.bipush (-2), 2) := by decide +kernel
theorem dX10_seenAt_56 : decode cX10_seenAt 56 = .ok (.invokevirtual 64, 3) := by decide +kernel
theorem dX10_seenAt_59 : decode cX10_seenAt 59 = .ok (.ireturn, 1) := by decide +kernel
theorem dX10_mayCome_0 : decode cX10_mayCome 0 = .ok (.iload_n 1, 1) := by decide +kernel
theorem dX10_mayCome_1 : decode cX10_mayCome 1 = .ok (.ifCond .ne 7, 3) := by decide +kernel
theorem dX10_mayCome_4 : decode cX10_mayCome 4 = .ok (.iload_n 2, 1) := by decide +kernel
theorem dX10_mayCome_5 : decode cX10_mayCome 5 = .ok (.goto 4, 3) := by decide +kernel
theorem dX10_mayCome_8 : decode cX10_mayCome 8 = .ok (.iload_n 3, 1) := by decide +kernel
theorem dX10_mayCome_9 : decode cX10_mayCome 9 = .ok (.istore 6, 2) := by decide +kernel
theorem dX10_mayCome_11 : decode cX10_mayCome 11 = .ok (.iload_n 1, 1) := by decide +kernel
theorem dX10_mayCome_12 : decode cX10_mayCome 12 = .ok (.ifCond .ne 7, 3) := by decide +kernel
theorem dX10_mayCome_15 : decode cX10_mayCome 15 = .ok (.iload_n 3, 1) := by decide +kernel
theorem dX10_mayCome_16 : decode cX10_mayCome 16 = .ok (.goto 4, 3) := by decide +kernel
theorem dX10_mayCome_19 : decode cX10_mayCome 19 = .ok (.iload_n 2, 1) := by decide +kernel
theorem dX10_mayCome_20 : decode cX10_mayCome 20 = .ok (.istore 7, 2) := by decide +kernel
theorem dX10_mayCome_22 : decode cX10_mayCome 22 = .ok (.iconst 0, 1) := by decide +kernel
theorem dX10_mayCome_23 : decode cX10_mayCome 23 = .ok (.istore 8, 2) := by decide +kernel
theorem dX10_mayCome_25 : decode cX10_mayCome 25 = .ok (.iload 8, 2) := by decide +kernel
theorem dX10_mayCome_27 : decode cX10_mayCome 27 = .ok (.aload_n 0, 1) := by decide +kernel
theorem dX10_mayCome_28 : decode cX10_mayCome 28 = .ok (.getfield 346, 3) := by decide +kernel
theorem dX10_mayCome_31 : decode cX10_mayCome 31 = .ok (.getfield 327, 3) := by decide +kernel
theorem dX10_mayCome_34 : decode cX10_mayCome 34 = .ok (.if_icmp .ge 55, 3) := by decide +kernel
theorem dX10_mayCome_37 : decode cX10_mayCome 37 = .ok (.aload_n 0, 1) := by decide +kernel
theorem dX10_mayCome_38 : decode cX10_mayCome 38 = .ok (.getfield 346, 3) := by decide +kernel
theorem dX10_mayCome_41 : decode cX10_mayCome 41 = .ok (.getfield 330, 3) := by decide +kernel
theorem dX10_mayCome_44 : decode cX10_mayCome 44 = .ok (.iload 8, 2) := by decide +kernel
theorem dX10_mayCome_46 : decode cX10_mayCome 46 = .ok (.iaload, 1) := by decide +kernel
theorem dX10_mayCome_47 : decode cX10_mayCome 47 = .ok (.iload_n 1, 1) := by decide +kernel
theorem dX10_mayCome_48 : decode cX10_mayCome 48 = .ok (.if_icmp .eq 35, 3) := by decide +kernel
theorem dX10_mayCome_51 : decode cX10_mayCome 51 = .ok (.aload_n 0, 1) := by decide +kernel
theorem dX10_mayCome_52 : decode cX10_mayCome 52 = .ok (.getfield 346, 3) := by decide +kernel
theorem dX10_mayCome_55 : decode cX10_mayCome 55 = .ok (.getfield 336, 3) := by decide +kernel
theorem dX10_mayCome_58 : decode cX10_mayCome 58 = .ok (.iload 8, 2) := by decide +kernel
theorem dX10_mayCome_60 : decode cX10_mayCome 60 = .ok (.iaload, 1) := by decide +kernel
theorem dX10_mayCome_61 : decode cX10_mayCome 61 = .ok (.iload 6, 2) := by decide +kernel
theorem dX10_mayCome_63 : decode cX10_mayCome 63 = .ok (.if_icmp .ne 20, 3) := by decide +kernel
theorem dX10_mayCome_66 : decode cX10_mayCome 66 = .ok (.iload 7, 2) := by decide +kernel
theorem dX10_mayCome_68 : decode cX10_mayCome 68 = .ok (.aload_n 0, 1) := by decide +kernel
theorem dX10_mayCome_69 : decode cX10_mayCome 69 = .ok (.getfield 346, 3) := by decide +kernel
theorem dX10_mayCome_72 : decode cX10_mayCome 72 = .ok (.getfield 333, 3) := by decide +kernel
theorem dX10_mayCome_75 : decode cX10_mayCome 75 = .ok (.iload 8, 2) := by decide +kernel
theorem dX10_mayCome_77 : decode cX10_mayCome 77 = .ok (.iaload, 1) := by decide +kernel
theorem dX10_mayCome_78 : decode cX10_mayCome 78 = .ok (.if_icmp .gt 5, 3) := by decide +kernel
theorem dX10_mayCome_81 : decode cX10_mayCome 81 = .ok (.iconst 0, 1) := by decide +kernel
theorem dX10_mayCome_82 : decode cX10_mayCome 82 = .ok (.ireturn, 1) := by decide +kernel
theorem dX10_mayCome_83 : decode cX10_mayCome 83 = .ok (.iinc 8 1, 3) := by decide +kernel
theorem dX10_mayCome_86 : decode cX10_mayCome 86 = .ok (.goto (-61), 3) := by decide +kernel
theorem dX10_mayCome_89 : decode cX10_mayCome 89 = .ok (.iload_n 1, 1) := by decide +kernel
theorem dX10_mayCome_90 : decode cX10_mayCome 90 = .ok (.ifCond .eq 16, 3) := by decide +kernel
theorem dX10_mayCome_93 : decode cX10_mayCome 93 = .ok (.iload 6, 2) := by decide +kernel
theorem dX10_mayCome_95 : decode cX10_mayCome 95 = .ok (.iload 5, 2) := by decide +kernel
theorem dX10_mayCome_97 : decode cX10_mayCome 97 = .ok (.if_icmp .ne 9, 3) := by decide +kernel
theorem dX10_mayCome_100 : decode cX10_mayCome 100 = .ok (.iload_n 2, 1) := by decide +kernel
theorem dX10_mayCome_101 : decode cX10_mayCome 101 = .ok (.iload 4, 2) := by decide +kernel
theorem dX10_mayCome_103 : decode cX10_mayCome 103 = .ok (.if_icmp .le 7, 3) := by decide +kernel
theorem dX10_mayCome_106 : decode cX10_mayCome 106 = .ok (.iconst 1, 1) := by decide +kernel
theorem dX10_mayCome_107 : decode cX10_mayCome 107 = .ok (.goto 4, 3) := by decide +kernel
theorem dX10_mayCome_110 : decode cX10_mayCome 110 = .ok (.iconst 0, 1) := by decide +kernel
theorem dX10_mayCome_111 : decode cX10_mayCome 111 = .ok (.ireturn, 1) := by decide +kernel
theorem dX10_pathsBy_0 : decode cX10_pathsBy 0 = .ok (.aload_n 0, 1) := by decide +kernel
theorem dX10_pathsBy_1 : decode cX10_pathsBy 1 = .ok (.iconst 0, 1) := by decide +kernel
theorem dX10_pathsBy_2 : decode cX10_pathsBy 2 = .ok (.invokevirtual 354, 3) := by decide +kernel
theorem dX10_pathsBy_5 : decode cX10_pathsBy 5 = .ok (.istore_n 3, 1) := by decide +kernel
theorem dX10_pathsBy_6 : decode cX10_pathsBy 6 = .ok (.aload_n 0, 1) := by decide +kernel
theorem dX10_pathsBy_7 : decode cX10_pathsBy 7 = .ok (.iconst 1, 1) := by decide +kernel
theorem dX10_pathsBy_8 : decode cX10_pathsBy 8 = .ok (.invokevirtual 354, 3) := by decide +kernel
theorem dX10_pathsBy_11 : decode cX10_pathsBy 11 = .ok (.istore 4, 2) := by decide +kernel
theorem dX10_pathsBy_13 : decode cX10_pathsBy 13 = .ok (.iconst 0, 1) := by decide +kernel
theorem dX10_pathsBy_14 : decode cX10_pathsBy 14 = .ok (.istore 5, 2) := by decide +kernel
theorem dX10_pathsBy_16 : decode cX10_pathsBy 16 = .ok (.iload 5, 2) := by decide +kernel
theorem dX10_pathsBy_18 : decode cX10_pathsBy 18 = .ok (.iload_n 3, 1) := by decide +kernel
theorem dX10_pathsBy_19 : decode cX10_pathsBy 19 = .ok (.if_icmp .gt 139, 3) := by decide +kernel
theorem dX10_pathsBy_22 : decode cX10_pathsBy 22 = .ok (.iconst 0, 1) := by decide +kernel
theorem dX10_pathsBy_23 : decode cX10_pathsBy 23 = .ok (.istore 6, 2) := by decide +kernel
theorem dX10_pathsBy_25 : decode cX10_pathsBy 25 = .ok (.iload 6, 2) := by decide +kernel
theorem dX10_pathsBy_27 : decode cX10_pathsBy 27 = .ok (.iload 4, 2) := by decide +kernel
theorem dX10_pathsBy_29 : decode cX10_pathsBy 29 = .ok (.if_icmp .gt 123, 3) := by decide +kernel
theorem dX10_pathsBy_32 : decode cX10_pathsBy 32 = .ok (.iload 5, 2) := by decide +kernel
theorem dX10_pathsBy_34 : decode cX10_pathsBy 34 = .ok (.ifCond .ne 12, 3) := by decide +kernel
theorem dX10_pathsBy_37 : decode cX10_pathsBy 37 = .ok (.iload 6, 2) := by decide +kernel
theorem dX10_pathsBy_39 : decode cX10_pathsBy 39 = .ok (.ifCond .ne 7, 3) := by decide +kernel
theorem dX10_pathsBy_42 : decode cX10_pathsBy 42 = .ok (.lconst 1, 1) := by decide +kernel
theorem dX10_pathsBy_43 : decode cX10_pathsBy 43 = .ok (.goto 4, 3) := by decide +kernel
theorem dX10_pathsBy_46 : decode cX10_pathsBy 46 = .ok (.lconst 0, 1) := by decide +kernel
theorem dX10_pathsBy_47 : decode cX10_pathsBy 47 = .ok (.lstore 7, 2) := by decide +kernel
theorem dX10_pathsBy_49 : decode cX10_pathsBy 49 = .ok (.iload 5, 2) := by decide +kernel
theorem dX10_pathsBy_51 : decode cX10_pathsBy 51 = .ok (.ifCond .le 39, 3) := by decide +kernel
theorem dX10_pathsBy_54 : decode cX10_pathsBy 54 = .ok (.aload_n 0, 1) := by decide +kernel
theorem dX10_pathsBy_55 : decode cX10_pathsBy 55 = .ok (.iconst 0, 1) := by decide +kernel
theorem dX10_pathsBy_56 : decode cX10_pathsBy 56 = .ok (.iload 5, 2) := by decide +kernel
theorem dX10_pathsBy_58 : decode cX10_pathsBy 58 = .ok (.iconst 1, 1) := by decide +kernel
theorem dX10_pathsBy_59 : decode cX10_pathsBy 59 = .ok (.isub, 1) := by decide +kernel
theorem dX10_pathsBy_60 : decode cX10_pathsBy 60 = .ok (.iload 6, 2) := by decide +kernel
theorem dX10_pathsBy_62 : decode cX10_pathsBy 62 = .ok (.iload_n 1, 1) := by decide +kernel
theorem dX10_pathsBy_63 : decode cX10_pathsBy 63 = .ok (.iload_n 2, 1) := by decide +kernel
theorem dX10_pathsBy_64 : decode cX10_pathsBy 64 = .ok (.invokevirtual 522, 3) := by decide +kernel
theorem dX10_pathsBy_67 : decode cX10_pathsBy 67 = .ok (.ifCond .eq 23, 3) := by decide +kernel
theorem dX10_pathsBy_70 : decode cX10_pathsBy 70 = .ok (.lload 7, 2) := by decide +kernel
theorem dX10_pathsBy_72 : decode cX10_pathsBy 72 = .ok (.aload_n 0, 1) := by decide +kernel
theorem dX10_pathsBy_73 : decode cX10_pathsBy 73 = .ok (.getfield 51, 3) := by decide +kernel
theorem dX10_pathsBy_76 : decode cX10_pathsBy 76 = .ok (.bipush 25, 2) := by decide +kernel
theorem dX10_pathsBy_78 : decode cX10_pathsBy 78 = .ok (.iload 5, 2) := by decide +kernel
theorem dX10_pathsBy_80 : decode cX10_pathsBy 80 = .ok (.iconst 1, 1) := by decide +kernel
theorem dX10_pathsBy_81 : decode cX10_pathsBy 81 = .ok (.isub, 1) := by decide +kernel
theorem dX10_pathsBy_82 : decode cX10_pathsBy 82 = .ok (.imul, 1) := by decide +kernel
theorem dX10_pathsBy_83 : decode cX10_pathsBy 83 = .ok (.iload 6, 2) := by decide +kernel
theorem dX10_pathsBy_85 : decode cX10_pathsBy 85 = .ok (.iadd, 1) := by decide +kernel
theorem dX10_pathsBy_86 : decode cX10_pathsBy 86 = .ok (.laload, 1) := by decide +kernel
theorem dX10_pathsBy_87 : decode cX10_pathsBy 87 = .ok (.ladd, 1) := by decide +kernel
theorem dX10_pathsBy_88 : decode cX10_pathsBy 88 = .ok (.lstore 7, 2) := by decide +kernel
theorem dX10_pathsBy_90 : decode cX10_pathsBy 90 = .ok (.iload 6, 2) := by decide +kernel
theorem dX10_pathsBy_92 : decode cX10_pathsBy 92 = .ok (.ifCond .le 39, 3) := by decide +kernel
theorem dX10_pathsBy_95 : decode cX10_pathsBy 95 = .ok (.aload_n 0, 1) := by decide +kernel
theorem dX10_pathsBy_96 : decode cX10_pathsBy 96 = .ok (.iconst 1, 1) := by decide +kernel
theorem dX10_pathsBy_97 : decode cX10_pathsBy 97 = .ok (.iload 5, 2) := by decide +kernel
theorem dX10_pathsBy_99 : decode cX10_pathsBy 99 = .ok (.iload 6, 2) := by decide +kernel
theorem dX10_pathsBy_101 : decode cX10_pathsBy 101 = .ok (.iconst 1, 1) := by decide +kernel
theorem dX10_pathsBy_102 : decode cX10_pathsBy 102 = .ok (.isub, 1) := by decide +kernel
theorem dX10_pathsBy_103 : decode cX10_pathsBy 103 = .ok (.iload_n 1, 1) := by decide +kernel
theorem dX10_pathsBy_104 : decode cX10_pathsBy 104 = .ok (.iload_n 2, 1) := by decide +kernel
theorem dX10_pathsBy_105 : decode cX10_pathsBy 105 = .ok (.invokevirtual 522, 3) := by decide +kernel
theorem dX10_pathsBy_108 : decode cX10_pathsBy 108 = .ok (.ifCond .eq 23, 3) := by decide +kernel
theorem dX10_pathsBy_111 : decode cX10_pathsBy 111 = .ok (.lload 7, 2) := by decide +kernel
theorem dX10_pathsBy_113 : decode cX10_pathsBy 113 = .ok (.aload_n 0, 1) := by decide +kernel
theorem dX10_pathsBy_114 : decode cX10_pathsBy 114 = .ok (.getfield 51, 3) := by decide +kernel
theorem dX10_pathsBy_117 : decode cX10_pathsBy 117 = .ok (.bipush 25, 2) := by decide +kernel
theorem dX10_pathsBy_119 : decode cX10_pathsBy 119 = .ok (.iload 5, 2) := by decide +kernel
theorem dX10_pathsBy_121 : decode cX10_pathsBy 121 = .ok (.imul, 1) := by decide +kernel
theorem dX10_pathsBy_122 : decode cX10_pathsBy 122 = .ok (.iload 6, 2) := by decide +kernel
theorem dX10_pathsBy_124 : decode cX10_pathsBy 124 = .ok (.iadd, 1) := by decide +kernel
theorem dX10_pathsBy_125 : decode cX10_pathsBy 125 = .ok (.iconst 1, 1) := by decide +kernel
theorem dX10_pathsBy_126 : decode cX10_pathsBy 126 = .ok (.isub, 1) := by decide +kernel
theorem dX10_pathsBy_127 : decode cX10_pathsBy 127 = .ok (.laload, 1) := by decide +kernel
theorem dX10_pathsBy_128 : decode cX10_pathsBy 128 = .ok (.ladd, 1) := by decide +kernel
theorem dX10_pathsBy_129 : decode cX10_pathsBy 129 = .ok (.lstore 7, 2) := by decide +kernel
theorem dX10_pathsBy_131 : decode cX10_pathsBy 131 = .ok (.aload_n 0, 1) := by decide +kernel
theorem dX10_pathsBy_132 : decode cX10_pathsBy 132 = .ok (.getfield 51, 3) := by decide +kernel
theorem dX10_pathsBy_135 : decode cX10_pathsBy 135 = .ok (.bipush 25, 2) := by decide +kernel
theorem dX10_pathsBy_137 : decode cX10_pathsBy 137 = .ok (.iload 5, 2) := by decide +kernel
theorem dX10_pathsBy_139 : decode cX10_pathsBy 139 = .ok (.imul, 1) := by decide +kernel
theorem dX10_pathsBy_140 : decode cX10_pathsBy 140 = .ok (.iload 6, 2) := by decide +kernel
theorem dX10_pathsBy_142 : decode cX10_pathsBy 142 = .ok (.iadd, 1) := by decide +kernel
theorem dX10_pathsBy_143 : decode cX10_pathsBy 143 = .ok (.lload 7, 2) := by decide +kernel
theorem dX10_pathsBy_145 : decode cX10_pathsBy 145 = .ok (.lastore, 1) := by decide +kernel
theorem dX10_pathsBy_146 : decode cX10_pathsBy 146 = .ok (.iinc 6 1, 3) := by decide +kernel
theorem dX10_pathsBy_149 : decode cX10_pathsBy 149 = .ok (.goto (-124), 3) := by decide +kernel
theorem dX10_pathsBy_152 : decode cX10_pathsBy 152 = .ok (.iinc 5 1, 3) := by decide +kernel
theorem dX10_pathsBy_155 : decode cX10_pathsBy 155 = .ok (.goto (-139), 3) := by decide +kernel
theorem dX10_pathsBy_158 : decode cX10_pathsBy 158 = .ok (.aload_n 0, 1) := by decide +kernel
theorem dX10_pathsBy_159 : decode cX10_pathsBy 159 = .ok (.getfield 51, 3) := by decide +kernel
theorem dX10_pathsBy_162 : decode cX10_pathsBy 162 = .ok (.bipush 25, 2) := by decide +kernel
theorem dX10_pathsBy_164 : decode cX10_pathsBy 164 = .ok (.iload_n 3, 1) := by decide +kernel
theorem dX10_pathsBy_165 : decode cX10_pathsBy 165 = .ok (.imul, 1) := by decide +kernel
theorem dX10_pathsBy_166 : decode cX10_pathsBy 166 = .ok (.iload 4, 2) := by decide +kernel
theorem dX10_pathsBy_168 : decode cX10_pathsBy 168 = .ok (.iadd, 1) := by decide +kernel
theorem dX10_pathsBy_169 : decode cX10_pathsBy 169 = .ok (.laload, 1) := by decide +kernel
theorem dX10_pathsBy_170 : decode cX10_pathsBy 170 = .ok (.lreturn, 1) := by decide +kernel
theorem dX10_orders_0 : decode cX10_orders 0 = .ok (.aload_n 0, 1) := by decide +kernel
theorem dX10_orders_1 : decode cX10_orders 1 = .ok (.iconst 0, 1) := by decide +kernel
theorem dX10_orders_2 : decode cX10_orders 2 = .ok (.putfield 54, 3) := by decide +kernel
theorem dX10_orders_5 : decode cX10_orders 5 = .ok (.aload_n 0, 1) := by decide +kernel
theorem dX10_orders_6 : decode cX10_orders 6 = .ok (.getfield 346, 3) := by decide +kernel
theorem dX10_orders_9 : decode cX10_orders 9 = .ok (.ifnonnull 10, 3) := by decide +kernel
theorem dX10_orders_12 : decode cX10_orders 12 = .ok (.aload_n 0, 1) := by decide +kernel
theorem dX10_orders_13 : decode cX10_orders 13 = .ok (.iconst 1, 1) := by decide +kernel
theorem dX10_orders_14 : decode cX10_orders 14 = .ok (.invokevirtual 60, 3) := by decide +kernel
theorem dX10_orders_17 : decode cX10_orders 17 = .ok (.i2l, 1) := by decide +kernel
theorem dX10_orders_18 : decode cX10_orders 18 = .ok (.lreturn, 1) := by decide +kernel
theorem dX10_orders_19 : decode cX10_orders 19 = .ok (.aload_n 0, 1) := by decide +kernel
theorem dX10_orders_20 : decode cX10_orders 20 = .ok (.iconst 0, 1) := by decide +kernel
theorem dX10_orders_21 : decode cX10_orders 21 = .ok (.invokevirtual 64, 3) := by decide +kernel
theorem dX10_orders_24 : decode cX10_orders 24 = .ok (.pop, 1) := by decide +kernel
theorem dX10_orders_25 : decode cX10_orders 25 = .ok (.aload_n 0, 1) := by decide +kernel
theorem dX10_orders_26 : decode cX10_orders 26 = .ok (.iconst (-1), 1) := by decide +kernel
theorem dX10_orders_27 : decode cX10_orders 27 = .ok (.iconst (-1), 1) := by decide +kernel
theorem dX10_orders_28 : decode cX10_orders 28 = .ok (.invokevirtual 526, 3) := by decide +kernel
theorem dX10_orders_31 : decode cX10_orders 31 = .ok (.lreturn, 1) := by decide +kernel
theorem dX10_ahead_0 : decode cX10_ahead 0 = .ok (.aload_n 0, 1) := by decide +kernel
theorem dX10_ahead_1 : decode cX10_ahead 1 = .ok (.iconst 0, 1) := by decide +kernel
theorem dX10_ahead_2 : decode cX10_ahead 2 = .ok (.putfield 54, 3) := by decide +kernel
theorem dX10_ahead_5 : decode cX10_ahead 5 = .ok (.aload_n 0, 1) := by decide +kernel
theorem dX10_ahead_6 : decode cX10_ahead 6 = .ok (.getfield 346, 3) := by decide +kernel
theorem dX10_ahead_9 : decode cX10_ahead 9 = .ok (.ifnull 29, 3) := by decide +kernel
theorem dX10_ahead_12 : decode cX10_ahead 12 = .ok (.iload_n 1, 1) := by decide +kernel
theorem dX10_ahead_13 : decode cX10_ahead 13 = .ok (.ifCond .lt 25, 3) := by decide +kernel
theorem dX10_ahead_16 : decode cX10_ahead 16 = .ok (.iload_n 1, 1) := by decide +kernel
theorem dX10_ahead_17 : decode cX10_ahead 17 = .ok (.aload_n 0, 1) := by decide +kernel
theorem dX10_ahead_18 : decode cX10_ahead 18 = .ok (.iconst 0, 1) := by decide +kernel
theorem dX10_ahead_19 : decode cX10_ahead 19 = .ok (.invokevirtual 354, 3) := by decide +kernel
theorem dX10_ahead_22 : decode cX10_ahead 22 = .ok (.if_icmp .ge 16, 3) := by decide +kernel
theorem dX10_ahead_25 : decode cX10_ahead 25 = .ok (.iload_n 2, 1) := by decide +kernel
theorem dX10_ahead_26 : decode cX10_ahead 26 = .ok (.ifCond .lt 12, 3) := by decide +kernel
theorem dX10_ahead_29 : decode cX10_ahead 29 = .ok (.iload_n 2, 1) := by decide +kernel
theorem dX10_ahead_30 : decode cX10_ahead 30 = .ok (.aload_n 0, 1) := by decide +kernel
theorem dX10_ahead_31 : decode cX10_ahead 31 = .ok (.iconst 1, 1) := by decide +kernel
theorem dX10_ahead_32 : decode cX10_ahead 32 = .ok (.invokevirtual 354, 3) := by decide +kernel
theorem dX10_ahead_35 : decode cX10_ahead 35 = .ok (.if_icmp .lt 10, 3) := by decide +kernel
theorem dX10_ahead_38 : decode cX10_ahead 38 = .ok (.aload_n 0, 1) := by decide +kernel
theorem dX10_ahead_39 : decode cX10_ahead 39 = .ok (.iconst 1, 1) := by decide +kernel
theorem dX10_ahead_40 : decode cX10_ahead 40 = .ok (.invokevirtual 60, 3) := by decide +kernel
theorem dX10_ahead_43 : decode cX10_ahead 43 = .ok (.i2l, 1) := by decide +kernel
theorem dX10_ahead_44 : decode cX10_ahead 44 = .ok (.lreturn, 1) := by decide +kernel
theorem dX10_ahead_45 : decode cX10_ahead 45 = .ok (.aload_n 0, 1) := by decide +kernel
theorem dX10_ahead_46 : decode cX10_ahead 46 = .ok (.iconst 0, 1) := by decide +kernel
theorem dX10_ahead_47 : decode cX10_ahead 47 = .ok (.invokevirtual 64, 3) := by decide +kernel
theorem dX10_ahead_50 : decode cX10_ahead 50 = .ok (.pop, 1) := by decide +kernel
theorem dX10_ahead_51 : decode cX10_ahead 51 = .ok (.aload_n 0, 1) := by decide +kernel
theorem dX10_ahead_52 : decode cX10_ahead 52 = .ok (.iload_n 1, 1) := by decide +kernel
theorem dX10_ahead_53 : decode cX10_ahead 53 = .ok (.iload_n 2, 1) := by decide +kernel
theorem dX10_ahead_54 : decode cX10_ahead 54 = .ok (.invokevirtual 526, 3) := by decide +kernel
theorem dX10_ahead_57 : decode cX10_ahead 57 = .ok (.lreturn, 1) := by decide +kernel
theorem dX10_mark_0 : decode cX10_mark 0 = .ok (.aload_n 0, 1) := by decide +kernel
theorem dX10_mark_1 : decode cX10_mark 1 = .ok (.iconst 0, 1) := by decide +kernel
theorem dX10_mark_2 : decode cX10_mark 2 = .ok (.putfield 54, 3) := by decide +kernel
theorem dX10_mark_5 : decode cX10_mark 5 = .ok (.aload_n 0, 1) := by decide +kernel
theorem dX10_mark_6 : decode cX10_mark 6 = .ok (.getfield 346, 3) := by decide +kernel
theorem dX10_mark_9 : decode cX10_mark 9 = .ok (.ifnonnull 9, 3) := by decide +kernel
theorem dX10_mark_12 : decode cX10_mark 12 = .ok (.aload_n 0, 1) := by decide +kernel
theorem dX10_mark_13 : decode cX10_mark 13 = .ok (.iconst 1, 1) := by decide +kernel
theorem dX10_mark_14 : decode cX10_mark 14 = .ok (.invokevirtual 60, 3) := by decide +kernel
theorem dX10_mark_17 : decode cX10_mark 17 = .ok (.ireturn, 1) := by decide +kernel
theorem dX10_mark_18 : decode cX10_mark 18 = .ok (.aload_n 0, 1) := by decide +kernel
theorem dX10_mark_19 : decode cX10_mark 19 = .ok (.getfield 351, 3) := by decide +kernel
theorem dX10_mark_22 : decode cX10_mark 22 = .ok (.iconst 3, 1) := by decide +kernel
theorem dX10_mark_23 : decode cX10_mark 23 = .ok (.if_icmp .ne 9, 3) := by decide +kernel
theorem dX10_mark_26 : decode cX10_mark 26 = .ok (.aload_n 0, 1) := by decide +kernel
theorem dX10_mark_27 : decode cX10_mark 27 = .ok (.iconst 3, 1) := by decide +kernel
theorem dX10_mark_28 : decode cX10_mark 28 = .ok (.invokevirtual 60, 3) := by decide +kernel
theorem dX10_mark_31 : decode cX10_mark 31 = .ok (.ireturn, 1) := by decide +kernel
theorem dX10_mark_32 : decode cX10_mark 32 = .ok (.iconst 0, 1) := by decide +kernel
theorem dX10_mark_33 : decode cX10_mark 33 = .ok (.istore_n 1, 1) := by decide +kernel
theorem dX10_mark_34 : decode cX10_mark 34 = .ok (.iload_n 1, 1) := by decide +kernel
theorem dX10_mark_35 : decode cX10_mark 35 = .ok (.bipush 59, 2) := by decide +kernel
theorem dX10_mark_37 : decode cX10_mark 37 = .ok (.if_icmp .ge 29, 3) := by decide +kernel
theorem dX10_mark_40 : decode cX10_mark 40 = .ok (.aload_n 0, 1) := by decide +kernel
theorem dX10_mark_41 : decode cX10_mark 41 = .ok (.getfield 24, 3) := by decide +kernel
theorem dX10_mark_44 : decode cX10_mark 44 = .ok (.bipush 59, 2) := by decide +kernel
theorem dX10_mark_46 : decode cX10_mark 46 = .ok (.aload_n 0, 1) := by decide +kernel
theorem dX10_mark_47 : decode cX10_mark 47 = .ok (.getfield 351, 3) := by decide +kernel
theorem dX10_mark_50 : decode cX10_mark 50 = .ok (.imul, 1) := by decide +kernel
theorem dX10_mark_51 : decode cX10_mark 51 = .ok (.iload_n 1, 1) := by decide +kernel
theorem dX10_mark_52 : decode cX10_mark 52 = .ok (.iadd, 1) := by decide +kernel
theorem dX10_mark_53 : decode cX10_mark 53 = .ok (.aload_n 0, 1) := by decide +kernel
theorem dX10_mark_54 : decode cX10_mark 54 = .ok (.getfield 17, 3) := by decide +kernel
theorem dX10_mark_57 : decode cX10_mark 57 = .ok (.iload_n 1, 1) := by decide +kernel
theorem dX10_mark_58 : decode cX10_mark 58 = .ok (.iaload, 1) := by decide +kernel
theorem dX10_mark_59 : decode cX10_mark 59 = .ok (.iastore, 1) := by decide +kernel
theorem dX10_mark_60 : decode cX10_mark 60 = .ok (.iinc 1 1, 3) := by decide +kernel
theorem dX10_mark_63 : decode cX10_mark 63 = .ok (.goto (-29), 3) := by decide +kernel
theorem dX10_mark_66 : decode cX10_mark 66 = .ok (.aload_n 0, 1) := by decide +kernel
theorem dX10_mark_67 : decode cX10_mark 67 = .ok (.dup, 1) := by decide +kernel
theorem dX10_mark_68 : decode cX10_mark 68 = .ok (.getfield 351, 3) := by decide +kernel
theorem dX10_mark_71 : decode cX10_mark 71 = .ok (.iconst 1, 1) := by decide +kernel
theorem dX10_mark_72 : decode cX10_mark 72 = .ok (.iadd, 1) := by decide +kernel
theorem dX10_mark_73 : decode cX10_mark 73 = .ok (.putfield 351, 3) := by decide +kernel
theorem dX10_mark_76 : decode cX10_mark 76 = .ok (.aload_n 0, 1) := by decide +kernel
theorem dX10_mark_77 : decode cX10_mark 77 = .ok (.aload_n 0, 1) := by decide +kernel
theorem dX10_mark_78 : decode cX10_mark 78 = .ok (.getfield 351, 3) := by decide +kernel
theorem dX10_mark_81 : decode cX10_mark 81 = .ok (.iconst 1, 1) := by decide +kernel
theorem dX10_mark_82 : decode cX10_mark 82 = .ok (.isub, 1) := by decide +kernel
theorem dX10_mark_83 : decode cX10_mark 83 = .ok (.invokevirtual 64, 3) := by decide +kernel
theorem dX10_mark_86 : decode cX10_mark 86 = .ok (.ireturn, 1) := by decide +kernel
theorem dX10_back_0 : decode cX10_back 0 = .ok (.aload_n 0, 1) := by decide +kernel
theorem dX10_back_1 : decode cX10_back 1 = .ok (.iconst 0, 1) := by decide +kernel
theorem dX10_back_2 : decode cX10_back 2 = .ok (.putfield 54, 3) := by decide +kernel
theorem dX10_back_5 : decode cX10_back 5 = .ok (.aload_n 0, 1) := by decide +kernel
theorem dX10_back_6 : decode cX10_back 6 = .ok (.getfield 346, 3) := by decide +kernel
theorem dX10_back_9 : decode cX10_back 9 = .ok (.ifnull 15, 3) := by decide +kernel
theorem dX10_back_12 : decode cX10_back 12 = .ok (.iload_n 1, 1) := by decide +kernel
theorem dX10_back_13 : decode cX10_back 13 = .ok (.ifCond .lt 11, 3) := by decide +kernel
theorem dX10_back_16 : decode cX10_back 16 = .ok (.iload_n 1, 1) := by decide +kernel
theorem dX10_back_17 : decode cX10_back 17 = .ok (.aload_n 0, 1) := by decide +kernel
theorem dX10_back_18 : decode cX10_back 18 = .ok (.getfield 351, 3) := by decide +kernel
theorem dX10_back_21 : decode cX10_back 21 = .ok (.if_icmp .lt 9, 3) := by decide +kernel
theorem dX10_back_24 : decode cX10_back 24 = .ok (.aload_n 0, 1) := by decide +kernel
theorem dX10_back_25 : decode cX10_back 25 = .ok (.iconst 1, 1) := by decide +kernel
theorem dX10_back_26 : decode cX10_back 26 = .ok (.invokevirtual 386, 3) := by decide +kernel
theorem dX10_back_29 : decode cX10_back 29 = .ok (.ireturn, 1) := by decide +kernel
theorem dX10_back_30 : decode cX10_back 30 = .ok (.iconst 0, 1) := by decide +kernel
theorem dX10_back_31 : decode cX10_back 31 = .ok (.istore_n 2, 1) := by decide +kernel
theorem dX10_back_32 : decode cX10_back 32 = .ok (.iload_n 2, 1) := by decide +kernel
theorem dX10_back_33 : decode cX10_back 33 = .ok (.bipush 59, 2) := by decide +kernel
theorem dX10_back_35 : decode cX10_back 35 = .ok (.if_icmp .ge 26, 3) := by decide +kernel
theorem dX10_back_38 : decode cX10_back 38 = .ok (.aload_n 0, 1) := by decide +kernel
theorem dX10_back_39 : decode cX10_back 39 = .ok (.getfield 17, 3) := by decide +kernel
theorem dX10_back_42 : decode cX10_back 42 = .ok (.iload_n 2, 1) := by decide +kernel
theorem dX10_back_43 : decode cX10_back 43 = .ok (.aload_n 0, 1) := by decide +kernel
theorem dX10_back_44 : decode cX10_back 44 = .ok (.getfield 24, 3) := by decide +kernel
theorem dX10_back_47 : decode cX10_back 47 = .ok (.bipush 59, 2) := by decide +kernel
theorem dX10_back_49 : decode cX10_back 49 = .ok (.iload_n 1, 1) := by decide +kernel
theorem dX10_back_50 : decode cX10_back 50 = .ok (.imul, 1) := by decide +kernel
theorem dX10_back_51 : decode cX10_back 51 = .ok (.iload_n 2, 1) := by decide +kernel
theorem dX10_back_52 : decode cX10_back 52 = .ok (.iadd, 1) := by decide +kernel
theorem dX10_back_53 : decode cX10_back 53 = .ok (.iaload, 1) := by decide +kernel
theorem dX10_back_54 : decode cX10_back 54 = .ok (.iastore, 1) := by decide +kernel
theorem dX10_back_55 : decode cX10_back 55 = .ok (.iinc 2 1, 3) := by decide +kernel
theorem dX10_back_58 : decode cX10_back 58 = .ok (.goto (-26), 3) := by decide +kernel
theorem dX10_back_61 : decode cX10_back 61 = .ok (.aload_n 0, 1) := by decide +kernel
theorem dX10_back_62 : decode cX10_back 62 = .ok (.iconst 0, 1) := by decide +kernel
theorem dX10_back_63 : decode cX10_back 63 = .ok (.putfield 348, 3) := by decide +kernel
theorem dX10_back_66 : decode cX10_back 66 = .ok (.aload_n 0, 1) := by decide +kernel
theorem dX10_back_67 : decode cX10_back 67 = .ok (.invokevirtual 395, 3) := by decide +kernel
theorem dX10_back_70 : decode cX10_back 70 = .ok (.ireturn, 1) := by decide +kernel
theorem dX10_led_0 : decode cX10_led 0 = .ok (.aload_n 0, 1) := by decide +kernel
theorem dX10_led_1 : decode cX10_led 1 = .ok (.iconst 0, 1) := by decide +kernel
theorem dX10_led_2 : decode cX10_led 2 = .ok (.putfield 54, 3) := by decide +kernel
theorem dX10_led_5 : decode cX10_led 5 = .ok (.iconst 0, 1) := by decide +kernel
theorem dX10_led_6 : decode cX10_led 6 = .ok (.istore_n 2, 1) := by decide +kernel
theorem dX10_led_7 : decode cX10_led 7 = .ok (.iconst 0, 1) := by decide +kernel
theorem dX10_led_8 : decode cX10_led 8 = .ok (.istore_n 3, 1) := by decide +kernel
theorem dX10_led_9 : decode cX10_led 9 = .ok (.aload_n 0, 1) := by decide +kernel
theorem dX10_led_10 : decode cX10_led 10 = .ok (.getfield 346, 3) := by decide +kernel
theorem dX10_led_13 : decode cX10_led 13 = .ok (.ifnull 51, 3) := by decide +kernel
theorem dX10_led_16 : decode cX10_led 16 = .ok (.iload_n 3, 1) := by decide +kernel
theorem dX10_led_17 : decode cX10_led 17 = .ok (.aload_n 0, 1) := by decide +kernel
theorem dX10_led_18 : decode cX10_led 18 = .ok (.getfield 346, 3) := by decide +kernel
theorem dX10_led_21 : decode cX10_led 21 = .ok (.getfield 203, 3) := by decide +kernel
theorem dX10_led_24 : decode cX10_led 24 = .ok (.if_icmp .ge 40, 3) := by decide +kernel
theorem dX10_led_27 : decode cX10_led 27 = .ok (.aload_n 0, 1) := by decide +kernel
theorem dX10_led_28 : decode cX10_led 28 = .ok (.iconst 0, 1) := by decide +kernel
theorem dX10_led_29 : decode cX10_led 29 = .ok (.iload_n 3, 1) := by decide +kernel
theorem dX10_led_30 : decode cX10_led 30 = .ok (.invokevirtual 366, 3) := by decide +kernel
theorem dX10_led_33 : decode cX10_led 33 = .ok (.ifCond .ne 25, 3) := by decide +kernel
theorem dX10_led_36 : decode cX10_led 36 = .ok (.aload_n 0, 1) := by decide +kernel
theorem dX10_led_37 : decode cX10_led 37 = .ok (.iconst 1, 1) := by decide +kernel
theorem dX10_led_38 : decode cX10_led 38 = .ok (.iload_n 3, 1) := by decide +kernel
theorem dX10_led_39 : decode cX10_led 39 = .ok (.invokevirtual 366, 3) := by decide +kernel
theorem dX10_led_42 : decode cX10_led 42 = .ok (.ifCond .eq 6, 3) := by decide +kernel
theorem dX10_led_45 : decode cX10_led 45 = .ok (.goto 13, 3) := by decide +kernel
theorem dX10_led_48 : decode cX10_led 48 = .ok (.iload_n 2, 1) := by decide +kernel
theorem dX10_led_49 : decode cX10_led 49 = .ok (.iload_n 1, 1) := by decide +kernel
theorem dX10_led_50 : decode cX10_led 50 = .ok (.if_icmp .ne 5, 3) := by decide +kernel
theorem dX10_led_53 : decode cX10_led 53 = .ok (.iload_n 3, 1) := by decide +kernel
theorem dX10_led_54 : decode cX10_led 54 = .ok (.ireturn, 1) := by decide +kernel
theorem dX10_led_55 : decode cX10_led 55 = .ok (.iinc 2 1, 3) := by decide +kernel
theorem dX10_led_58 : decode cX10_led 58 = .ok (.iinc 3 1, 3) := by decide +kernel
theorem dX10_led_61 : decode cX10_led 61 = .ok (.goto (-52), 3) := by decide +kernel
theorem dX10_led_64 : decode cX10_led 64 = .ok (.aload_n 0, 1) := by decide +kernel
theorem dX10_led_65 : decode cX10_led 65 = .ok (.iconst 1, 1) := by decide +kernel
theorem dX10_led_66 : decode cX10_led 66 = .ok (.putfield 54, 3) := by decide +kernel
theorem dX10_led_69 : decode cX10_led 69 = .ok (.iconst 0, 1) := by decide +kernel
theorem dX10_led_70 : decode cX10_led 70 = .ok (.ireturn, 1) := by decide +kernel
theorem dX10_size_0 : decode cX10_size 0 = .ok (.aload_n 0, 1) := by decide +kernel
theorem dX10_size_1 : decode cX10_size 1 = .ok (.iconst 0, 1) := by decide +kernel
theorem dX10_size_2 : decode cX10_size 2 = .ok (.putfield 54, 3) := by decide +kernel
theorem dX10_size_5 : decode cX10_size 5 = .ok (.iload_n 1, 1) := by decide +kernel
theorem dX10_size_6 : decode cX10_size 6 = .ok (.bipush 12, 2) := by decide +kernel
theorem dX10_size_8 : decode cX10_size 8 = .ok (.if_icmp .ne 8, 3) := by decide +kernel
theorem dX10_size_11 : decode cX10_size 11 = .ok (.aload_n 0, 1) := by decide +kernel
theorem dX10_size_12 : decode cX10_size 12 = .ok (.getfield 339, 3) := by decide +kernel
theorem dX10_size_15 : decode cX10_size 15 = .ok (.ireturn, 1) := by decide +kernel
theorem dX10_size_16 : decode cX10_size 16 = .ok (.iload_n 1, 1) := by decide +kernel
theorem dX10_size_17 : decode cX10_size 17 = .ok (.iconst 0, 1) := by decide +kernel
theorem dX10_size_18 : decode cX10_size 18 = .ok (.bipush 11, 2) := by decide +kernel
theorem dX10_size_20 : decode cX10_size 20 = .ok (.invokestatic 134, 3) := by decide +kernel
theorem dX10_size_23 : decode cX10_size 23 = .ok (.ifCond .ne 5, 3) := by decide +kernel
theorem dX10_size_26 : decode cX10_size 26 = .ok (.iconst (-1), 1) := by decide +kernel
theorem dX10_size_27 : decode cX10_size 27 = .ok (.ireturn, 1) := by decide +kernel
theorem dX10_size_28 : decode cX10_size 28 = .ok (.aload_n 0, 1) := by decide +kernel
theorem dX10_size_29 : decode cX10_size 29 = .ok (.getfield 346, 3) := by decide +kernel
theorem dX10_size_32 : decode cX10_size 32 = .ok (.ifnonnull 5, 3) := by decide +kernel
theorem dX10_size_35 : decode cX10_size 35 = .ok (.iconst 0, 1) := by decide +kernel
theorem dX10_size_36 : decode cX10_size 36 = .ok (.ireturn, 1) := by decide +kernel
theorem dX10_size_37 : decode cX10_size 37 = .ok (.iload_n 1, 1) := by decide +kernel
theorem dX10_size_38 : decode cX10_size 38 = .ok (.tableswitch 147 0 10 #[58, 66, 74, 82, 90, 98, 106, 116, 126, 134, 142], 58) := by decide +kernel
theorem dX10_size_96 : decode cX10_size 96 = .ok (.aload_n 0, 1) := by decide +kernel
theorem dX10_size_97 : decode cX10_size 97 = .ok (.getfield 346, 3) := by decide +kernel
theorem dX10_size_100 : decode cX10_size 100 = .ok (.getfield 203, 3) := by decide +kernel
theorem dX10_size_103 : decode cX10_size 103 = .ok (.ireturn, 1) := by decide +kernel
theorem dX10_size_104 : decode cX10_size 104 = .ok (.aload_n 0, 1) := by decide +kernel
theorem dX10_size_105 : decode cX10_size 105 = .ok (.getfield 346, 3) := by decide +kernel
theorem dX10_size_108 : decode cX10_size 108 = .ok (.getfield 248, 3) := by decide +kernel
theorem dX10_size_111 : decode cX10_size 111 = .ok (.ireturn, 1) := by decide +kernel
theorem dX10_size_112 : decode cX10_size 112 = .ok (.aload_n 0, 1) := by decide +kernel
theorem dX10_size_113 : decode cX10_size 113 = .ok (.getfield 346, 3) := by decide +kernel
theorem dX10_size_116 : decode cX10_size 116 = .ok (.getfield 308, 3) := by decide +kernel
theorem dX10_size_119 : decode cX10_size 119 = .ok (.ireturn, 1) := by decide +kernel
theorem dX10_size_120 : decode cX10_size 120 = .ok (.aload_n 0, 1) := by decide +kernel
theorem dX10_size_121 : decode cX10_size 121 = .ok (.getfield 346, 3) := by decide +kernel
theorem dX10_size_124 : decode cX10_size 124 = .ok (.getfield 327, 3) := by decide +kernel
theorem dX10_size_127 : decode cX10_size 127 = .ok (.ireturn, 1) := by decide +kernel
theorem dX10_size_128 : decode cX10_size 128 = .ok (.aload_n 0, 1) := by decide +kernel
theorem dX10_size_129 : decode cX10_size 129 = .ok (.getfield 346, 3) := by decide +kernel
theorem dX10_size_132 : decode cX10_size 132 = .ok (.getfield 235, 3) := by decide +kernel
theorem dX10_size_135 : decode cX10_size 135 = .ok (.ireturn, 1) := by decide +kernel
theorem dX10_size_136 : decode cX10_size 136 = .ok (.aload_n 0, 1) := by decide +kernel
theorem dX10_size_137 : decode cX10_size 137 = .ok (.getfield 346, 3) := by decide +kernel
theorem dX10_size_140 : decode cX10_size 140 = .ok (.getfield 239, 3) := by decide +kernel
theorem dX10_size_143 : decode cX10_size 143 = .ok (.ireturn, 1) := by decide +kernel
theorem dX10_size_144 : decode cX10_size 144 = .ok (.aload_n 0, 1) := by decide +kernel
theorem dX10_size_145 : decode cX10_size 145 = .ok (.getfield 346, 3) := by decide +kernel
theorem dX10_size_148 : decode cX10_size 148 = .ok (.getfield 241, 3) := by decide +kernel
theorem dX10_size_151 : decode cX10_size 151 = .ok (.iconst 0, 1) := by decide +kernel
theorem dX10_size_152 : decode cX10_size 152 = .ok (.iaload, 1) := by decide +kernel
theorem dX10_size_153 : decode cX10_size 153 = .ok (.ireturn, 1) := by decide +kernel
theorem dX10_size_154 : decode cX10_size 154 = .ok (.aload_n 0, 1) := by decide +kernel
theorem dX10_size_155 : decode cX10_size 155 = .ok (.getfield 346, 3) := by decide +kernel
theorem dX10_size_158 : decode cX10_size 158 = .ok (.getfield 241, 3) := by decide +kernel
theorem dX10_size_161 : decode cX10_size 161 = .ok (.iconst 1, 1) := by decide +kernel
theorem dX10_size_162 : decode cX10_size 162 = .ok (.iaload, 1) := by decide +kernel
theorem dX10_size_163 : decode cX10_size 163 = .ok (.ireturn, 1) := by decide +kernel
theorem dX10_size_164 : decode cX10_size 164 = .ok (.aload_n 0, 1) := by decide +kernel
theorem dX10_size_165 : decode cX10_size 165 = .ok (.getfield 346, 3) := by decide +kernel
theorem dX10_size_168 : decode cX10_size 168 = .ok (.getfield 246, 3) := by decide +kernel
theorem dX10_size_171 : decode cX10_size 171 = .ok (.ireturn, 1) := by decide +kernel
theorem dX10_size_172 : decode cX10_size 172 = .ok (.aload_n 0, 1) := by decide +kernel
theorem dX10_size_173 : decode cX10_size 173 = .ok (.getfield 17, 3) := by decide +kernel
theorem dX10_size_176 : decode cX10_size 176 = .ok (.bipush 58, 2) := by decide +kernel
theorem dX10_size_178 : decode cX10_size 178 = .ok (.iaload, 1) := by decide +kernel
theorem dX10_size_179 : decode cX10_size 179 = .ok (.ireturn, 1) := by decide +kernel
theorem dX10_size_180 : decode cX10_size 180 = .ok (.aload_n 0, 1) := by decide +kernel
theorem dX10_size_181 : decode cX10_size 181 = .ok (.getfield 348, 3) := by decide +kernel
theorem dX10_size_184 : decode cX10_size 184 = .ok (.ireturn, 1) := by decide +kernel
theorem dX10_size_185 : decode cX10_size 185 = .ok (.aload_n 0, 1) := by decide +kernel
theorem dX10_size_186 : decode cX10_size 186 = .ok (.getfield 351, 3) := by decide +kernel
theorem dX10_size_189 : decode cX10_size 189 = .ok (.ireturn, 1) := by decide +kernel
theorem dX10_trouble_0 : decode cX10_trouble 0 = .ok (.aload_n 0, 1) := by decide +kernel
theorem dX10_trouble_1 : decode cX10_trouble 1 = .ok (.iconst 0, 1) := by decide +kernel
theorem dX10_trouble_2 : decode cX10_trouble 2 = .ok (.putfield 54, 3) := by decide +kernel
theorem dX10_trouble_5 : decode cX10_trouble 5 = .ok (.aload_n 0, 1) := by decide +kernel
theorem dX10_trouble_6 : decode cX10_trouble 6 = .ok (.getfield 57, 3) := by decide +kernel
theorem dX10_trouble_9 : decode cX10_trouble 9 = .ok (.ireturn, 1) := by decide +kernel
theorem dJ9_max_7cf53_0 : decode cJ9_max_7cf53 0 = .ok (.iload_n 0, 1) := by decide +kernel
theorem dJ9_max_7cf53_1 : decode cJ9_max_7cf53 1 = .ok (.iload_n 1, 1) := by decide +kernel
theorem dJ9_max_7cf53_2 : decode cJ9_max_7cf53 2 = .ok (.if_icmp .lt 7, 3) := by decide +kernel
theorem dJ9_max_7cf53_5 : decode cJ9_max_7cf53 5 = .ok (.iload_n 0, 1) := by decide +kernel
theorem dJ9_max_7cf53_6 : decode cJ9_max_7cf53 6 = .ok (.goto 4, 3) := by decide +kernel
theorem dJ9_max_7cf53_9 : decode cJ9_max_7cf53 9 = .ok (.iload_n 1, 1) := by decide +kernel
theorem dJ9_max_7cf53_10 : decode cJ9_max_7cf53 10 = .ok (.ireturn, 1) := by decide +kernel
theorem dJ9_min_7cf53_0 : decode cJ9_min_7cf53 0 = .ok (.iload_n 0, 1) := by decide +kernel
theorem dJ9_min_7cf53_1 : decode cJ9_min_7cf53 1 = .ok (.iload_n 1, 1) := by decide +kernel
theorem dJ9_min_7cf53_2 : decode cJ9_min_7cf53 2 = .ok (.if_icmp .gt 7, 3) := by decide +kernel
theorem dJ9_min_7cf53_5 : decode cJ9_min_7cf53 5 = .ok (.iload_n 0, 1) := by decide +kernel
theorem dJ9_min_7cf53_6 : decode cJ9_min_7cf53 6 = .ok (.goto 4, 3) := by decide +kernel
theorem dJ9_min_7cf53_9 : decode cJ9_min_7cf53 9 = .ok (.iload_n 1, 1) := by decide +kernel
theorem dJ9_min_7cf53_10 : decode cJ9_min_7cf53 10 = .ok (.ireturn, 1) := by decide +kernel
theorem dJ9_min_f86c9_0 : decode cJ9_min_f86c9 0 = .ok (.lload_n 0, 1) := by decide +kernel
theorem dJ9_min_f86c9_1 : decode cJ9_min_f86c9 1 = .ok (.lload_n 2, 1) := by decide +kernel
theorem dJ9_min_f86c9_2 : decode cJ9_min_f86c9 2 = .ok (.lcmp, 1) := by decide +kernel
theorem dJ9_min_f86c9_3 : decode cJ9_min_f86c9 3 = .ok (.ifCond .gt 7, 3) := by decide +kernel
theorem dJ9_min_f86c9_6 : decode cJ9_min_f86c9 6 = .ok (.lload_n 0, 1) := by decide +kernel
theorem dJ9_min_f86c9_7 : decode cJ9_min_f86c9 7 = .ok (.goto 4, 3) := by decide +kernel
theorem dJ9_min_f86c9_10 : decode cJ9_min_f86c9 10 = .ok (.lload_n 2, 1) := by decide +kernel
theorem dJ9_min_f86c9_11 : decode cJ9_min_f86c9 11 = .ok (.lreturn, 1) := by decide +kernel
theorem dJ0_length_8abf5_0 : decode cJ0_length_8abf5 0 = .ok (.aload_n 0, 1) := by decide +kernel
theorem dJ0_length_8abf5_1 : decode cJ0_length_8abf5 1 = .ok (.getfield 9, 3) := by decide +kernel
theorem dJ0_length_8abf5_4 : decode cJ0_length_8abf5 4 = .ok (.arraylength, 1) := by decide +kernel
theorem dJ0_length_8abf5_5 : decode cJ0_length_8abf5 5 = .ok (.aload_n 0, 1) := by decide +kernel
theorem dJ0_length_8abf5_6 : decode cJ0_length_8abf5 6 = .ok (.invokevirtual 335, 3) := by decide +kernel
theorem dJ0_length_8abf5_9 : decode cJ0_length_8abf5 9 = .ok (.ishr, 1) := by decide +kernel
theorem dJ0_length_8abf5_10 : decode cJ0_length_8abf5 10 = .ok (.ireturn, 1) := by decide +kernel
theorem dJ0_charAt_5068e_0 : decode cJ0_charAt_5068e 0 = .ok (.aload_n 0, 1) := by decide +kernel
theorem dJ0_charAt_5068e_1 : decode cJ0_charAt_5068e 1 = .ok (.invokevirtual 492, 3) := by decide +kernel
theorem dJ0_charAt_5068e_4 : decode cJ0_charAt_5068e 4 = .ok (.ifCond .eq 12, 3) := by decide +kernel
theorem dJ0_charAt_5068e_7 : decode cJ0_charAt_5068e 7 = .ok (.aload_n 0, 1) := by decide +kernel
theorem dJ0_charAt_5068e_8 : decode cJ0_charAt_5068e 8 = .ok (.getfield 9, 3) := by decide +kernel
theorem dJ0_charAt_5068e_11 : decode cJ0_charAt_5068e 11 = .ok (.iload_n 1, 1) := by decide +kernel
theorem dJ0_charAt_5068e_12 : decode cJ0_charAt_5068e 12 = .ok (.invokestatic 495, 3) := by decide +kernel
theorem dJ0_charAt_5068e_15 : decode cJ0_charAt_5068e 15 = .ok (.ireturn, 1) := by decide +kernel
theorem dJ0_charAt_5068e_16 : decode cJ0_charAt_5068e 16 = .ok (.aload_n 0, 1) := by decide +kernel
theorem dJ0_charAt_5068e_17 : decode cJ0_charAt_5068e 17 = .ok (.getfield 9, 3) := by decide +kernel
theorem dJ0_charAt_5068e_20 : decode cJ0_charAt_5068e 20 = .ok (.iload_n 1, 1) := by decide +kernel
theorem dJ0_charAt_5068e_21 : decode cJ0_charAt_5068e 21 = .ok (.invokestatic 498, 3) := by decide +kernel
theorem dJ0_charAt_5068e_24 : decode cJ0_charAt_5068e 24 = .ok (.ireturn, 1) := by decide +kernel
theorem dJ0_coder_7d493_0 : decode cJ0_coder_7d493 0 = .ok (.getstatic 38, 3) := by decide +kernel
theorem dJ0_coder_7d493_3 : decode cJ0_coder_7d493 3 = .ok (.ifCond .eq 10, 3) := by decide +kernel
theorem dJ0_coder_7d493_6 : decode cJ0_coder_7d493 6 = .ok (.aload_n 0, 1) := by decide +kernel
theorem dJ0_coder_7d493_7 : decode cJ0_coder_7d493 7 = .ok (.getfield 15, 3) := by decide +kernel
theorem dJ0_coder_7d493_10 : decode cJ0_coder_7d493 10 = .ok (.goto 4, 3) := by decide +kernel
theorem dJ0_coder_7d493_13 : decode cJ0_coder_7d493 13 = .ok (.iconst 1, 1) := by decide +kernel
theorem dJ0_coder_7d493_14 : decode cJ0_coder_7d493 14 = .ok (.ireturn, 1) := by decide +kernel
theorem dJ0_isLatin1_aae02_0 : decode cJ0_isLatin1_aae02 0 = .ok (.getstatic 38, 3) := by decide +kernel
theorem dJ0_isLatin1_aae02_3 : decode cJ0_isLatin1_aae02 3 = .ok (.ifCond .eq 14, 3) := by decide +kernel
theorem dJ0_isLatin1_aae02_6 : decode cJ0_isLatin1_aae02 6 = .ok (.aload_n 0, 1) := by decide +kernel
theorem dJ0_isLatin1_aae02_7 : decode cJ0_isLatin1_aae02 7 = .ok (.getfield 15, 3) := by decide +kernel
theorem dJ0_isLatin1_aae02_10 : decode cJ0_isLatin1_aae02 10 = .ok (.ifCond .ne 7, 3) := by decide +kernel
theorem dJ0_isLatin1_aae02_13 : decode cJ0_isLatin1_aae02 13 = .ok (.iconst 1, 1) := by decide +kernel
theorem dJ0_isLatin1_aae02_14 : decode cJ0_isLatin1_aae02 14 = .ok (.goto 4, 3) := by decide +kernel
theorem dJ0_isLatin1_aae02_17 : decode cJ0_isLatin1_aae02 17 = .ok (.iconst 0, 1) := by decide +kernel
theorem dJ0_isLatin1_aae02_18 : decode cJ0_isLatin1_aae02 18 = .ok (.ireturn, 1) := by decide +kernel
theorem dJ0_checkIndex_df160_0 : decode cJ0_checkIndex_df160 0 = .ok (.iload_n 0, 1) := by decide +kernel
theorem dJ0_checkIndex_df160_1 : decode cJ0_checkIndex_df160 1 = .ok (.iload_n 1, 1) := by decide +kernel
theorem dJ0_checkIndex_df160_2 : decode cJ0_checkIndex_df160 2 = .ok (.getstatic 1053, 3) := by decide +kernel
theorem dJ0_checkIndex_df160_5 : decode cJ0_checkIndex_df160 5 = .ok (.invokestatic 1059, 3) := by decide +kernel
theorem dJ0_checkIndex_df160_8 : decode cJ0_checkIndex_df160 8 = .ok (.pop, 1) := by decide +kernel
theorem dJ0_checkIndex_df160_9 : decode cJ0_checkIndex_df160 9 = .ok (.return_, 1) := by decide +kernel
theorem dJ1_charAt_3b067_0 : decode cJ1_charAt_3b067 0 = .ok (.iload_n 1, 1) := by decide +kernel
theorem dJ1_charAt_3b067_1 : decode cJ1_charAt_3b067 1 = .ok (.aload_n 0, 1) := by decide +kernel
theorem dJ1_charAt_3b067_2 : decode cJ1_charAt_3b067 2 = .ok (.arraylength, 1) := by decide +kernel
theorem dJ1_charAt_3b067_3 : decode cJ1_charAt_3b067 3 = .ok (.invokestatic 9, 3) := by decide +kernel
theorem dJ1_charAt_3b067_6 : decode cJ1_charAt_3b067 6 = .ok (.aload_n 0, 1) := by decide +kernel
theorem dJ1_charAt_3b067_7 : decode cJ1_charAt_3b067 7 = .ok (.iload_n 1, 1) := by decide +kernel
theorem dJ1_charAt_3b067_8 : decode cJ1_charAt_3b067 8 = .ok (.baload, 1) := by decide +kernel
theorem dJ1_charAt_3b067_9 : decode cJ1_charAt_3b067 9 = .ok (.sipush 255, 3) := by decide +kernel
theorem dJ1_charAt_3b067_12 : decode cJ1_charAt_3b067 12 = .ok (.iand, 1) := by decide +kernel
theorem dJ1_charAt_3b067_13 : decode cJ1_charAt_3b067 13 = .ok (.i2c, 1) := by decide +kernel
theorem dJ1_charAt_3b067_14 : decode cJ1_charAt_3b067 14 = .ok (.ireturn, 1) := by decide +kernel
theorem dJ2_getChar_3b067_0 : decode cJ2_getChar_3b067 0 = .ok (.getstatic 44, 3) := by decide +kernel
theorem dJ2_getChar_3b067_3 : decode cJ2_getChar_3b067 3 = .ok (.ifCond .ne 25, 3) := by decide +kernel
theorem dJ2_getChar_3b067_6 : decode cJ2_getChar_3b067 6 = .ok (.iload_n 1, 1) := by decide +kernel
theorem dJ2_getChar_3b067_7 : decode cJ2_getChar_3b067 7 = .ok (.ifCond .lt 11, 3) := by decide +kernel
theorem dJ2_getChar_3b067_10 : decode cJ2_getChar_3b067 10 = .ok (.iload_n 1, 1) := by decide +kernel
theorem dJ2_getChar_3b067_11 : decode cJ2_getChar_3b067 11 = .ok (.aload_n 0, 1) := by decide +kernel
theorem dJ2_getChar_3b067_12 : decode cJ2_getChar_3b067 12 = .ok (.invokestatic 48, 3) := by decide +kernel
theorem dJ2_getChar_3b067_15 : decode cJ2_getChar_3b067 15 = .ok (.if_icmp .lt 13, 3) := by decide +kernel
theorem dJ2_getChar_3b067_18 : decode cJ2_getChar_3b067 18 = .ok (.new 52, 3) := by decide +kernel
theorem dJ2_getChar_3b067_21 : decode cJ2_getChar_3b067 21 = .ok (.dup, 1) := by decide +kernel
theorem dJ2_getChar_3b067_22 : decode cJ2_getChar_3b067 22 = .ok (.ldc 54, 2) := by decide +kernel
theorem dJ2_getChar_3b067_24 : decode cJ2_getChar_3b067 24 = .ok (.invokespecial 56, 3) := by decide +kernel
theorem dJ2_getChar_3b067_27 : decode cJ2_getChar_3b067 27 = .ok (.athrow, 1) := by decide +kernel
theorem dJ2_getChar_3b067_28 : decode cJ2_getChar_3b067 28 = .ok (.iload_n 1, 1) := by decide +kernel
theorem dJ2_getChar_3b067_29 : decode cJ2_getChar_3b067 29 = .ok (.iconst 1, 1) := by decide +kernel
theorem dJ2_getChar_3b067_30 : decode cJ2_getChar_3b067 30 = .ok (.ishl, 1) := by decide +kernel
theorem dJ2_getChar_3b067_31 : decode cJ2_getChar_3b067 31 = .ok (.istore_n 1, 1) := by decide +kernel
theorem dJ2_getChar_3b067_32 : decode cJ2_getChar_3b067 32 = .ok (.aload_n 0, 1) := by decide +kernel
theorem dJ2_getChar_3b067_33 : decode cJ2_getChar_3b067 33 = .ok (.iload_n 1, 1) := by decide +kernel
theorem dJ2_getChar_3b067_34 : decode cJ2_getChar_3b067 34 = .ok (.iinc 1 1, 3) := by decide +kernel
theorem dJ2_getChar_3b067_37 : decode cJ2_getChar_3b067 37 = .ok (.baload, 1) := by decide +kernel
theorem dJ2_getChar_3b067_38 : decode cJ2_getChar_3b067 38 = .ok (.sipush 255, 3) := by decide +kernel
theorem dJ2_getChar_3b067_41 : decode cJ2_getChar_3b067 41 = .ok (.iand, 1) := by decide +kernel
theorem dJ2_getChar_3b067_42 : decode cJ2_getChar_3b067 42 = .ok (.getstatic 59, 3) := by decide +kernel
theorem dJ2_getChar_3b067_45 : decode cJ2_getChar_3b067 45 = .ok (.ishl, 1) := by decide +kernel
theorem dJ2_getChar_3b067_46 : decode cJ2_getChar_3b067 46 = .ok (.aload_n 0, 1) := by decide +kernel
theorem dJ2_getChar_3b067_47 : decode cJ2_getChar_3b067 47 = .ok (.iload_n 1, 1) := by decide +kernel
theorem dJ2_getChar_3b067_48 : decode cJ2_getChar_3b067 48 = .ok (.baload, 1) := by decide +kernel
theorem dJ2_getChar_3b067_49 : decode cJ2_getChar_3b067 49 = .ok (.sipush 255, 3) := by decide +kernel
theorem dJ2_getChar_3b067_52 : decode cJ2_getChar_3b067 52 = .ok (.iand, 1) := by decide +kernel
theorem dJ2_getChar_3b067_53 : decode cJ2_getChar_3b067 53 = .ok (.getstatic 63, 3) := by decide +kernel
theorem dJ2_getChar_3b067_56 : decode cJ2_getChar_3b067 56 = .ok (.ishl, 1) := by decide +kernel
theorem dJ2_getChar_3b067_57 : decode cJ2_getChar_3b067 57 = .ok (.ior, 1) := by decide +kernel
theorem dJ2_getChar_3b067_58 : decode cJ2_getChar_3b067 58 = .ok (.i2c, 1) := by decide +kernel
theorem dJ2_getChar_3b067_59 : decode cJ2_getChar_3b067 59 = .ok (.ireturn, 1) := by decide +kernel
theorem dJ2_length_9d52b_0 : decode cJ2_length_9d52b 0 = .ok (.aload_n 0, 1) := by decide +kernel
theorem dJ2_length_9d52b_1 : decode cJ2_length_9d52b 1 = .ok (.arraylength, 1) := by decide +kernel
theorem dJ2_length_9d52b_2 : decode cJ2_length_9d52b 2 = .ok (.iconst 1, 1) := by decide +kernel
theorem dJ2_length_9d52b_3 : decode cJ2_length_9d52b 3 = .ok (.ishr, 1) := by decide +kernel
theorem dJ2_length_9d52b_4 : decode cJ2_length_9d52b 4 = .ok (.ireturn, 1) := by decide +kernel
theorem dJ2_charAt_3b067_0 : decode cJ2_charAt_3b067 0 = .ok (.iload_n 1, 1) := by decide +kernel
theorem dJ2_charAt_3b067_1 : decode cJ2_charAt_3b067 1 = .ok (.aload_n 0, 1) := by decide +kernel
theorem dJ2_charAt_3b067_2 : decode cJ2_charAt_3b067 2 = .ok (.invokestatic 67, 3) := by decide +kernel
theorem dJ2_charAt_3b067_5 : decode cJ2_charAt_3b067 5 = .ok (.aload_n 0, 1) := by decide +kernel
theorem dJ2_charAt_3b067_6 : decode cJ2_charAt_3b067 6 = .ok (.iload_n 1, 1) := by decide +kernel
theorem dJ2_charAt_3b067_7 : decode cJ2_charAt_3b067 7 = .ok (.invokestatic 71, 3) := by decide +kernel
theorem dJ2_charAt_3b067_10 : decode cJ2_charAt_3b067 10 = .ok (.ireturn, 1) := by decide +kernel
theorem dJ2_checkIndex_2214a_0 : decode cJ2_checkIndex_2214a 0 = .ok (.iload_n 0, 1) := by decide +kernel
theorem dJ2_checkIndex_2214a_1 : decode cJ2_checkIndex_2214a 1 = .ok (.aload_n 1, 1) := by decide +kernel
theorem dJ2_checkIndex_2214a_2 : decode cJ2_checkIndex_2214a 2 = .ok (.invokestatic 48, 3) := by decide +kernel
theorem dJ2_checkIndex_2214a_5 : decode cJ2_checkIndex_2214a 5 = .ok (.invokestatic 414, 3) := by decide +kernel
theorem dJ2_checkIndex_2214a_8 : decode cJ2_checkIndex_2214a 8 = .ok (.return_, 1) := by decide +kernel
theorem dJ7_fill_d0a16_0 : decode cJ7_fill_d0a16 0 = .ok (.iconst 0, 1) := by decide +kernel
theorem dJ7_fill_d0a16_1 : decode cJ7_fill_d0a16 1 = .ok (.istore_n 3, 1) := by decide +kernel
theorem dJ7_fill_d0a16_2 : decode cJ7_fill_d0a16 2 = .ok (.aload_n 0, 1) := by decide +kernel
theorem dJ7_fill_d0a16_3 : decode cJ7_fill_d0a16 3 = .ok (.arraylength, 1) := by decide +kernel
theorem dJ7_fill_d0a16_4 : decode cJ7_fill_d0a16 4 = .ok (.istore 4, 2) := by decide +kernel
theorem dJ7_fill_d0a16_6 : decode cJ7_fill_d0a16 6 = .ok (.iload_n 3, 1) := by decide +kernel
theorem dJ7_fill_d0a16_7 : decode cJ7_fill_d0a16 7 = .ok (.iload 4, 2) := by decide +kernel
theorem dJ7_fill_d0a16_9 : decode cJ7_fill_d0a16 9 = .ok (.if_icmp .ge 13, 3) := by decide +kernel
theorem dJ7_fill_d0a16_12 : decode cJ7_fill_d0a16 12 = .ok (.aload_n 0, 1) := by decide +kernel
theorem dJ7_fill_d0a16_13 : decode cJ7_fill_d0a16 13 = .ok (.iload_n 3, 1) := by decide +kernel
theorem dJ7_fill_d0a16_14 : decode cJ7_fill_d0a16 14 = .ok (.lload_n 1, 1) := by decide +kernel
theorem dJ7_fill_d0a16_15 : decode cJ7_fill_d0a16 15 = .ok (.lastore, 1) := by decide +kernel
theorem dJ7_fill_d0a16_16 : decode cJ7_fill_d0a16 16 = .ok (.iinc 3 1, 3) := by decide +kernel
theorem dJ7_fill_d0a16_19 : decode cJ7_fill_d0a16 19 = .ok (.goto (-13), 3) := by decide +kernel
theorem dJ7_fill_d0a16_22 : decode cJ7_fill_d0a16 22 = .ok (.return_, 1) := by decide +kernel
theorem dJ7_fill_53178_0 : decode cJ7_fill_53178 0 = .ok (.iconst 0, 1) := by decide +kernel
theorem dJ7_fill_53178_1 : decode cJ7_fill_53178 1 = .ok (.istore_n 2, 1) := by decide +kernel
theorem dJ7_fill_53178_2 : decode cJ7_fill_53178 2 = .ok (.aload_n 0, 1) := by decide +kernel
theorem dJ7_fill_53178_3 : decode cJ7_fill_53178 3 = .ok (.arraylength, 1) := by decide +kernel
theorem dJ7_fill_53178_4 : decode cJ7_fill_53178 4 = .ok (.istore_n 3, 1) := by decide +kernel
theorem dJ7_fill_53178_5 : decode cJ7_fill_53178 5 = .ok (.iload_n 2, 1) := by decide +kernel
theorem dJ7_fill_53178_6 : decode cJ7_fill_53178 6 = .ok (.iload_n 3, 1) := by decide +kernel
theorem dJ7_fill_53178_7 : decode cJ7_fill_53178 7 = .ok (.if_icmp .ge 13, 3) := by decide +kernel
theorem dJ7_fill_53178_10 : decode cJ7_fill_53178 10 = .ok (.aload_n 0, 1) := by decide +kernel
theorem dJ7_fill_53178_11 : decode cJ7_fill_53178 11 = .ok (.iload_n 2, 1) := by decide +kernel
theorem dJ7_fill_53178_12 : decode cJ7_fill_53178 12 = .ok (.iload_n 1, 1) := by decide +kernel
theorem dJ7_fill_53178_13 : decode cJ7_fill_53178 13 = .ok (.iastore, 1) := by decide +kernel
theorem dJ7_fill_53178_14 : decode cJ7_fill_53178 14 = .ok (.iinc 2 1, 3) := by decide +kernel
theorem dJ7_fill_53178_17 : decode cJ7_fill_53178 17 = .ok (.goto (-12), 3) := by decide +kernel
theorem dJ7_fill_53178_20 : decode cJ7_fill_53178 20 = .ok (.return_, 1) := by decide +kernel
theorem dJ3_checkIndex_8e157_0 : decode cJ3_checkIndex_8e157 0 = .ok (.iload_n 0, 1) := by decide +kernel
theorem dJ3_checkIndex_8e157_1 : decode cJ3_checkIndex_8e157 1 = .ok (.ifCond .lt 8, 3) := by decide +kernel
theorem dJ3_checkIndex_8e157_4 : decode cJ3_checkIndex_8e157 4 = .ok (.iload_n 0, 1) := by decide +kernel
theorem dJ3_checkIndex_8e157_5 : decode cJ3_checkIndex_8e157 5 = .ok (.iload_n 1, 1) := by decide +kernel
theorem dJ3_checkIndex_8e157_6 : decode cJ3_checkIndex_8e157 6 = .ok (.if_icmp .lt 10, 3) := by decide +kernel
theorem dJ3_checkIndex_8e157_9 : decode cJ3_checkIndex_8e157 9 = .ok (.aload_n 2, 1) := by decide +kernel
theorem dJ3_checkIndex_8e157_10 : decode cJ3_checkIndex_8e157 10 = .ok (.iload_n 0, 1) := by decide +kernel
theorem dJ3_checkIndex_8e157_11 : decode cJ3_checkIndex_8e157 11 = .ok (.iload_n 1, 1) := by decide +kernel
theorem dJ3_checkIndex_8e157_12 : decode cJ3_checkIndex_8e157 12 = .ok (.invokestatic 95, 3) := by decide +kernel
theorem dJ3_checkIndex_8e157_15 : decode cJ3_checkIndex_8e157 15 = .ok (.athrow, 1) := by decide +kernel
theorem dJ3_checkIndex_8e157_16 : decode cJ3_checkIndex_8e157 16 = .ok (.iload_n 0, 1) := by decide +kernel
theorem dJ3_checkIndex_8e157_17 : decode cJ3_checkIndex_8e157 17 = .ok (.ireturn, 1) := by decide +kernel
theorem dL_led_0 : decode cL_led 0 = .ok (.aload_n 2, 1) := by decide +kernel
theorem dL_led_1 : decode cL_led 1 = .ok (.iconst 0, 1) := by decide +kernel
theorem dL_led_2 : decode cL_led 2 = .ok (.aload_n 0, 1) := by decide +kernel
theorem dL_led_3 : decode cL_led 3 = .ok (.iload_n 1, 1) := by decide +kernel
theorem dL_led_4 : decode cL_led 4 = .ok (.invokevirtual 7, 3) := by decide +kernel
theorem dL_led_7 : decode cL_led 7 = .ok (.i2l, 1) := by decide +kernel
theorem dL_led_8 : decode cL_led 8 = .ok (.lastore, 1) := by decide +kernel
theorem dL_led_9 : decode cL_led 9 = .ok (.goto 6, 3) := by decide +kernel
theorem dL_led_12 : decode cL_led 12 = .ok (.astore_n 3, 1) := by decide +kernel
theorem dL_led_13 : decode cL_led 13 = .ok (.iconst 1, 1) := by decide +kernel
theorem dL_led_14 : decode cL_led 14 = .ok (.ireturn, 1) := by decide +kernel
theorem dL_led_15 : decode cL_led 15 = .ok (.iconst 0, 1) := by decide +kernel
theorem dL_led_16 : decode cL_led 16 = .ok (.ireturn, 1) := by decide +kernel
theorem dL_law_0 : decode cL_law 0 = .ok (.new 8, 3) := by decide +kernel
theorem dL_law_3 : decode cL_law 3 = .ok (.dup, 1) := by decide +kernel
theorem dL_law_4 : decode cL_law 4 = .ok (.invokespecial 15, 3) := by decide +kernel
theorem dL_law_7 : decode cL_law 7 = .ok (.astore_n 1, 1) := by decide +kernel
theorem dL_law_8 : decode cL_law 8 = .ok (.new 16, 3) := by decide +kernel
theorem dL_law_11 : decode cL_law 11 = .ok (.dup, 1) := by decide +kernel
theorem dL_law_12 : decode cL_law 12 = .ok (.invokespecial 18, 3) := by decide +kernel
theorem dL_law_15 : decode cL_law 15 = .ok (.astore_n 2, 1) := by decide +kernel
theorem dL_law_16 : decode cL_law 16 = .ok (.iconst 1, 1) := by decide +kernel
theorem dL_law_17 : decode cL_law 17 = .ok (.newarray .long, 2) := by decide +kernel
theorem dL_law_19 : decode cL_law 19 = .ok (.astore_n 3, 1) := by decide +kernel
theorem dL_law_20 : decode cL_law 20 = .ok (.iconst 0, 1) := by decide +kernel
theorem dL_law_21 : decode cL_law 21 = .ok (.istore 4, 2) := by decide +kernel
theorem dL_law_23 : decode cL_law 23 = .ok (.iload 4, 2) := by decide +kernel
theorem dL_law_25 : decode cL_law 25 = .ok (.aload_n 0, 1) := by decide +kernel
theorem dL_law_26 : decode cL_law 26 = .ok (.arraylength, 1) := by decide +kernel
theorem dL_law_27 : decode cL_law 27 = .ok (.bipush 6, 2) := by decide +kernel
theorem dL_law_29 : decode cL_law 29 = .ok (.isub, 1) := by decide +kernel
theorem dL_law_30 : decode cL_law 30 = .ok (.if_icmp .gt 1233, 3) := by decide +kernel
theorem dL_law_33 : decode cL_law 33 = .ok (.aload_n 0, 1) := by decide +kernel
theorem dL_law_34 : decode cL_law 34 = .ok (.iload 4, 2) := by decide +kernel
theorem dL_law_36 : decode cL_law 36 = .ok (.iaload, 1) := by decide +kernel
theorem dL_law_37 : decode cL_law 37 = .ok (.bipush 63, 2) := by decide +kernel
theorem dL_law_39 : decode cL_law 39 = .ok (.iand, 1) := by decide +kernel
theorem dL_law_40 : decode cL_law 40 = .ok (.tableswitch 1217 0 38 #[172, 245, 270, 283, 296, 333, 370, 407, 432, 457, 494, 543, 556, 581, 618, 643, 668, 681, 694, 719, 744, 781, 806, 820, 857, 882, 895, 920, 933, 946, 959, 996, 1033, 1047, 1085, 1098, 1123, 1179, 1204], 172) := by decide +kernel
theorem dL_law_212 : decode cL_law 212 = .ok (.aload_n 1, 1) := by decide +kernel
theorem dL_law_213 : decode cL_law 213 = .ok (.aload_n 0, 1) := by decide +kernel
theorem dL_law_214 : decode cL_law 214 = .ok (.iload 4, 2) := by decide +kernel
theorem dL_law_216 : decode cL_law 216 = .ok (.iconst 1, 1) := by decide +kernel
theorem dL_law_217 : decode cL_law 217 = .ok (.iadd, 1) := by decide +kernel
theorem dL_law_218 : decode cL_law 218 = .ok (.iaload, 1) := by decide +kernel
theorem dL_law_219 : decode cL_law 219 = .ok (.aload_n 0, 1) := by decide +kernel
theorem dL_law_220 : decode cL_law 220 = .ok (.iload 4, 2) := by decide +kernel
theorem dL_law_222 : decode cL_law 222 = .ok (.iconst 2, 1) := by decide +kernel
theorem dL_law_223 : decode cL_law 223 = .ok (.iadd, 1) := by decide +kernel
theorem dL_law_224 : decode cL_law 224 = .ok (.iaload, 1) := by decide +kernel
theorem dL_law_225 : decode cL_law 225 = .ok (.aload_n 0, 1) := by decide +kernel
theorem dL_law_226 : decode cL_law 226 = .ok (.iload 4, 2) := by decide +kernel
theorem dL_law_228 : decode cL_law 228 = .ok (.iconst 3, 1) := by decide +kernel
theorem dL_law_229 : decode cL_law 229 = .ok (.iadd, 1) := by decide +kernel
theorem dL_law_230 : decode cL_law 230 = .ok (.iaload, 1) := by decide +kernel
theorem dL_law_231 : decode cL_law 231 = .ok (.aload_n 0, 1) := by decide +kernel
theorem dL_law_232 : decode cL_law 232 = .ok (.iload 4, 2) := by decide +kernel
theorem dL_law_234 : decode cL_law 234 = .ok (.iconst 4, 1) := by decide +kernel
theorem dL_law_235 : decode cL_law 235 = .ok (.iadd, 1) := by decide +kernel
theorem dL_law_236 : decode cL_law 236 = .ok (.iaload, 1) := by decide +kernel
theorem dL_law_237 : decode cL_law 237 = .ok (.aload_n 0, 1) := by decide +kernel
theorem dL_law_238 : decode cL_law 238 = .ok (.iload 4, 2) := by decide +kernel
theorem dL_law_240 : decode cL_law 240 = .ok (.iconst 5, 1) := by decide +kernel
theorem dL_law_241 : decode cL_law 241 = .ok (.iadd, 1) := by decide +kernel
theorem dL_law_242 : decode cL_law 242 = .ok (.iaload, 1) := by decide +kernel
theorem dL_law_243 : decode cL_law 243 = .ok (.invokevirtual 19, 3) := by decide +kernel
theorem dL_law_246 : decode cL_law 246 = .ok (.aload_n 2, 1) := by decide +kernel
theorem dL_law_247 : decode cL_law 247 = .ok (.aload_n 0, 1) := by decide +kernel
theorem dL_law_248 : decode cL_law 248 = .ok (.iload 4, 2) := by decide +kernel
theorem dL_law_250 : decode cL_law 250 = .ok (.iconst 1, 1) := by decide +kernel
theorem dL_law_251 : decode cL_law 251 = .ok (.iadd, 1) := by decide +kernel
theorem dL_law_252 : decode cL_law 252 = .ok (.iaload, 1) := by decide +kernel
theorem dL_law_253 : decode cL_law 253 = .ok (.aload_n 0, 1) := by decide +kernel
theorem dL_law_254 : decode cL_law 254 = .ok (.iload 4, 2) := by decide +kernel
theorem dL_law_256 : decode cL_law 256 = .ok (.iconst 2, 1) := by decide +kernel
theorem dL_law_257 : decode cL_law 257 = .ok (.iadd, 1) := by decide +kernel
theorem dL_law_258 : decode cL_law 258 = .ok (.iaload, 1) := by decide +kernel
theorem dL_law_259 : decode cL_law 259 = .ok (.aload_n 0, 1) := by decide +kernel
theorem dL_law_260 : decode cL_law 260 = .ok (.iload 4, 2) := by decide +kernel
theorem dL_law_262 : decode cL_law 262 = .ok (.iconst 3, 1) := by decide +kernel
theorem dL_law_263 : decode cL_law 263 = .ok (.iadd, 1) := by decide +kernel
theorem dL_law_264 : decode cL_law 264 = .ok (.iaload, 1) := by decide +kernel
theorem dL_law_265 : decode cL_law 265 = .ok (.aload_n 0, 1) := by decide +kernel
theorem dL_law_266 : decode cL_law 266 = .ok (.iload 4, 2) := by decide +kernel
theorem dL_law_268 : decode cL_law 268 = .ok (.iconst 4, 1) := by decide +kernel
theorem dL_law_269 : decode cL_law 269 = .ok (.iadd, 1) := by decide +kernel
theorem dL_law_270 : decode cL_law 270 = .ok (.iaload, 1) := by decide +kernel
theorem dL_law_271 : decode cL_law 271 = .ok (.aload_n 0, 1) := by decide +kernel
theorem dL_law_272 : decode cL_law 272 = .ok (.iload 4, 2) := by decide +kernel
theorem dL_law_274 : decode cL_law 274 = .ok (.iconst 5, 1) := by decide +kernel
theorem dL_law_275 : decode cL_law 275 = .ok (.iadd, 1) := by decide +kernel
theorem dL_law_276 : decode cL_law 276 = .ok (.iaload, 1) := by decide +kernel
theorem dL_law_277 : decode cL_law 277 = .ok (.invokevirtual 23, 3) := by decide +kernel
theorem dL_law_280 : decode cL_law 280 = .ok (.if_icmp .eq 977, 3) := by decide +kernel
theorem dL_law_283 : decode cL_law 283 = .ok (.iconst 0, 1) := by decide +kernel
theorem dL_law_284 : decode cL_law 284 = .ok (.ireturn, 1) := by decide +kernel
theorem dL_law_285 : decode cL_law 285 = .ok (.aload_n 1, 1) := by decide +kernel
theorem dL_law_286 : decode cL_law 286 = .ok (.aload_n 0, 1) := by decide +kernel
theorem dL_law_287 : decode cL_law 287 = .ok (.iload 4, 2) := by decide +kernel
theorem dL_law_289 : decode cL_law 289 = .ok (.iconst 1, 1) := by decide +kernel
theorem dL_law_290 : decode cL_law 290 = .ok (.iadd, 1) := by decide +kernel
theorem dL_law_291 : decode cL_law 291 = .ok (.iaload, 1) := by decide +kernel
theorem dL_law_292 : decode cL_law 292 = .ok (.invokevirtual 24, 3) := by decide +kernel
theorem dL_law_295 : decode cL_law 295 = .ok (.aload_n 2, 1) := by decide +kernel
theorem dL_law_296 : decode cL_law 296 = .ok (.aload_n 0, 1) := by decide +kernel
theorem dL_law_297 : decode cL_law 297 = .ok (.iload 4, 2) := by decide +kernel
theorem dL_law_299 : decode cL_law 299 = .ok (.iconst 1, 1) := by decide +kernel
theorem dL_law_300 : decode cL_law 300 = .ok (.iadd, 1) := by decide +kernel
theorem dL_law_301 : decode cL_law 301 = .ok (.iaload, 1) := by decide +kernel
theorem dL_law_302 : decode cL_law 302 = .ok (.invokevirtual 27, 3) := by decide +kernel
theorem dL_law_305 : decode cL_law 305 = .ok (.if_icmp .eq 952, 3) := by decide +kernel
theorem dL_law_308 : decode cL_law 308 = .ok (.iconst 0, 1) := by decide +kernel
theorem dL_law_309 : decode cL_law 309 = .ok (.ireturn, 1) := by decide +kernel
theorem dL_law_310 : decode cL_law 310 = .ok (.aload_n 1, 1) := by decide +kernel
theorem dL_law_311 : decode cL_law 311 = .ok (.invokevirtual 28, 3) := by decide +kernel
theorem dL_law_314 : decode cL_law 314 = .ok (.aload_n 2, 1) := by decide +kernel
theorem dL_law_315 : decode cL_law 315 = .ok (.invokevirtual 32, 3) := by decide +kernel
theorem dL_law_318 : decode cL_law 318 = .ok (.if_icmp .eq 939, 3) := by decide +kernel
theorem dL_law_321 : decode cL_law 321 = .ok (.iconst 0, 1) := by decide +kernel
theorem dL_law_322 : decode cL_law 322 = .ok (.ireturn, 1) := by decide +kernel
theorem dL_law_323 : decode cL_law 323 = .ok (.aload_n 1, 1) := by decide +kernel
theorem dL_law_324 : decode cL_law 324 = .ok (.invokevirtual 33, 3) := by decide +kernel
theorem dL_law_327 : decode cL_law 327 = .ok (.aload_n 2, 1) := by decide +kernel
theorem dL_law_328 : decode cL_law 328 = .ok (.invokevirtual 36, 3) := by decide +kernel
theorem dL_law_331 : decode cL_law 331 = .ok (.if_icmp .eq 926, 3) := by decide +kernel
theorem dL_law_334 : decode cL_law 334 = .ok (.iconst 0, 1) := by decide +kernel
theorem dL_law_335 : decode cL_law 335 = .ok (.ireturn, 1) := by decide +kernel
theorem dL_law_336 : decode cL_law 336 = .ok (.aload_n 1, 1) := by decide +kernel
theorem dL_law_337 : decode cL_law 337 = .ok (.aload_n 0, 1) := by decide +kernel
theorem dL_law_338 : decode cL_law 338 = .ok (.iload 4, 2) := by decide +kernel
theorem dL_law_340 : decode cL_law 340 = .ok (.iconst 1, 1) := by decide +kernel
theorem dL_law_341 : decode cL_law 341 = .ok (.iadd, 1) := by decide +kernel
theorem dL_law_342 : decode cL_law 342 = .ok (.iaload, 1) := by decide +kernel
theorem dL_law_343 : decode cL_law 343 = .ok (.aload_n 0, 1) := by decide +kernel
theorem dL_law_344 : decode cL_law 344 = .ok (.iload 4, 2) := by decide +kernel
theorem dL_law_346 : decode cL_law 346 = .ok (.iconst 2, 1) := by decide +kernel
theorem dL_law_347 : decode cL_law 347 = .ok (.iadd, 1) := by decide +kernel
theorem dL_law_348 : decode cL_law 348 = .ok (.iaload, 1) := by decide +kernel
theorem dL_law_349 : decode cL_law 349 = .ok (.invokevirtual 37, 3) := by decide +kernel
theorem dL_law_352 : decode cL_law 352 = .ok (.aload_n 2, 1) := by decide +kernel
theorem dL_law_353 : decode cL_law 353 = .ok (.aload_n 0, 1) := by decide +kernel
theorem dL_law_354 : decode cL_law 354 = .ok (.iload 4, 2) := by decide +kernel
theorem dL_law_356 : decode cL_law 356 = .ok (.iconst 1, 1) := by decide +kernel
theorem dL_law_357 : decode cL_law 357 = .ok (.iadd, 1) := by decide +kernel
theorem dL_law_358 : decode cL_law 358 = .ok (.iaload, 1) := by decide +kernel
theorem dL_law_359 : decode cL_law 359 = .ok (.aload_n 0, 1) := by decide +kernel
theorem dL_law_360 : decode cL_law 360 = .ok (.iload 4, 2) := by decide +kernel
theorem dL_law_362 : decode cL_law 362 = .ok (.iconst 2, 1) := by decide +kernel
theorem dL_law_363 : decode cL_law 363 = .ok (.iadd, 1) := by decide +kernel
theorem dL_law_364 : decode cL_law 364 = .ok (.iaload, 1) := by decide +kernel
theorem dL_law_365 : decode cL_law 365 = .ok (.invokevirtual 41, 3) := by decide +kernel
theorem dL_law_368 : decode cL_law 368 = .ok (.if_icmp .eq 889, 3) := by decide +kernel
theorem dL_law_371 : decode cL_law 371 = .ok (.iconst 0, 1) := by decide +kernel
theorem dL_law_372 : decode cL_law 372 = .ok (.ireturn, 1) := by decide +kernel
theorem dL_law_373 : decode cL_law 373 = .ok (.aload_n 1, 1) := by decide +kernel
theorem dL_law_374 : decode cL_law 374 = .ok (.aload_n 0, 1) := by decide +kernel
theorem dL_law_375 : decode cL_law 375 = .ok (.iload 4, 2) := by decide +kernel
theorem dL_law_377 : decode cL_law 377 = .ok (.iconst 1, 1) := by decide +kernel
theorem dL_law_378 : decode cL_law 378 = .ok (.iadd, 1) := by decide +kernel
theorem dL_law_379 : decode cL_law 379 = .ok (.iaload, 1) := by decide +kernel
theorem dL_law_380 : decode cL_law 380 = .ok (.aload_n 0, 1) := by decide +kernel
theorem dL_law_381 : decode cL_law 381 = .ok (.iload 4, 2) := by decide +kernel
theorem dL_law_383 : decode cL_law 383 = .ok (.iconst 2, 1) := by decide +kernel
theorem dL_law_384 : decode cL_law 384 = .ok (.iadd, 1) := by decide +kernel
theorem dL_law_385 : decode cL_law 385 = .ok (.iaload, 1) := by decide +kernel
theorem dL_law_386 : decode cL_law 386 = .ok (.invokevirtual 42, 3) := by decide +kernel
theorem dL_law_389 : decode cL_law 389 = .ok (.aload_n 2, 1) := by decide +kernel
theorem dL_law_390 : decode cL_law 390 = .ok (.aload_n 0, 1) := by decide +kernel
theorem dL_law_391 : decode cL_law 391 = .ok (.iload 4, 2) := by decide +kernel
theorem dL_law_393 : decode cL_law 393 = .ok (.iconst 1, 1) := by decide +kernel
theorem dL_law_394 : decode cL_law 394 = .ok (.iadd, 1) := by decide +kernel
theorem dL_law_395 : decode cL_law 395 = .ok (.iaload, 1) := by decide +kernel
theorem dL_law_396 : decode cL_law 396 = .ok (.aload_n 0, 1) := by decide +kernel
theorem dL_law_397 : decode cL_law 397 = .ok (.iload 4, 2) := by decide +kernel
theorem dL_law_399 : decode cL_law 399 = .ok (.iconst 2, 1) := by decide +kernel
theorem dL_law_400 : decode cL_law 400 = .ok (.iadd, 1) := by decide +kernel
theorem dL_law_401 : decode cL_law 401 = .ok (.iaload, 1) := by decide +kernel
theorem dL_law_402 : decode cL_law 402 = .ok (.invokevirtual 45, 3) := by decide +kernel
theorem dL_law_405 : decode cL_law 405 = .ok (.if_icmp .eq 852, 3) := by decide +kernel
theorem dL_law_408 : decode cL_law 408 = .ok (.iconst 0, 1) := by decide +kernel
theorem dL_law_409 : decode cL_law 409 = .ok (.ireturn, 1) := by decide +kernel
theorem dL_law_410 : decode cL_law 410 = .ok (.aload_n 1, 1) := by decide +kernel
theorem dL_law_411 : decode cL_law 411 = .ok (.aload_n 0, 1) := by decide +kernel
theorem dL_law_412 : decode cL_law 412 = .ok (.iload 4, 2) := by decide +kernel
theorem dL_law_414 : decode cL_law 414 = .ok (.iconst 1, 1) := by decide +kernel
theorem dL_law_415 : decode cL_law 415 = .ok (.iadd, 1) := by decide +kernel
theorem dL_law_416 : decode cL_law 416 = .ok (.iaload, 1) := by decide +kernel
theorem dL_law_417 : decode cL_law 417 = .ok (.aload_n 0, 1) := by decide +kernel
theorem dL_law_418 : decode cL_law 418 = .ok (.iload 4, 2) := by decide +kernel
theorem dL_law_420 : decode cL_law 420 = .ok (.iconst 2, 1) := by decide +kernel
theorem dL_law_421 : decode cL_law 421 = .ok (.iadd, 1) := by decide +kernel
theorem dL_law_422 : decode cL_law 422 = .ok (.iaload, 1) := by decide +kernel
theorem dL_law_423 : decode cL_law 423 = .ok (.invokevirtual 46, 3) := by decide +kernel
theorem dL_law_426 : decode cL_law 426 = .ok (.aload_n 2, 1) := by decide +kernel
theorem dL_law_427 : decode cL_law 427 = .ok (.aload_n 0, 1) := by decide +kernel
theorem dL_law_428 : decode cL_law 428 = .ok (.iload 4, 2) := by decide +kernel
theorem dL_law_430 : decode cL_law 430 = .ok (.iconst 1, 1) := by decide +kernel
theorem dL_law_431 : decode cL_law 431 = .ok (.iadd, 1) := by decide +kernel
theorem dL_law_432 : decode cL_law 432 = .ok (.iaload, 1) := by decide +kernel
theorem dL_law_433 : decode cL_law 433 = .ok (.aload_n 0, 1) := by decide +kernel
theorem dL_law_434 : decode cL_law 434 = .ok (.iload 4, 2) := by decide +kernel
theorem dL_law_436 : decode cL_law 436 = .ok (.iconst 2, 1) := by decide +kernel
theorem dL_law_437 : decode cL_law 437 = .ok (.iadd, 1) := by decide +kernel
theorem dL_law_438 : decode cL_law 438 = .ok (.iaload, 1) := by decide +kernel
theorem dL_law_439 : decode cL_law 439 = .ok (.invokevirtual 49, 3) := by decide +kernel
theorem dL_law_442 : decode cL_law 442 = .ok (.if_icmp .eq 815, 3) := by decide +kernel
theorem dL_law_445 : decode cL_law 445 = .ok (.iconst 0, 1) := by decide +kernel
theorem dL_law_446 : decode cL_law 446 = .ok (.ireturn, 1) := by decide +kernel
theorem dL_law_447 : decode cL_law 447 = .ok (.aload_n 1, 1) := by decide +kernel
theorem dL_law_448 : decode cL_law 448 = .ok (.aload_n 0, 1) := by decide +kernel
theorem dL_law_449 : decode cL_law 449 = .ok (.iload 4, 2) := by decide +kernel
theorem dL_law_451 : decode cL_law 451 = .ok (.iconst 1, 1) := by decide +kernel
theorem dL_law_452 : decode cL_law 452 = .ok (.iadd, 1) := by decide +kernel
theorem dL_law_453 : decode cL_law 453 = .ok (.iaload, 1) := by decide +kernel
theorem dL_law_454 : decode cL_law 454 = .ok (.invokevirtual 50, 3) := by decide +kernel
theorem dL_law_457 : decode cL_law 457 = .ok (.aload_n 2, 1) := by decide +kernel
theorem dL_law_458 : decode cL_law 458 = .ok (.aload_n 0, 1) := by decide +kernel
theorem dL_law_459 : decode cL_law 459 = .ok (.iload 4, 2) := by decide +kernel
theorem dL_law_461 : decode cL_law 461 = .ok (.iconst 1, 1) := by decide +kernel
theorem dL_law_462 : decode cL_law 462 = .ok (.iadd, 1) := by decide +kernel
theorem dL_law_463 : decode cL_law 463 = .ok (.iaload, 1) := by decide +kernel
theorem dL_law_464 : decode cL_law 464 = .ok (.invokevirtual 53, 3) := by decide +kernel
theorem dL_law_467 : decode cL_law 467 = .ok (.if_icmp .eq 790, 3) := by decide +kernel
theorem dL_law_470 : decode cL_law 470 = .ok (.iconst 0, 1) := by decide +kernel
theorem dL_law_471 : decode cL_law 471 = .ok (.ireturn, 1) := by decide +kernel
theorem dL_law_472 : decode cL_law 472 = .ok (.aload_n 1, 1) := by decide +kernel
theorem dL_law_473 : decode cL_law 473 = .ok (.aload_n 0, 1) := by decide +kernel
theorem dL_law_474 : decode cL_law 474 = .ok (.iload 4, 2) := by decide +kernel
theorem dL_law_476 : decode cL_law 476 = .ok (.iconst 1, 1) := by decide +kernel
theorem dL_law_477 : decode cL_law 477 = .ok (.iadd, 1) := by decide +kernel
theorem dL_law_478 : decode cL_law 478 = .ok (.iaload, 1) := by decide +kernel
theorem dL_law_479 : decode cL_law 479 = .ok (.invokevirtual 54, 3) := by decide +kernel
theorem dL_law_482 : decode cL_law 482 = .ok (.aload_n 2, 1) := by decide +kernel
theorem dL_law_483 : decode cL_law 483 = .ok (.aload_n 0, 1) := by decide +kernel
theorem dL_law_484 : decode cL_law 484 = .ok (.iload 4, 2) := by decide +kernel
theorem dL_law_486 : decode cL_law 486 = .ok (.iconst 1, 1) := by decide +kernel
theorem dL_law_487 : decode cL_law 487 = .ok (.iadd, 1) := by decide +kernel
theorem dL_law_488 : decode cL_law 488 = .ok (.iaload, 1) := by decide +kernel
theorem dL_law_489 : decode cL_law 489 = .ok (.invokevirtual 57, 3) := by decide +kernel
theorem dL_law_492 : decode cL_law 492 = .ok (.if_icmp .eq 765, 3) := by decide +kernel
theorem dL_law_495 : decode cL_law 495 = .ok (.iconst 0, 1) := by decide +kernel
theorem dL_law_496 : decode cL_law 496 = .ok (.ireturn, 1) := by decide +kernel
theorem dL_law_497 : decode cL_law 497 = .ok (.aload_n 1, 1) := by decide +kernel
theorem dL_law_498 : decode cL_law 498 = .ok (.aload_n 0, 1) := by decide +kernel
theorem dL_law_499 : decode cL_law 499 = .ok (.iload 4, 2) := by decide +kernel
theorem dL_law_501 : decode cL_law 501 = .ok (.iconst 1, 1) := by decide +kernel
theorem dL_law_502 : decode cL_law 502 = .ok (.iadd, 1) := by decide +kernel
theorem dL_law_503 : decode cL_law 503 = .ok (.iaload, 1) := by decide +kernel
theorem dL_law_504 : decode cL_law 504 = .ok (.aload_n 0, 1) := by decide +kernel
theorem dL_law_505 : decode cL_law 505 = .ok (.iload 4, 2) := by decide +kernel
theorem dL_law_507 : decode cL_law 507 = .ok (.iconst 2, 1) := by decide +kernel
theorem dL_law_508 : decode cL_law 508 = .ok (.iadd, 1) := by decide +kernel
theorem dL_law_509 : decode cL_law 509 = .ok (.iaload, 1) := by decide +kernel
theorem dL_law_510 : decode cL_law 510 = .ok (.invokevirtual 58, 3) := by decide +kernel
theorem dL_law_513 : decode cL_law 513 = .ok (.aload_n 2, 1) := by decide +kernel
theorem dL_law_514 : decode cL_law 514 = .ok (.aload_n 0, 1) := by decide +kernel
theorem dL_law_515 : decode cL_law 515 = .ok (.iload 4, 2) := by decide +kernel
theorem dL_law_517 : decode cL_law 517 = .ok (.iconst 1, 1) := by decide +kernel
theorem dL_law_518 : decode cL_law 518 = .ok (.iadd, 1) := by decide +kernel
theorem dL_law_519 : decode cL_law 519 = .ok (.iaload, 1) := by decide +kernel
theorem dL_law_520 : decode cL_law 520 = .ok (.aload_n 0, 1) := by decide +kernel
theorem dL_law_521 : decode cL_law 521 = .ok (.iload 4, 2) := by decide +kernel
theorem dL_law_523 : decode cL_law 523 = .ok (.iconst 2, 1) := by decide +kernel
theorem dL_law_524 : decode cL_law 524 = .ok (.iadd, 1) := by decide +kernel
theorem dL_law_525 : decode cL_law 525 = .ok (.iaload, 1) := by decide +kernel
theorem dL_law_526 : decode cL_law 526 = .ok (.invokevirtual 61, 3) := by decide +kernel
theorem dL_law_529 : decode cL_law 529 = .ok (.if_icmp .eq 728, 3) := by decide +kernel
theorem dL_law_532 : decode cL_law 532 = .ok (.iconst 0, 1) := by decide +kernel
theorem dL_law_533 : decode cL_law 533 = .ok (.ireturn, 1) := by decide +kernel
theorem dL_law_534 : decode cL_law 534 = .ok (.aload_n 1, 1) := by decide +kernel
theorem dL_law_535 : decode cL_law 535 = .ok (.aload_n 0, 1) := by decide +kernel
theorem dL_law_536 : decode cL_law 536 = .ok (.iload 4, 2) := by decide +kernel
theorem dL_law_538 : decode cL_law 538 = .ok (.iconst 1, 1) := by decide +kernel
theorem dL_law_539 : decode cL_law 539 = .ok (.iadd, 1) := by decide +kernel
theorem dL_law_540 : decode cL_law 540 = .ok (.iaload, 1) := by decide +kernel
theorem dL_law_541 : decode cL_law 541 = .ok (.aload_n 0, 1) := by decide +kernel
theorem dL_law_542 : decode cL_law 542 = .ok (.iload 4, 2) := by decide +kernel
theorem dL_law_544 : decode cL_law 544 = .ok (.iconst 2, 1) := by decide +kernel
theorem dL_law_545 : decode cL_law 545 = .ok (.iadd, 1) := by decide +kernel
theorem dL_law_546 : decode cL_law 546 = .ok (.iaload, 1) := by decide +kernel
theorem dL_law_547 : decode cL_law 547 = .ok (.aload_n 0, 1) := by decide +kernel
theorem dL_law_548 : decode cL_law 548 = .ok (.iload 4, 2) := by decide +kernel
theorem dL_law_550 : decode cL_law 550 = .ok (.iconst 3, 1) := by decide +kernel
theorem dL_law_551 : decode cL_law 551 = .ok (.iadd, 1) := by decide +kernel
theorem dL_law_552 : decode cL_law 552 = .ok (.iaload, 1) := by decide +kernel
theorem dL_law_553 : decode cL_law 553 = .ok (.invokevirtual 62, 3) := by decide +kernel
theorem dL_law_556 : decode cL_law 556 = .ok (.aload_n 2, 1) := by decide +kernel
theorem dL_law_557 : decode cL_law 557 = .ok (.aload_n 0, 1) := by decide +kernel
theorem dL_law_558 : decode cL_law 558 = .ok (.iload 4, 2) := by decide +kernel
theorem dL_law_560 : decode cL_law 560 = .ok (.iconst 1, 1) := by decide +kernel
theorem dL_law_561 : decode cL_law 561 = .ok (.iadd, 1) := by decide +kernel
theorem dL_law_562 : decode cL_law 562 = .ok (.iaload, 1) := by decide +kernel
theorem dL_law_563 : decode cL_law 563 = .ok (.aload_n 0, 1) := by decide +kernel
theorem dL_law_564 : decode cL_law 564 = .ok (.iload 4, 2) := by decide +kernel
theorem dL_law_566 : decode cL_law 566 = .ok (.iconst 2, 1) := by decide +kernel
theorem dL_law_567 : decode cL_law 567 = .ok (.iadd, 1) := by decide +kernel
theorem dL_law_568 : decode cL_law 568 = .ok (.iaload, 1) := by decide +kernel
theorem dL_law_569 : decode cL_law 569 = .ok (.aload_n 0, 1) := by decide +kernel
theorem dL_law_570 : decode cL_law 570 = .ok (.iload 4, 2) := by decide +kernel
theorem dL_law_572 : decode cL_law 572 = .ok (.iconst 3, 1) := by decide +kernel
theorem dL_law_573 : decode cL_law 573 = .ok (.iadd, 1) := by decide +kernel
theorem dL_law_574 : decode cL_law 574 = .ok (.iaload, 1) := by decide +kernel
theorem dL_law_575 : decode cL_law 575 = .ok (.invokevirtual 66, 3) := by decide +kernel
theorem dL_law_578 : decode cL_law 578 = .ok (.if_icmp .eq 679, 3) := by decide +kernel
theorem dL_law_581 : decode cL_law 581 = .ok (.iconst 0, 1) := by decide +kernel
theorem dL_law_582 : decode cL_law 582 = .ok (.ireturn, 1) := by decide +kernel
theorem dL_law_583 : decode cL_law 583 = .ok (.aload_n 1, 1) := by decide +kernel
theorem dL_law_584 : decode cL_law 584 = .ok (.invokevirtual 67, 3) := by decide +kernel
theorem dL_law_587 : decode cL_law 587 = .ok (.aload_n 2, 1) := by decide +kernel
theorem dL_law_588 : decode cL_law 588 = .ok (.invokevirtual 70, 3) := by decide +kernel
theorem dL_law_591 : decode cL_law 591 = .ok (.if_icmp .eq 666, 3) := by decide +kernel
theorem dL_law_594 : decode cL_law 594 = .ok (.iconst 0, 1) := by decide +kernel
theorem dL_law_595 : decode cL_law 595 = .ok (.ireturn, 1) := by decide +kernel
theorem dL_law_596 : decode cL_law 596 = .ok (.aload_n 1, 1) := by decide +kernel
theorem dL_law_597 : decode cL_law 597 = .ok (.aload_n 0, 1) := by decide +kernel
theorem dL_law_598 : decode cL_law 598 = .ok (.iload 4, 2) := by decide +kernel
theorem dL_law_600 : decode cL_law 600 = .ok (.iconst 1, 1) := by decide +kernel
theorem dL_law_601 : decode cL_law 601 = .ok (.iadd, 1) := by decide +kernel
theorem dL_law_602 : decode cL_law 602 = .ok (.iaload, 1) := by decide +kernel
theorem dL_law_603 : decode cL_law 603 = .ok (.invokevirtual 71, 3) := by decide +kernel
theorem dL_law_606 : decode cL_law 606 = .ok (.aload_n 2, 1) := by decide +kernel
theorem dL_law_607 : decode cL_law 607 = .ok (.aload_n 0, 1) := by decide +kernel
theorem dL_law_608 : decode cL_law 608 = .ok (.iload 4, 2) := by decide +kernel
theorem dL_law_610 : decode cL_law 610 = .ok (.iconst 1, 1) := by decide +kernel
theorem dL_law_611 : decode cL_law 611 = .ok (.iadd, 1) := by decide +kernel
theorem dL_law_612 : decode cL_law 612 = .ok (.iaload, 1) := by decide +kernel
theorem dL_law_613 : decode cL_law 613 = .ok (.invokevirtual 74, 3) := by decide +kernel
theorem dL_law_616 : decode cL_law 616 = .ok (.if_icmp .eq 641, 3) := by decide +kernel
theorem dL_law_619 : decode cL_law 619 = .ok (.iconst 0, 1) := by decide +kernel
theorem dL_law_620 : decode cL_law 620 = .ok (.ireturn, 1) := by decide +kernel
theorem dL_law_621 : decode cL_law 621 = .ok (.aload_n 1, 1) := by decide +kernel
theorem dL_law_622 : decode cL_law 622 = .ok (.aload_n 0, 1) := by decide +kernel
theorem dL_law_623 : decode cL_law 623 = .ok (.iload 4, 2) := by decide +kernel
theorem dL_law_625 : decode cL_law 625 = .ok (.iconst 1, 1) := by decide +kernel
theorem dL_law_626 : decode cL_law 626 = .ok (.iadd, 1) := by decide +kernel
theorem dL_law_627 : decode cL_law 627 = .ok (.iaload, 1) := by decide +kernel
theorem dL_law_628 : decode cL_law 628 = .ok (.aload_n 0, 1) := by decide +kernel
theorem dL_law_629 : decode cL_law 629 = .ok (.iload 4, 2) := by decide +kernel
theorem dL_law_631 : decode cL_law 631 = .ok (.iconst 2, 1) := by decide +kernel
theorem dL_law_632 : decode cL_law 632 = .ok (.iadd, 1) := by decide +kernel
theorem dL_law_633 : decode cL_law 633 = .ok (.iaload, 1) := by decide +kernel
theorem dL_law_634 : decode cL_law 634 = .ok (.invokevirtual 75, 3) := by decide +kernel
theorem dL_law_637 : decode cL_law 637 = .ok (.aload_n 2, 1) := by decide +kernel
theorem dL_law_638 : decode cL_law 638 = .ok (.aload_n 0, 1) := by decide +kernel
theorem dL_law_639 : decode cL_law 639 = .ok (.iload 4, 2) := by decide +kernel
theorem dL_law_641 : decode cL_law 641 = .ok (.iconst 1, 1) := by decide +kernel
theorem dL_law_642 : decode cL_law 642 = .ok (.iadd, 1) := by decide +kernel
theorem dL_law_643 : decode cL_law 643 = .ok (.iaload, 1) := by decide +kernel
theorem dL_law_644 : decode cL_law 644 = .ok (.aload_n 0, 1) := by decide +kernel
theorem dL_law_645 : decode cL_law 645 = .ok (.iload 4, 2) := by decide +kernel
theorem dL_law_647 : decode cL_law 647 = .ok (.iconst 2, 1) := by decide +kernel
theorem dL_law_648 : decode cL_law 648 = .ok (.iadd, 1) := by decide +kernel
theorem dL_law_649 : decode cL_law 649 = .ok (.iaload, 1) := by decide +kernel
theorem dL_law_650 : decode cL_law 650 = .ok (.invokevirtual 79, 3) := by decide +kernel
theorem dL_law_653 : decode cL_law 653 = .ok (.if_icmp .eq 604, 3) := by decide +kernel
theorem dL_law_656 : decode cL_law 656 = .ok (.iconst 0, 1) := by decide +kernel
theorem dL_law_657 : decode cL_law 657 = .ok (.ireturn, 1) := by decide +kernel
theorem dL_law_658 : decode cL_law 658 = .ok (.aload_n 1, 1) := by decide +kernel
theorem dL_law_659 : decode cL_law 659 = .ok (.aload_n 0, 1) := by decide +kernel
theorem dL_law_660 : decode cL_law 660 = .ok (.iload 4, 2) := by decide +kernel
theorem dL_law_662 : decode cL_law 662 = .ok (.iconst 1, 1) := by decide +kernel
theorem dL_law_663 : decode cL_law 663 = .ok (.iadd, 1) := by decide +kernel
theorem dL_law_664 : decode cL_law 664 = .ok (.iaload, 1) := by decide +kernel
theorem dL_law_665 : decode cL_law 665 = .ok (.invokevirtual 80, 3) := by decide +kernel
theorem dL_law_668 : decode cL_law 668 = .ok (.aload_n 2, 1) := by decide +kernel
theorem dL_law_669 : decode cL_law 669 = .ok (.aload_n 0, 1) := by decide +kernel
theorem dL_law_670 : decode cL_law 670 = .ok (.iload 4, 2) := by decide +kernel
theorem dL_law_672 : decode cL_law 672 = .ok (.iconst 1, 1) := by decide +kernel
theorem dL_law_673 : decode cL_law 673 = .ok (.iadd, 1) := by decide +kernel
theorem dL_law_674 : decode cL_law 674 = .ok (.iaload, 1) := by decide +kernel
theorem dL_law_675 : decode cL_law 675 = .ok (.invokevirtual 84, 3) := by decide +kernel
theorem dL_law_678 : decode cL_law 678 = .ok (.if_icmp .eq 579, 3) := by decide +kernel
theorem dL_law_681 : decode cL_law 681 = .ok (.iconst 0, 1) := by decide +kernel
theorem dL_law_682 : decode cL_law 682 = .ok (.ireturn, 1) := by decide +kernel
theorem dL_law_683 : decode cL_law 683 = .ok (.aload_n 1, 1) := by decide +kernel
theorem dL_law_684 : decode cL_law 684 = .ok (.aload_n 0, 1) := by decide +kernel
theorem dL_law_685 : decode cL_law 685 = .ok (.iload 4, 2) := by decide +kernel
theorem dL_law_687 : decode cL_law 687 = .ok (.iconst 1, 1) := by decide +kernel
theorem dL_law_688 : decode cL_law 688 = .ok (.iadd, 1) := by decide +kernel
theorem dL_law_689 : decode cL_law 689 = .ok (.iaload, 1) := by decide +kernel
theorem dL_law_690 : decode cL_law 690 = .ok (.invokevirtual 85, 3) := by decide +kernel
theorem dL_law_693 : decode cL_law 693 = .ok (.aload_n 2, 1) := by decide +kernel
theorem dL_law_694 : decode cL_law 694 = .ok (.aload_n 0, 1) := by decide +kernel
theorem dL_law_695 : decode cL_law 695 = .ok (.iload 4, 2) := by decide +kernel
theorem dL_law_697 : decode cL_law 697 = .ok (.iconst 1, 1) := by decide +kernel
theorem dL_law_698 : decode cL_law 698 = .ok (.iadd, 1) := by decide +kernel
theorem dL_law_699 : decode cL_law 699 = .ok (.iaload, 1) := by decide +kernel
theorem dL_law_700 : decode cL_law 700 = .ok (.invokevirtual 88, 3) := by decide +kernel
theorem dL_law_703 : decode cL_law 703 = .ok (.if_icmp .eq 554, 3) := by decide +kernel
theorem dL_law_706 : decode cL_law 706 = .ok (.iconst 0, 1) := by decide +kernel
theorem dL_law_707 : decode cL_law 707 = .ok (.ireturn, 1) := by decide +kernel
theorem dL_law_708 : decode cL_law 708 = .ok (.aload_n 1, 1) := by decide +kernel
theorem dL_law_709 : decode cL_law 709 = .ok (.invokevirtual 89, 3) := by decide +kernel
theorem dL_law_712 : decode cL_law 712 = .ok (.aload_n 2, 1) := by decide +kernel
theorem dL_law_713 : decode cL_law 713 = .ok (.invokevirtual 93, 3) := by decide +kernel
theorem dL_law_716 : decode cL_law 716 = .ok (.if_icmp .eq 541, 3) := by decide +kernel
theorem dL_law_719 : decode cL_law 719 = .ok (.iconst 0, 1) := by decide +kernel
theorem dL_law_720 : decode cL_law 720 = .ok (.ireturn, 1) := by decide +kernel
theorem dL_law_721 : decode cL_law 721 = .ok (.aload_n 1, 1) := by decide +kernel
theorem dL_law_722 : decode cL_law 722 = .ok (.invokevirtual 94, 3) := by decide +kernel
theorem dL_law_725 : decode cL_law 725 = .ok (.aload_n 2, 1) := by decide +kernel
theorem dL_law_726 : decode cL_law 726 = .ok (.invokevirtual 97, 3) := by decide +kernel
theorem dL_law_729 : decode cL_law 729 = .ok (.if_icmp .eq 528, 3) := by decide +kernel
theorem dL_law_732 : decode cL_law 732 = .ok (.iconst 0, 1) := by decide +kernel
theorem dL_law_733 : decode cL_law 733 = .ok (.ireturn, 1) := by decide +kernel
theorem dL_law_734 : decode cL_law 734 = .ok (.aload_n 1, 1) := by decide +kernel
theorem dL_law_735 : decode cL_law 735 = .ok (.aload_n 0, 1) := by decide +kernel
theorem dL_law_736 : decode cL_law 736 = .ok (.iload 4, 2) := by decide +kernel
theorem dL_law_738 : decode cL_law 738 = .ok (.iconst 1, 1) := by decide +kernel
theorem dL_law_739 : decode cL_law 739 = .ok (.iadd, 1) := by decide +kernel
theorem dL_law_740 : decode cL_law 740 = .ok (.iaload, 1) := by decide +kernel
theorem dL_law_741 : decode cL_law 741 = .ok (.invokevirtual 98, 3) := by decide +kernel
theorem dL_law_744 : decode cL_law 744 = .ok (.aload_n 2, 1) := by decide +kernel
theorem dL_law_745 : decode cL_law 745 = .ok (.aload_n 0, 1) := by decide +kernel
theorem dL_law_746 : decode cL_law 746 = .ok (.iload 4, 2) := by decide +kernel
theorem dL_law_748 : decode cL_law 748 = .ok (.iconst 1, 1) := by decide +kernel
theorem dL_law_749 : decode cL_law 749 = .ok (.iadd, 1) := by decide +kernel
theorem dL_law_750 : decode cL_law 750 = .ok (.iaload, 1) := by decide +kernel
theorem dL_law_751 : decode cL_law 751 = .ok (.invokevirtual 101, 3) := by decide +kernel
theorem dL_law_754 : decode cL_law 754 = .ok (.if_icmp .eq 503, 3) := by decide +kernel
theorem dL_law_757 : decode cL_law 757 = .ok (.iconst 0, 1) := by decide +kernel
theorem dL_law_758 : decode cL_law 758 = .ok (.ireturn, 1) := by decide +kernel
theorem dL_law_759 : decode cL_law 759 = .ok (.aload_n 1, 1) := by decide +kernel
theorem dL_law_760 : decode cL_law 760 = .ok (.aload_n 0, 1) := by decide +kernel
theorem dL_law_761 : decode cL_law 761 = .ok (.iload 4, 2) := by decide +kernel
theorem dL_law_763 : decode cL_law 763 = .ok (.iconst 1, 1) := by decide +kernel
theorem dL_law_764 : decode cL_law 764 = .ok (.iadd, 1) := by decide +kernel
theorem dL_law_765 : decode cL_law 765 = .ok (.iaload, 1) := by decide +kernel
theorem dL_law_766 : decode cL_law 766 = .ok (.invokevirtual 102, 3) := by decide +kernel
theorem dL_law_769 : decode cL_law 769 = .ok (.aload_n 2, 1) := by decide +kernel
theorem dL_law_770 : decode cL_law 770 = .ok (.aload_n 0, 1) := by decide +kernel
theorem dL_law_771 : decode cL_law 771 = .ok (.iload 4, 2) := by decide +kernel
theorem dL_law_773 : decode cL_law 773 = .ok (.iconst 1, 1) := by decide +kernel
theorem dL_law_774 : decode cL_law 774 = .ok (.iadd, 1) := by decide +kernel
theorem dL_law_775 : decode cL_law 775 = .ok (.iaload, 1) := by decide +kernel
theorem dL_law_776 : decode cL_law 776 = .ok (.invokevirtual 105, 3) := by decide +kernel
theorem dL_law_779 : decode cL_law 779 = .ok (.if_icmp .eq 478, 3) := by decide +kernel
theorem dL_law_782 : decode cL_law 782 = .ok (.iconst 0, 1) := by decide +kernel
theorem dL_law_783 : decode cL_law 783 = .ok (.ireturn, 1) := by decide +kernel
theorem dL_law_784 : decode cL_law 784 = .ok (.aload_n 1, 1) := by decide +kernel
theorem dL_law_785 : decode cL_law 785 = .ok (.aload_n 0, 1) := by decide +kernel
theorem dL_law_786 : decode cL_law 786 = .ok (.iload 4, 2) := by decide +kernel
theorem dL_law_788 : decode cL_law 788 = .ok (.iconst 1, 1) := by decide +kernel
theorem dL_law_789 : decode cL_law 789 = .ok (.iadd, 1) := by decide +kernel
theorem dL_law_790 : decode cL_law 790 = .ok (.iaload, 1) := by decide +kernel
theorem dL_law_791 : decode cL_law 791 = .ok (.aload_n 0, 1) := by decide +kernel
theorem dL_law_792 : decode cL_law 792 = .ok (.iload 4, 2) := by decide +kernel
theorem dL_law_794 : decode cL_law 794 = .ok (.iconst 2, 1) := by decide +kernel
theorem dL_law_795 : decode cL_law 795 = .ok (.iadd, 1) := by decide +kernel
theorem dL_law_796 : decode cL_law 796 = .ok (.iaload, 1) := by decide +kernel
theorem dL_law_797 : decode cL_law 797 = .ok (.invokevirtual 106, 3) := by decide +kernel
theorem dL_law_800 : decode cL_law 800 = .ok (.aload_n 2, 1) := by decide +kernel
theorem dL_law_801 : decode cL_law 801 = .ok (.aload_n 0, 1) := by decide +kernel
theorem dL_law_802 : decode cL_law 802 = .ok (.iload 4, 2) := by decide +kernel
theorem dL_law_804 : decode cL_law 804 = .ok (.iconst 1, 1) := by decide +kernel
theorem dL_law_805 : decode cL_law 805 = .ok (.iadd, 1) := by decide +kernel
theorem dL_law_806 : decode cL_law 806 = .ok (.iaload, 1) := by decide +kernel
theorem dL_law_807 : decode cL_law 807 = .ok (.aload_n 0, 1) := by decide +kernel
theorem dL_law_808 : decode cL_law 808 = .ok (.iload 4, 2) := by decide +kernel
theorem dL_law_810 : decode cL_law 810 = .ok (.iconst 2, 1) := by decide +kernel
theorem dL_law_811 : decode cL_law 811 = .ok (.iadd, 1) := by decide +kernel
theorem dL_law_812 : decode cL_law 812 = .ok (.iaload, 1) := by decide +kernel
theorem dL_law_813 : decode cL_law 813 = .ok (.invokevirtual 109, 3) := by decide +kernel
theorem dL_law_816 : decode cL_law 816 = .ok (.if_icmp .eq 441, 3) := by decide +kernel
theorem dL_law_819 : decode cL_law 819 = .ok (.iconst 0, 1) := by decide +kernel
theorem dL_law_820 : decode cL_law 820 = .ok (.ireturn, 1) := by decide +kernel
theorem dL_law_821 : decode cL_law 821 = .ok (.aload_n 1, 1) := by decide +kernel
theorem dL_law_822 : decode cL_law 822 = .ok (.aload_n 0, 1) := by decide +kernel
theorem dL_law_823 : decode cL_law 823 = .ok (.iload 4, 2) := by decide +kernel
theorem dL_law_825 : decode cL_law 825 = .ok (.iconst 1, 1) := by decide +kernel
theorem dL_law_826 : decode cL_law 826 = .ok (.iadd, 1) := by decide +kernel
theorem dL_law_827 : decode cL_law 827 = .ok (.iaload, 1) := by decide +kernel
theorem dL_law_828 : decode cL_law 828 = .ok (.invokevirtual 110, 3) := by decide +kernel
theorem dL_law_831 : decode cL_law 831 = .ok (.aload_n 2, 1) := by decide +kernel
theorem dL_law_832 : decode cL_law 832 = .ok (.aload_n 0, 1) := by decide +kernel
theorem dL_law_833 : decode cL_law 833 = .ok (.iload 4, 2) := by decide +kernel
theorem dL_law_835 : decode cL_law 835 = .ok (.iconst 1, 1) := by decide +kernel
theorem dL_law_836 : decode cL_law 836 = .ok (.iadd, 1) := by decide +kernel
theorem dL_law_837 : decode cL_law 837 = .ok (.iaload, 1) := by decide +kernel
theorem dL_law_838 : decode cL_law 838 = .ok (.invokevirtual 113, 3) := by decide +kernel
theorem dL_law_841 : decode cL_law 841 = .ok (.if_icmp .eq 416, 3) := by decide +kernel
theorem dL_law_844 : decode cL_law 844 = .ok (.iconst 0, 1) := by decide +kernel
theorem dL_law_845 : decode cL_law 845 = .ok (.ireturn, 1) := by decide +kernel
theorem dL_law_846 : decode cL_law 846 = .ok (.aload_n 1, 1) := by decide +kernel
theorem dL_law_847 : decode cL_law 847 = .ok (.invokevirtual 114, 3) := by decide +kernel
theorem dL_law_850 : decode cL_law 850 = .ok (.aload_n 2, 1) := by decide +kernel
theorem dL_law_851 : decode cL_law 851 = .ok (.invokevirtual 118, 3) := by decide +kernel
theorem dL_law_854 : decode cL_law 854 = .ok (.lcmp, 1) := by decide +kernel
theorem dL_law_855 : decode cL_law 855 = .ok (.ifCond .eq 402, 3) := by decide +kernel
theorem dL_law_858 : decode cL_law 858 = .ok (.iconst 0, 1) := by decide +kernel
theorem dL_law_859 : decode cL_law 859 = .ok (.ireturn, 1) := by decide +kernel
theorem dL_law_860 : decode cL_law 860 = .ok (.aload_n 1, 1) := by decide +kernel
theorem dL_law_861 : decode cL_law 861 = .ok (.aload_n 0, 1) := by decide +kernel
theorem dL_law_862 : decode cL_law 862 = .ok (.iload 4, 2) := by decide +kernel
theorem dL_law_864 : decode cL_law 864 = .ok (.iconst 1, 1) := by decide +kernel
theorem dL_law_865 : decode cL_law 865 = .ok (.iadd, 1) := by decide +kernel
theorem dL_law_866 : decode cL_law 866 = .ok (.iaload, 1) := by decide +kernel
theorem dL_law_867 : decode cL_law 867 = .ok (.aload_n 0, 1) := by decide +kernel
theorem dL_law_868 : decode cL_law 868 = .ok (.iload 4, 2) := by decide +kernel
theorem dL_law_870 : decode cL_law 870 = .ok (.iconst 2, 1) := by decide +kernel
theorem dL_law_871 : decode cL_law 871 = .ok (.iadd, 1) := by decide +kernel
theorem dL_law_872 : decode cL_law 872 = .ok (.iaload, 1) := by decide +kernel
theorem dL_law_873 : decode cL_law 873 = .ok (.invokevirtual 119, 3) := by decide +kernel
theorem dL_law_876 : decode cL_law 876 = .ok (.aload_n 2, 1) := by decide +kernel
theorem dL_law_877 : decode cL_law 877 = .ok (.aload_n 0, 1) := by decide +kernel
theorem dL_law_878 : decode cL_law 878 = .ok (.iload 4, 2) := by decide +kernel
theorem dL_law_880 : decode cL_law 880 = .ok (.iconst 1, 1) := by decide +kernel
theorem dL_law_881 : decode cL_law 881 = .ok (.iadd, 1) := by decide +kernel
theorem dL_law_882 : decode cL_law 882 = .ok (.iaload, 1) := by decide +kernel
theorem dL_law_883 : decode cL_law 883 = .ok (.aload_n 0, 1) := by decide +kernel
theorem dL_law_884 : decode cL_law 884 = .ok (.iload 4, 2) := by decide +kernel
theorem dL_law_886 : decode cL_law 886 = .ok (.iconst 2, 1) := by decide +kernel
theorem dL_law_887 : decode cL_law 887 = .ok (.iadd, 1) := by decide +kernel
theorem dL_law_888 : decode cL_law 888 = .ok (.iaload, 1) := by decide +kernel
theorem dL_law_889 : decode cL_law 889 = .ok (.invokevirtual 122, 3) := by decide +kernel
theorem dL_law_892 : decode cL_law 892 = .ok (.if_icmp .eq 365, 3) := by decide +kernel
theorem dL_law_895 : decode cL_law 895 = .ok (.iconst 0, 1) := by decide +kernel
theorem dL_law_896 : decode cL_law 896 = .ok (.ireturn, 1) := by decide +kernel
theorem dL_law_897 : decode cL_law 897 = .ok (.aload_n 1, 1) := by decide +kernel
theorem dL_law_898 : decode cL_law 898 = .ok (.aload_n 0, 1) := by decide +kernel
theorem dL_law_899 : decode cL_law 899 = .ok (.iload 4, 2) := by decide +kernel
theorem dL_law_901 : decode cL_law 901 = .ok (.iconst 1, 1) := by decide +kernel
theorem dL_law_902 : decode cL_law 902 = .ok (.iadd, 1) := by decide +kernel
theorem dL_law_903 : decode cL_law 903 = .ok (.iaload, 1) := by decide +kernel
theorem dL_law_904 : decode cL_law 904 = .ok (.invokevirtual 123, 3) := by decide +kernel
theorem dL_law_907 : decode cL_law 907 = .ok (.aload_n 2, 1) := by decide +kernel
theorem dL_law_908 : decode cL_law 908 = .ok (.aload_n 0, 1) := by decide +kernel
theorem dL_law_909 : decode cL_law 909 = .ok (.iload 4, 2) := by decide +kernel
theorem dL_law_911 : decode cL_law 911 = .ok (.iconst 1, 1) := by decide +kernel
theorem dL_law_912 : decode cL_law 912 = .ok (.iadd, 1) := by decide +kernel
theorem dL_law_913 : decode cL_law 913 = .ok (.iaload, 1) := by decide +kernel
theorem dL_law_914 : decode cL_law 914 = .ok (.invokevirtual 126, 3) := by decide +kernel
theorem dL_law_917 : decode cL_law 917 = .ok (.if_icmp .eq 340, 3) := by decide +kernel
theorem dL_law_920 : decode cL_law 920 = .ok (.iconst 0, 1) := by decide +kernel
theorem dL_law_921 : decode cL_law 921 = .ok (.ireturn, 1) := by decide +kernel
theorem dL_law_922 : decode cL_law 922 = .ok (.aload_n 1, 1) := by decide +kernel
theorem dL_law_923 : decode cL_law 923 = .ok (.invokevirtual 127, 3) := by decide +kernel
theorem dL_law_926 : decode cL_law 926 = .ok (.aload_n 2, 1) := by decide +kernel
theorem dL_law_927 : decode cL_law 927 = .ok (.invokevirtual 130, 3) := by decide +kernel
theorem dL_law_930 : decode cL_law 930 = .ok (.if_icmp .eq 327, 3) := by decide +kernel
theorem dL_law_933 : decode cL_law 933 = .ok (.iconst 0, 1) := by decide +kernel
theorem dL_law_934 : decode cL_law 934 = .ok (.ireturn, 1) := by decide +kernel
theorem dL_law_935 : decode cL_law 935 = .ok (.aload_n 1, 1) := by decide +kernel
theorem dL_law_936 : decode cL_law 936 = .ok (.aload_n 0, 1) := by decide +kernel
theorem dL_law_937 : decode cL_law 937 = .ok (.iload 4, 2) := by decide +kernel
theorem dL_law_939 : decode cL_law 939 = .ok (.iconst 1, 1) := by decide +kernel
theorem dL_law_940 : decode cL_law 940 = .ok (.iadd, 1) := by decide +kernel
theorem dL_law_941 : decode cL_law 941 = .ok (.iaload, 1) := by decide +kernel
theorem dL_law_942 : decode cL_law 942 = .ok (.invokevirtual 131, 3) := by decide +kernel
theorem dL_law_945 : decode cL_law 945 = .ok (.aload_n 2, 1) := by decide +kernel
theorem dL_law_946 : decode cL_law 946 = .ok (.aload_n 0, 1) := by decide +kernel
theorem dL_law_947 : decode cL_law 947 = .ok (.iload 4, 2) := by decide +kernel
theorem dL_law_949 : decode cL_law 949 = .ok (.iconst 1, 1) := by decide +kernel
theorem dL_law_950 : decode cL_law 950 = .ok (.iadd, 1) := by decide +kernel
theorem dL_law_951 : decode cL_law 951 = .ok (.iaload, 1) := by decide +kernel
theorem dL_law_952 : decode cL_law 952 = .ok (.invokevirtual 134, 3) := by decide +kernel
theorem dL_law_955 : decode cL_law 955 = .ok (.if_icmp .eq 302, 3) := by decide +kernel
theorem dL_law_958 : decode cL_law 958 = .ok (.iconst 0, 1) := by decide +kernel
theorem dL_law_959 : decode cL_law 959 = .ok (.ireturn, 1) := by decide +kernel
theorem dL_law_960 : decode cL_law 960 = .ok (.aload_n 1, 1) := by decide +kernel
theorem dL_law_961 : decode cL_law 961 = .ok (.invokevirtual 135, 3) := by decide +kernel
theorem dL_law_964 : decode cL_law 964 = .ok (.aload_n 2, 1) := by decide +kernel
theorem dL_law_965 : decode cL_law 965 = .ok (.invokevirtual 138, 3) := by decide +kernel
theorem dL_law_968 : decode cL_law 968 = .ok (.if_icmp .eq 289, 3) := by decide +kernel
theorem dL_law_971 : decode cL_law 971 = .ok (.iconst 0, 1) := by decide +kernel
theorem dL_law_972 : decode cL_law 972 = .ok (.ireturn, 1) := by decide +kernel
theorem dL_law_973 : decode cL_law 973 = .ok (.aload_n 1, 1) := by decide +kernel
theorem dL_law_974 : decode cL_law 974 = .ok (.invokevirtual 139, 3) := by decide +kernel
theorem dL_law_977 : decode cL_law 977 = .ok (.aload_n 2, 1) := by decide +kernel
theorem dL_law_978 : decode cL_law 978 = .ok (.invokevirtual 142, 3) := by decide +kernel
theorem dL_law_981 : decode cL_law 981 = .ok (.if_icmp .eq 276, 3) := by decide +kernel
theorem dL_law_984 : decode cL_law 984 = .ok (.iconst 0, 1) := by decide +kernel
theorem dL_law_985 : decode cL_law 985 = .ok (.ireturn, 1) := by decide +kernel
theorem dL_law_986 : decode cL_law 986 = .ok (.aload_n 1, 1) := by decide +kernel
theorem dL_law_987 : decode cL_law 987 = .ok (.invokevirtual 143, 3) := by decide +kernel
theorem dL_law_990 : decode cL_law 990 = .ok (.aload_n 2, 1) := by decide +kernel
theorem dL_law_991 : decode cL_law 991 = .ok (.invokevirtual 146, 3) := by decide +kernel
theorem dL_law_994 : decode cL_law 994 = .ok (.if_icmp .eq 263, 3) := by decide +kernel
theorem dL_law_997 : decode cL_law 997 = .ok (.iconst 0, 1) := by decide +kernel
theorem dL_law_998 : decode cL_law 998 = .ok (.ireturn, 1) := by decide +kernel
theorem dL_law_999 : decode cL_law 999 = .ok (.aload_n 1, 1) := by decide +kernel
theorem dL_law_1000 : decode cL_law 1000 = .ok (.aload_n 0, 1) := by decide +kernel
theorem dL_law_1001 : decode cL_law 1001 = .ok (.iload 4, 2) := by decide +kernel
theorem dL_law_1003 : decode cL_law 1003 = .ok (.iconst 1, 1) := by decide +kernel
theorem dL_law_1004 : decode cL_law 1004 = .ok (.iadd, 1) := by decide +kernel
theorem dL_law_1005 : decode cL_law 1005 = .ok (.iaload, 1) := by decide +kernel
theorem dL_law_1006 : decode cL_law 1006 = .ok (.aload_n 0, 1) := by decide +kernel
theorem dL_law_1007 : decode cL_law 1007 = .ok (.iload 4, 2) := by decide +kernel
theorem dL_law_1009 : decode cL_law 1009 = .ok (.iconst 2, 1) := by decide +kernel
theorem dL_law_1010 : decode cL_law 1010 = .ok (.iadd, 1) := by decide +kernel
theorem dL_law_1011 : decode cL_law 1011 = .ok (.iaload, 1) := by decide +kernel
theorem dL_law_1012 : decode cL_law 1012 = .ok (.invokevirtual 147, 3) := by decide +kernel
theorem dL_law_1015 : decode cL_law 1015 = .ok (.aload_n 2, 1) := by decide +kernel
theorem dL_law_1016 : decode cL_law 1016 = .ok (.aload_n 0, 1) := by decide +kernel
theorem dL_law_1017 : decode cL_law 1017 = .ok (.iload 4, 2) := by decide +kernel
theorem dL_law_1019 : decode cL_law 1019 = .ok (.iconst 1, 1) := by decide +kernel
theorem dL_law_1020 : decode cL_law 1020 = .ok (.iadd, 1) := by decide +kernel
theorem dL_law_1021 : decode cL_law 1021 = .ok (.iaload, 1) := by decide +kernel
theorem dL_law_1022 : decode cL_law 1022 = .ok (.aload_n 0, 1) := by decide +kernel
theorem dL_law_1023 : decode cL_law 1023 = .ok (.iload 4, 2) := by decide +kernel
theorem dL_law_1025 : decode cL_law 1025 = .ok (.iconst 2, 1) := by decide +kernel
theorem dL_law_1026 : decode cL_law 1026 = .ok (.iadd, 1) := by decide +kernel
theorem dL_law_1027 : decode cL_law 1027 = .ok (.iaload, 1) := by decide +kernel
theorem dL_law_1028 : decode cL_law 1028 = .ok (.invokevirtual 150, 3) := by decide +kernel
theorem dL_law_1031 : decode cL_law 1031 = .ok (.if_icmp .eq 226, 3) := by decide +kernel
theorem dL_law_1034 : decode cL_law 1034 = .ok (.iconst 0, 1) := by decide +kernel
theorem dL_law_1035 : decode cL_law 1035 = .ok (.ireturn, 1) := by decide +kernel
theorem dL_law_1036 : decode cL_law 1036 = .ok (.aload_n 1, 1) := by decide +kernel
theorem dL_law_1037 : decode cL_law 1037 = .ok (.aload_n 0, 1) := by decide +kernel
theorem dL_law_1038 : decode cL_law 1038 = .ok (.iload 4, 2) := by decide +kernel
theorem dL_law_1040 : decode cL_law 1040 = .ok (.iconst 1, 1) := by decide +kernel
theorem dL_law_1041 : decode cL_law 1041 = .ok (.iadd, 1) := by decide +kernel
theorem dL_law_1042 : decode cL_law 1042 = .ok (.iaload, 1) := by decide +kernel
theorem dL_law_1043 : decode cL_law 1043 = .ok (.aload_n 0, 1) := by decide +kernel
theorem dL_law_1044 : decode cL_law 1044 = .ok (.iload 4, 2) := by decide +kernel
theorem dL_law_1046 : decode cL_law 1046 = .ok (.iconst 2, 1) := by decide +kernel
theorem dL_law_1047 : decode cL_law 1047 = .ok (.iadd, 1) := by decide +kernel
theorem dL_law_1048 : decode cL_law 1048 = .ok (.iaload, 1) := by decide +kernel
theorem dL_law_1049 : decode cL_law 1049 = .ok (.invokevirtual 151, 3) := by decide +kernel
theorem dL_law_1052 : decode cL_law 1052 = .ok (.aload_n 2, 1) := by decide +kernel
theorem dL_law_1053 : decode cL_law 1053 = .ok (.aload_n 0, 1) := by decide +kernel
theorem dL_law_1054 : decode cL_law 1054 = .ok (.iload 4, 2) := by decide +kernel
theorem dL_law_1056 : decode cL_law 1056 = .ok (.iconst 1, 1) := by decide +kernel
theorem dL_law_1057 : decode cL_law 1057 = .ok (.iadd, 1) := by decide +kernel
theorem dL_law_1058 : decode cL_law 1058 = .ok (.iaload, 1) := by decide +kernel
theorem dL_law_1059 : decode cL_law 1059 = .ok (.aload_n 0, 1) := by decide +kernel
theorem dL_law_1060 : decode cL_law 1060 = .ok (.iload 4, 2) := by decide +kernel
theorem dL_law_1062 : decode cL_law 1062 = .ok (.iconst 2, 1) := by decide +kernel
theorem dL_law_1063 : decode cL_law 1063 = .ok (.iadd, 1) := by decide +kernel
theorem dL_law_1064 : decode cL_law 1064 = .ok (.iaload, 1) := by decide +kernel
theorem dL_law_1065 : decode cL_law 1065 = .ok (.invokevirtual 154, 3) := by decide +kernel
theorem dL_law_1068 : decode cL_law 1068 = .ok (.if_icmp .eq 189, 3) := by decide +kernel
theorem dL_law_1071 : decode cL_law 1071 = .ok (.iconst 0, 1) := by decide +kernel
theorem dL_law_1072 : decode cL_law 1072 = .ok (.ireturn, 1) := by decide +kernel
theorem dL_law_1073 : decode cL_law 1073 = .ok (.aload_n 1, 1) := by decide +kernel
theorem dL_law_1074 : decode cL_law 1074 = .ok (.invokevirtual 155, 3) := by decide +kernel
theorem dL_law_1077 : decode cL_law 1077 = .ok (.aload_n 2, 1) := by decide +kernel
theorem dL_law_1078 : decode cL_law 1078 = .ok (.invokevirtual 158, 3) := by decide +kernel
theorem dL_law_1081 : decode cL_law 1081 = .ok (.lcmp, 1) := by decide +kernel
theorem dL_law_1082 : decode cL_law 1082 = .ok (.ifCond .eq 175, 3) := by decide +kernel
theorem dL_law_1085 : decode cL_law 1085 = .ok (.iconst 0, 1) := by decide +kernel
theorem dL_law_1086 : decode cL_law 1086 = .ok (.ireturn, 1) := by decide +kernel
theorem dL_law_1087 : decode cL_law 1087 = .ok (.aload_n 1, 1) := by decide +kernel
theorem dL_law_1088 : decode cL_law 1088 = .ok (.aload_n 0, 1) := by decide +kernel
theorem dL_law_1089 : decode cL_law 1089 = .ok (.iload 4, 2) := by decide +kernel
theorem dL_law_1091 : decode cL_law 1091 = .ok (.iconst 1, 1) := by decide +kernel
theorem dL_law_1092 : decode cL_law 1092 = .ok (.iadd, 1) := by decide +kernel
theorem dL_law_1093 : decode cL_law 1093 = .ok (.iaload, 1) := by decide +kernel
theorem dL_law_1094 : decode cL_law 1094 = .ok (.aload_n 0, 1) := by decide +kernel
theorem dL_law_1095 : decode cL_law 1095 = .ok (.iload 4, 2) := by decide +kernel
theorem dL_law_1097 : decode cL_law 1097 = .ok (.iconst 2, 1) := by decide +kernel
theorem dL_law_1098 : decode cL_law 1098 = .ok (.iadd, 1) := by decide +kernel
theorem dL_law_1099 : decode cL_law 1099 = .ok (.iaload, 1) := by decide +kernel
theorem dL_law_1100 : decode cL_law 1100 = .ok (.invokevirtual 159, 3) := by decide +kernel
theorem dL_law_1103 : decode cL_law 1103 = .ok (.aload_n 2, 1) := by decide +kernel
theorem dL_law_1104 : decode cL_law 1104 = .ok (.aload_n 0, 1) := by decide +kernel
theorem dL_law_1105 : decode cL_law 1105 = .ok (.iload 4, 2) := by decide +kernel
theorem dL_law_1107 : decode cL_law 1107 = .ok (.iconst 1, 1) := by decide +kernel
theorem dL_law_1108 : decode cL_law 1108 = .ok (.iadd, 1) := by decide +kernel
theorem dL_law_1109 : decode cL_law 1109 = .ok (.iaload, 1) := by decide +kernel
theorem dL_law_1110 : decode cL_law 1110 = .ok (.aload_n 0, 1) := by decide +kernel
theorem dL_law_1111 : decode cL_law 1111 = .ok (.iload 4, 2) := by decide +kernel
theorem dL_law_1113 : decode cL_law 1113 = .ok (.iconst 2, 1) := by decide +kernel
theorem dL_law_1114 : decode cL_law 1114 = .ok (.iadd, 1) := by decide +kernel
theorem dL_law_1115 : decode cL_law 1115 = .ok (.iaload, 1) := by decide +kernel
theorem dL_law_1116 : decode cL_law 1116 = .ok (.invokevirtual 163, 3) := by decide +kernel
theorem dL_law_1119 : decode cL_law 1119 = .ok (.lcmp, 1) := by decide +kernel
theorem dL_law_1120 : decode cL_law 1120 = .ok (.ifCond .eq 137, 3) := by decide +kernel
theorem dL_law_1123 : decode cL_law 1123 = .ok (.iconst 0, 1) := by decide +kernel
theorem dL_law_1124 : decode cL_law 1124 = .ok (.ireturn, 1) := by decide +kernel
theorem dL_law_1125 : decode cL_law 1125 = .ok (.aload_n 1, 1) := by decide +kernel
theorem dL_law_1126 : decode cL_law 1126 = .ok (.invokevirtual 164, 3) := by decide +kernel
theorem dL_law_1129 : decode cL_law 1129 = .ok (.aload_n 2, 1) := by decide +kernel
theorem dL_law_1130 : decode cL_law 1130 = .ok (.invokevirtual 167, 3) := by decide +kernel
theorem dL_law_1133 : decode cL_law 1133 = .ok (.if_icmp .eq 124, 3) := by decide +kernel
theorem dL_law_1136 : decode cL_law 1136 = .ok (.iconst 0, 1) := by decide +kernel
theorem dL_law_1137 : decode cL_law 1137 = .ok (.ireturn, 1) := by decide +kernel
theorem dL_law_1138 : decode cL_law 1138 = .ok (.aload_n 1, 1) := by decide +kernel
theorem dL_law_1139 : decode cL_law 1139 = .ok (.aload_n 0, 1) := by decide +kernel
theorem dL_law_1140 : decode cL_law 1140 = .ok (.iload 4, 2) := by decide +kernel
theorem dL_law_1142 : decode cL_law 1142 = .ok (.iconst 1, 1) := by decide +kernel
theorem dL_law_1143 : decode cL_law 1143 = .ok (.iadd, 1) := by decide +kernel
theorem dL_law_1144 : decode cL_law 1144 = .ok (.iaload, 1) := by decide +kernel
theorem dL_law_1145 : decode cL_law 1145 = .ok (.invokevirtual 168, 3) := by decide +kernel
theorem dL_law_1148 : decode cL_law 1148 = .ok (.aload_n 2, 1) := by decide +kernel
theorem dL_law_1149 : decode cL_law 1149 = .ok (.aload_n 0, 1) := by decide +kernel
theorem dL_law_1150 : decode cL_law 1150 = .ok (.iload 4, 2) := by decide +kernel
theorem dL_law_1152 : decode cL_law 1152 = .ok (.iconst 1, 1) := by decide +kernel
theorem dL_law_1153 : decode cL_law 1153 = .ok (.iadd, 1) := by decide +kernel
theorem dL_law_1154 : decode cL_law 1154 = .ok (.iaload, 1) := by decide +kernel
theorem dL_law_1155 : decode cL_law 1155 = .ok (.invokevirtual 171, 3) := by decide +kernel
theorem dL_law_1158 : decode cL_law 1158 = .ok (.if_icmp .eq 99, 3) := by decide +kernel
theorem dL_law_1161 : decode cL_law 1161 = .ok (.iconst 0, 1) := by decide +kernel
theorem dL_law_1162 : decode cL_law 1162 = .ok (.ireturn, 1) := by decide +kernel
theorem dL_law_1163 : decode cL_law 1163 = .ok (.aload_n 1, 1) := by decide +kernel
theorem dL_law_1164 : decode cL_law 1164 = .ok (.aload_n 0, 1) := by decide +kernel
theorem dL_law_1165 : decode cL_law 1165 = .ok (.iload 4, 2) := by decide +kernel
theorem dL_law_1167 : decode cL_law 1167 = .ok (.iconst 1, 1) := by decide +kernel
theorem dL_law_1168 : decode cL_law 1168 = .ok (.iadd, 1) := by decide +kernel
theorem dL_law_1169 : decode cL_law 1169 = .ok (.iaload, 1) := by decide +kernel
theorem dL_law_1170 : decode cL_law 1170 = .ok (.aload_n 3, 1) := by decide +kernel
theorem dL_law_1171 : decode cL_law 1171 = .ok (.invokestatic 172, 3) := by decide +kernel
theorem dL_law_1174 : decode cL_law 1174 = .ok (.istore 5, 2) := by decide +kernel
theorem dL_law_1176 : decode cL_law 1176 = .ok (.aload_n 2, 1) := by decide +kernel
theorem dL_law_1177 : decode cL_law 1177 = .ok (.aload_n 0, 1) := by decide +kernel
theorem dL_law_1178 : decode cL_law 1178 = .ok (.iload 4, 2) := by decide +kernel
theorem dL_law_1180 : decode cL_law 1180 = .ok (.iconst 1, 1) := by decide +kernel
theorem dL_law_1181 : decode cL_law 1181 = .ok (.iadd, 1) := by decide +kernel
theorem dL_law_1182 : decode cL_law 1182 = .ok (.iaload, 1) := by decide +kernel
theorem dL_law_1183 : decode cL_law 1183 = .ok (.invokevirtual 177, 3) := by decide +kernel
theorem dL_law_1186 : decode cL_law 1186 = .ok (.istore 6, 2) := by decide +kernel
theorem dL_law_1188 : decode cL_law 1188 = .ok (.aload_n 2, 1) := by decide +kernel
theorem dL_law_1189 : decode cL_law 1189 = .ok (.invokevirtual 178, 3) := by decide +kernel
theorem dL_law_1192 : decode cL_law 1192 = .ok (.iload 5, 2) := by decide +kernel
theorem dL_law_1194 : decode cL_law 1194 = .ok (.if_icmp .eq 5, 3) := by decide +kernel
theorem dL_law_1197 : decode cL_law 1197 = .ok (.iconst 0, 1) := by decide +kernel
theorem dL_law_1198 : decode cL_law 1198 = .ok (.ireturn, 1) := by decide +kernel
theorem dL_law_1199 : decode cL_law 1199 = .ok (.iload 5, 2) := by decide +kernel
theorem dL_law_1201 : decode cL_law 1201 = .ok (.ifCond .ne 15, 3) := by decide +kernel
theorem dL_law_1204 : decode cL_law 1204 = .ok (.aload_n 3, 1) := by decide +kernel
theorem dL_law_1205 : decode cL_law 1205 = .ok (.iconst 0, 1) := by decide +kernel
theorem dL_law_1206 : decode cL_law 1206 = .ok (.laload, 1) := by decide +kernel
theorem dL_law_1207 : decode cL_law 1207 = .ok (.iload 6, 2) := by decide +kernel
theorem dL_law_1209 : decode cL_law 1209 = .ok (.i2l, 1) := by decide +kernel
theorem dL_law_1210 : decode cL_law 1210 = .ok (.lcmp, 1) := by decide +kernel
theorem dL_law_1211 : decode cL_law 1211 = .ok (.ifCond .eq 5, 3) := by decide +kernel
theorem dL_law_1214 : decode cL_law 1214 = .ok (.iconst 0, 1) := by decide +kernel
theorem dL_law_1215 : decode cL_law 1215 = .ok (.ireturn, 1) := by decide +kernel
theorem dL_law_1216 : decode cL_law 1216 = .ok (.goto 41, 3) := by decide +kernel
theorem dL_law_1219 : decode cL_law 1219 = .ok (.aload_n 1, 1) := by decide +kernel
theorem dL_law_1220 : decode cL_law 1220 = .ok (.aload_n 0, 1) := by decide +kernel
theorem dL_law_1221 : decode cL_law 1221 = .ok (.iload 4, 2) := by decide +kernel
theorem dL_law_1223 : decode cL_law 1223 = .ok (.iconst 1, 1) := by decide +kernel
theorem dL_law_1224 : decode cL_law 1224 = .ok (.iadd, 1) := by decide +kernel
theorem dL_law_1225 : decode cL_law 1225 = .ok (.iaload, 1) := by decide +kernel
theorem dL_law_1226 : decode cL_law 1226 = .ok (.invokevirtual 181, 3) := by decide +kernel
theorem dL_law_1229 : decode cL_law 1229 = .ok (.aload_n 2, 1) := by decide +kernel
theorem dL_law_1230 : decode cL_law 1230 = .ok (.aload_n 0, 1) := by decide +kernel
theorem dL_law_1231 : decode cL_law 1231 = .ok (.iload 4, 2) := by decide +kernel
theorem dL_law_1233 : decode cL_law 1233 = .ok (.iconst 1, 1) := by decide +kernel
theorem dL_law_1234 : decode cL_law 1234 = .ok (.iadd, 1) := by decide +kernel
theorem dL_law_1235 : decode cL_law 1235 = .ok (.iaload, 1) := by decide +kernel
theorem dL_law_1236 : decode cL_law 1236 = .ok (.invokevirtual 184, 3) := by decide +kernel
theorem dL_law_1239 : decode cL_law 1239 = .ok (.if_icmp .eq 18, 3) := by decide +kernel
theorem dL_law_1242 : decode cL_law 1242 = .ok (.iconst 0, 1) := by decide +kernel
theorem dL_law_1243 : decode cL_law 1243 = .ok (.ireturn, 1) := by decide +kernel
theorem dL_law_1244 : decode cL_law 1244 = .ok (.aload_n 1, 1) := by decide +kernel
theorem dL_law_1245 : decode cL_law 1245 = .ok (.invokevirtual 185, 3) := by decide +kernel
theorem dL_law_1248 : decode cL_law 1248 = .ok (.aload_n 2, 1) := by decide +kernel
theorem dL_law_1249 : decode cL_law 1249 = .ok (.invokevirtual 188, 3) := by decide +kernel
theorem dL_law_1252 : decode cL_law 1252 = .ok (.if_icmp .eq 5, 3) := by decide +kernel
theorem dL_law_1255 : decode cL_law 1255 = .ok (.iconst 0, 1) := by decide +kernel
theorem dL_law_1256 : decode cL_law 1256 = .ok (.ireturn, 1) := by decide +kernel
theorem dL_law_1257 : decode cL_law 1257 = .ok (.iinc 4 6, 3) := by decide +kernel
theorem dL_law_1260 : decode cL_law 1260 = .ok (.goto (-1237), 3) := by decide +kernel
theorem dL_law_1263 : decode cL_law 1263 = .ok (.iconst 1, 1) := by decide +kernel
theorem dL_law_1264 : decode cL_law 1264 = .ok (.ireturn, 1) := by decide +kernel
