theorem dX3_init_0 : decode cX3_init 0 = .ok (.aload_n 0, 1) := by decide +kernel
theorem dX3_init_1 : decode cX3_init 1 = .ok (.invokespecial 1, 3) := by decide +kernel
theorem dX3_init_4 : decode cX3_init 4 = .ok (.aload_n 0, 1) := by decide +kernel
theorem dX3_init_5 : decode cX3_init 5 = .ok (.bipush 40, 2) := by decide +kernel
theorem dX3_init_7 : decode cX3_init 7 = .ok (.newarray .int, 2) := by decide +kernel
theorem dX3_init_9 : decode cX3_init 9 = .ok (.putfield 7, 3) := by decide +kernel
theorem dX3_init_12 : decode cX3_init 12 = .ok (.aload_n 0, 1) := by decide +kernel
theorem dX3_init_13 : decode cX3_init 13 = .ok (.bipush 40, 2) := by decide +kernel
theorem dX3_init_15 : decode cX3_init 15 = .ok (.newarray .int, 2) := by decide +kernel
theorem dX3_init_17 : decode cX3_init 17 = .ok (.putfield 13, 3) := by decide +kernel
theorem dX3_init_20 : decode cX3_init 20 = .ok (.aload_n 0, 1) := by decide +kernel
theorem dX3_init_21 : decode cX3_init 21 = .ok (.sipush 200, 3) := by decide +kernel
theorem dX3_init_24 : decode cX3_init 24 = .ok (.newarray .int, 2) := by decide +kernel
theorem dX3_init_26 : decode cX3_init 26 = .ok (.putfield 16, 3) := by decide +kernel
theorem dX3_init_29 : decode cX3_init 29 = .ok (.aload_n 0, 1) := by decide +kernel
theorem dX3_init_30 : decode cX3_init 30 = .ok (.sipush 200, 3) := by decide +kernel
theorem dX3_init_33 : decode cX3_init 33 = .ok (.newarray .int, 2) := by decide +kernel
theorem dX3_init_35 : decode cX3_init 35 = .ok (.putfield 19, 3) := by decide +kernel
theorem dX3_init_38 : decode cX3_init 38 = .ok (.aload_n 0, 1) := by decide +kernel
theorem dX3_init_39 : decode cX3_init 39 = .ok (.sipush 200, 3) := by decide +kernel
theorem dX3_init_42 : decode cX3_init 42 = .ok (.newarray .int, 2) := by decide +kernel
theorem dX3_init_44 : decode cX3_init 44 = .ok (.putfield 22, 3) := by decide +kernel
theorem dX3_init_47 : decode cX3_init 47 = .ok (.aload_n 0, 1) := by decide +kernel
theorem dX3_init_48 : decode cX3_init 48 = .ok (.sipush 200, 3) := by decide +kernel
theorem dX3_init_51 : decode cX3_init 51 = .ok (.newarray .int, 2) := by decide +kernel
theorem dX3_init_53 : decode cX3_init 53 = .ok (.putfield 25, 3) := by decide +kernel
theorem dX3_init_56 : decode cX3_init 56 = .ok (.aload_n 0, 1) := by decide +kernel
theorem dX3_init_57 : decode cX3_init 57 = .ok (.sipush 200, 3) := by decide +kernel
theorem dX3_init_60 : decode cX3_init 60 = .ok (.newarray .int, 2) := by decide +kernel
theorem dX3_init_62 : decode cX3_init 62 = .ok (.putfield 28, 3) := by decide +kernel
theorem dX3_init_65 : decode cX3_init 65 = .ok (.aload_n 0, 1) := by decide +kernel
theorem dX3_init_66 : decode cX3_init 66 = .ok (.sipush 400, 3) := by decide +kernel
theorem dX3_init_69 : decode cX3_init 69 = .ok (.newarray .int, 2) := by decide +kernel
theorem dX3_init_71 : decode cX3_init 71 = .ok (.putfield 31, 3) := by decide +kernel
theorem dX3_init_74 : decode cX3_init 74 = .ok (.aload_n 0, 1) := by decide +kernel
theorem dX3_init_75 : decode cX3_init 75 = .ok (.sipush 1280, 3) := by decide +kernel
theorem dX3_init_78 : decode cX3_init 78 = .ok (.newarray .int, 2) := by decide +kernel
theorem dX3_init_80 : decode cX3_init 80 = .ok (.putfield 34, 3) := by decide +kernel
theorem dX3_init_83 : decode cX3_init 83 = .ok (.aload_n 0, 1) := by decide +kernel
theorem dX3_init_84 : decode cX3_init 84 = .ok (.bipush 60, 2) := by decide +kernel
theorem dX3_init_86 : decode cX3_init 86 = .ok (.newarray .int, 2) := by decide +kernel
theorem dX3_init_88 : decode cX3_init 88 = .ok (.putfield 37, 3) := by decide +kernel
theorem dX3_init_91 : decode cX3_init 91 = .ok (.aload_n 0, 1) := by decide +kernel
theorem dX3_init_92 : decode cX3_init 92 = .ok (.bipush 60, 2) := by decide +kernel
theorem dX3_init_94 : decode cX3_init 94 = .ok (.newarray .int, 2) := by decide +kernel
theorem dX3_init_96 : decode cX3_init 96 = .ok (.putfield 40, 3) := by decide +kernel
theorem dX3_init_99 : decode cX3_init 99 = .ok (.aload_n 0, 1) := by decide +kernel
theorem dX3_init_100 : decode cX3_init 100 = .ok (.bipush 60, 2) := by decide +kernel
theorem dX3_init_102 : decode cX3_init 102 = .ok (.newarray .int, 2) := by decide +kernel
theorem dX3_init_104 : decode cX3_init 104 = .ok (.putfield 43, 3) := by decide +kernel
theorem dX3_init_107 : decode cX3_init 107 = .ok (.aload_n 0, 1) := by decide +kernel
theorem dX3_init_108 : decode cX3_init 108 = .ok (.sipush 960, 3) := by decide +kernel
theorem dX3_init_111 : decode cX3_init 111 = .ok (.newarray .int, 2) := by decide +kernel
theorem dX3_init_113 : decode cX3_init 113 = .ok (.putfield 46, 3) := by decide +kernel
theorem dX3_init_116 : decode cX3_init 116 = .ok (.aload_n 0, 1) := by decide +kernel
theorem dX3_init_117 : decode cX3_init 117 = .ok (.bipush 20, 2) := by decide +kernel
theorem dX3_init_119 : decode cX3_init 119 = .ok (.newarray .int, 2) := by decide +kernel
theorem dX3_init_121 : decode cX3_init 121 = .ok (.putfield 49, 3) := by decide +kernel
theorem dX3_init_124 : decode cX3_init 124 = .ok (.iconst 0, 1) := by decide +kernel
theorem dX3_init_125 : decode cX3_init 125 = .ok (.istore_n 1, 1) := by decide +kernel
theorem dX3_init_126 : decode cX3_init 126 = .ok (.iload_n 1, 1) := by decide +kernel
theorem dX3_init_127 : decode cX3_init 127 = .ok (.sipush 400, 3) := by decide +kernel
theorem dX3_init_130 : decode cX3_init 130 = .ok (.if_icmp .ge 16, 3) := by decide +kernel
theorem dX3_init_133 : decode cX3_init 133 = .ok (.aload_n 0, 1) := by decide +kernel
theorem dX3_init_134 : decode cX3_init 134 = .ok (.getfield 31, 3) := by decide +kernel
theorem dX3_init_137 : decode cX3_init 137 = .ok (.iload_n 1, 1) := by decide +kernel
theorem dX3_init_138 : decode cX3_init 138 = .ok (.iconst (-1), 1) := by decide +kernel
theorem dX3_init_139 : decode cX3_init 139 = .ok (.iastore, 1) := by decide +kernel
theorem dX3_init_140 : decode cX3_init 140 = .ok (.iinc 1 1, 3) := by decide +kernel
theorem dX3_init_143 : decode cX3_init 143 = .ok (.goto (-17), 3) := by decide +kernel
theorem dX3_init_146 : decode cX3_init 146 = .ok (.iconst 0, 1) := by decide +kernel
theorem dX3_init_147 : decode cX3_init 147 = .ok (.istore_n 1, 1) := by decide +kernel
theorem dX3_init_148 : decode cX3_init 148 = .ok (.iload_n 1, 1) := by decide +kernel
theorem dX3_init_149 : decode cX3_init 149 = .ok (.sipush 1280, 3) := by decide +kernel
theorem dX3_init_152 : decode cX3_init 152 = .ok (.if_icmp .ge 16, 3) := by decide +kernel
theorem dX3_init_155 : decode cX3_init 155 = .ok (.aload_n 0, 1) := by decide +kernel
theorem dX3_init_156 : decode cX3_init 156 = .ok (.getfield 34, 3) := by decide +kernel
theorem dX3_init_159 : decode cX3_init 159 = .ok (.iload_n 1, 1) := by decide +kernel
theorem dX3_init_160 : decode cX3_init 160 = .ok (.iconst (-1), 1) := by decide +kernel
theorem dX3_init_161 : decode cX3_init 161 = .ok (.iastore, 1) := by decide +kernel
theorem dX3_init_162 : decode cX3_init 162 = .ok (.iinc 1 1, 3) := by decide +kernel
theorem dX3_init_165 : decode cX3_init 165 = .ok (.goto (-17), 3) := by decide +kernel
theorem dX3_init_168 : decode cX3_init 168 = .ok (.return_, 1) := by decide +kernel
theorem dX3_thrown_0 : decode cX3_thrown 0 = .ok (.aload_n 0, 1) := by decide +kernel
theorem dX3_thrown_1 : decode cX3_thrown 1 = .ok (.getfield 52, 3) := by decide +kernel
theorem dX3_thrown_4 : decode cX3_thrown 4 = .ok (.ireturn, 1) := by decide +kernel
theorem dX3_throwing_0 : decode cX3_throwing 0 = .ok (.aload_n 0, 1) := by decide +kernel
theorem dX3_throwing_1 : decode cX3_throwing 1 = .ok (.iload_n 1, 1) := by decide +kernel
theorem dX3_throwing_2 : decode cX3_throwing 2 = .ok (.ifCond .eq 7, 3) := by decide +kernel
theorem dX3_throwing_5 : decode cX3_throwing 5 = .ok (.iconst 1, 1) := by decide +kernel
theorem dX3_throwing_6 : decode cX3_throwing 6 = .ok (.goto 29, 3) := by decide +kernel
theorem dX3_throwing_9 : decode cX3_throwing 9 = .ok (.iload_n 2, 1) := by decide +kernel
theorem dX3_throwing_10 : decode cX3_throwing 10 = .ok (.ifCond .eq 7, 3) := by decide +kernel
theorem dX3_throwing_13 : decode cX3_throwing 13 = .ok (.iconst 2, 1) := by decide +kernel
theorem dX3_throwing_14 : decode cX3_throwing 14 = .ok (.goto 21, 3) := by decide +kernel
theorem dX3_throwing_17 : decode cX3_throwing 17 = .ok (.iload_n 3, 1) := by decide +kernel
theorem dX3_throwing_18 : decode cX3_throwing 18 = .ok (.ifCond .eq 7, 3) := by decide +kernel
theorem dX3_throwing_21 : decode cX3_throwing 21 = .ok (.iconst 3, 1) := by decide +kernel
theorem dX3_throwing_22 : decode cX3_throwing 22 = .ok (.goto 13, 3) := by decide +kernel
theorem dX3_throwing_25 : decode cX3_throwing 25 = .ok (.iload 4, 2) := by decide +kernel
theorem dX3_throwing_27 : decode cX3_throwing 27 = .ok (.ifCond .eq 7, 3) := by decide +kernel
theorem dX3_throwing_30 : decode cX3_throwing 30 = .ok (.iconst 4, 1) := by decide +kernel
theorem dX3_throwing_31 : decode cX3_throwing 31 = .ok (.goto 4, 3) := by decide +kernel
theorem dX3_throwing_34 : decode cX3_throwing 34 = .ok (.iconst 0, 1) := by decide +kernel
theorem dX3_throwing_35 : decode cX3_throwing 35 = .ok (.putfield 52, 3) := by decide +kernel
theorem dX3_throwing_38 : decode cX3_throwing 38 = .ok (.aload_n 0, 1) := by decide +kernel
theorem dX3_throwing_39 : decode cX3_throwing 39 = .ok (.getfield 52, 3) := by decide +kernel
theorem dX3_throwing_42 : decode cX3_throwing 42 = .ok (.ifCond .le 7, 3) := by decide +kernel
theorem dX3_throwing_45 : decode cX3_throwing 45 = .ok (.iconst 1, 1) := by decide +kernel
theorem dX3_throwing_46 : decode cX3_throwing 46 = .ok (.goto 4, 3) := by decide +kernel
theorem dX3_throwing_49 : decode cX3_throwing 49 = .ok (.iconst 0, 1) := by decide +kernel
theorem dX3_throwing_50 : decode cX3_throwing 50 = .ok (.ireturn, 1) := by decide +kernel
theorem dX3_between_0 : decode cX3_between 0 = .ok (.iload_n 0, 1) := by decide +kernel
theorem dX3_between_1 : decode cX3_between 1 = .ok (.iload_n 1, 1) := by decide +kernel
theorem dX3_between_2 : decode cX3_between 2 = .ok (.if_icmp .lt 12, 3) := by decide +kernel
theorem dX3_between_5 : decode cX3_between 5 = .ok (.iload_n 0, 1) := by decide +kernel
theorem dX3_between_6 : decode cX3_between 6 = .ok (.iload_n 2, 1) := by decide +kernel
theorem dX3_between_7 : decode cX3_between 7 = .ok (.if_icmp .gt 7, 3) := by decide +kernel
theorem dX3_between_10 : decode cX3_between 10 = .ok (.iconst 1, 1) := by decide +kernel
theorem dX3_between_11 : decode cX3_between 11 = .ok (.goto 4, 3) := by decide +kernel
theorem dX3_between_14 : decode cX3_between 14 = .ok (.iconst 0, 1) := by decide +kernel
theorem dX3_between_15 : decode cX3_between 15 = .ok (.ireturn, 1) := by decide +kernel
theorem dX3_isKind_0 : decode cX3_isKind 0 = .ok (.iload_n 1, 1) := by decide +kernel
theorem dX3_isKind_1 : decode cX3_isKind 1 = .ok (.iconst 0, 1) := by decide +kernel
theorem dX3_isKind_2 : decode cX3_isKind 2 = .ok (.aload_n 0, 1) := by decide +kernel
theorem dX3_isKind_3 : decode cX3_isKind 3 = .ok (.getfield 56, 3) := by decide +kernel
theorem dX3_isKind_6 : decode cX3_isKind 6 = .ok (.iconst 1, 1) := by decide +kernel
theorem dX3_isKind_7 : decode cX3_isKind 7 = .ok (.isub, 1) := by decide +kernel
theorem dX3_isKind_8 : decode cX3_isKind 8 = .ok (.invokestatic 59, 3) := by decide +kernel
theorem dX3_isKind_11 : decode cX3_isKind 11 = .ok (.ireturn, 1) := by decide +kernel
theorem dX3_isIncident_0 : decode cX3_isIncident 0 = .ok (.iload_n 1, 1) := by decide +kernel
theorem dX3_isIncident_1 : decode cX3_isIncident 1 = .ok (.iconst 0, 1) := by decide +kernel
theorem dX3_isIncident_2 : decode cX3_isIncident 2 = .ok (.aload_n 0, 1) := by decide +kernel
theorem dX3_isIncident_3 : decode cX3_isIncident 3 = .ok (.getfield 63, 3) := by decide +kernel
theorem dX3_isIncident_6 : decode cX3_isIncident 6 = .ok (.iconst 1, 1) := by decide +kernel
theorem dX3_isIncident_7 : decode cX3_isIncident 7 = .ok (.isub, 1) := by decide +kernel
theorem dX3_isIncident_8 : decode cX3_isIncident 8 = .ok (.invokestatic 59, 3) := by decide +kernel
theorem dX3_isIncident_11 : decode cX3_isIncident 11 = .ok (.ireturn, 1) := by decide +kernel
theorem dX3_isDay_0 : decode cX3_isDay 0 = .ok (.iload_n 0, 1) := by decide +kernel
theorem dX3_isDay_1 : decode cX3_isDay 1 = .ok (.iconst 0, 1) := by decide +kernel
theorem dX3_isDay_2 : decode cX3_isDay 2 = .ok (.sipush 9999, 3) := by decide +kernel
theorem dX3_isDay_5 : decode cX3_isDay 5 = .ok (.invokestatic 59, 3) := by decide +kernel
theorem dX3_isDay_8 : decode cX3_isDay 8 = .ok (.ireturn, 1) := by decide +kernel
theorem dX3_isArea_0 : decode cX3_isArea 0 = .ok (.iload_n 0, 1) := by decide +kernel
theorem dX3_isArea_1 : decode cX3_isArea 1 = .ok (.iconst 0, 1) := by decide +kernel
theorem dX3_isArea_2 : decode cX3_isArea 2 = .ok (.bipush 9, 2) := by decide +kernel
theorem dX3_isArea_4 : decode cX3_isArea 4 = .ok (.invokestatic 59, 3) := by decide +kernel
theorem dX3_isArea_7 : decode cX3_isArea 7 = .ok (.ireturn, 1) := by decide +kernel
theorem dX3_kind_0 : decode cX3_kind 0 = .ok (.iload_n 1, 1) := by decide +kernel
theorem dX3_kind_1 : decode cX3_kind 1 = .ok (.iconst (-1), 1) := by decide +kernel
theorem dX3_kind_2 : decode cX3_kind 2 = .ok (.if_icmp .eq 15, 3) := by decide +kernel
theorem dX3_kind_5 : decode cX3_kind 5 = .ok (.aload_n 0, 1) := by decide +kernel
theorem dX3_kind_6 : decode cX3_kind 6 = .ok (.iload_n 1, 1) := by decide +kernel
theorem dX3_kind_7 : decode cX3_kind 7 = .ok (.invokevirtual 66, 3) := by decide +kernel
theorem dX3_kind_10 : decode cX3_kind 10 = .ok (.ifCond .ne 7, 3) := by decide +kernel
theorem dX3_kind_13 : decode cX3_kind 13 = .ok (.iconst 1, 1) := by decide +kernel
theorem dX3_kind_14 : decode cX3_kind 14 = .ok (.goto 4, 3) := by decide +kernel
theorem dX3_kind_17 : decode cX3_kind 17 = .ok (.iconst 0, 1) := by decide +kernel
theorem dX3_kind_18 : decode cX3_kind 18 = .ok (.istore_n 2, 1) := by decide +kernel
theorem dX3_kind_19 : decode cX3_kind 19 = .ok (.aload_n 0, 1) := by decide +kernel
theorem dX3_kind_20 : decode cX3_kind 20 = .ok (.iload_n 2, 1) := by decide +kernel
theorem dX3_kind_21 : decode cX3_kind 21 = .ok (.iload_n 2, 1) := by decide +kernel
theorem dX3_kind_22 : decode cX3_kind 22 = .ok (.ifCond .ne 16, 3) := by decide +kernel
theorem dX3_kind_25 : decode cX3_kind 25 = .ok (.aload_n 0, 1) := by decide +kernel
theorem dX3_kind_26 : decode cX3_kind 26 = .ok (.getfield 56, 3) := by decide +kernel
theorem dX3_kind_29 : decode cX3_kind 29 = .ok (.bipush 40, 2) := by decide +kernel
theorem dX3_kind_31 : decode cX3_kind 31 = .ok (.if_icmp .ne 7, 3) := by decide +kernel
theorem dX3_kind_34 : decode cX3_kind 34 = .ok (.iconst 1, 1) := by decide +kernel
theorem dX3_kind_35 : decode cX3_kind 35 = .ok (.goto 4, 3) := by decide +kernel
theorem dX3_kind_38 : decode cX3_kind 38 = .ok (.iconst 0, 1) := by decide +kernel
theorem dX3_kind_39 : decode cX3_kind 39 = .ok (.iconst 0, 1) := by decide +kernel
theorem dX3_kind_40 : decode cX3_kind 40 = .ok (.iconst 0, 1) := by decide +kernel
theorem dX3_kind_41 : decode cX3_kind 41 = .ok (.invokevirtual 70, 3) := by decide +kernel
theorem dX3_kind_44 : decode cX3_kind 44 = .ok (.ifCond .eq 5, 3) := by decide +kernel
theorem dX3_kind_47 : decode cX3_kind 47 = .ok (.iconst 0, 1) := by decide +kernel
theorem dX3_kind_48 : decode cX3_kind 48 = .ok (.ireturn, 1) := by decide +kernel
theorem dX3_kind_49 : decode cX3_kind 49 = .ok (.aload_n 0, 1) := by decide +kernel
theorem dX3_kind_50 : decode cX3_kind 50 = .ok (.getfield 7, 3) := by decide +kernel
theorem dX3_kind_53 : decode cX3_kind 53 = .ok (.aload_n 0, 1) := by decide +kernel
theorem dX3_kind_54 : decode cX3_kind 54 = .ok (.getfield 56, 3) := by decide +kernel
theorem dX3_kind_57 : decode cX3_kind 57 = .ok (.iload_n 1, 1) := by decide +kernel
theorem dX3_kind_58 : decode cX3_kind 58 = .ok (.iastore, 1) := by decide +kernel
theorem dX3_kind_59 : decode cX3_kind 59 = .ok (.aload_n 0, 1) := by decide +kernel
theorem dX3_kind_60 : decode cX3_kind 60 = .ok (.getfield 13, 3) := by decide +kernel
theorem dX3_kind_63 : decode cX3_kind 63 = .ok (.aload_n 0, 1) := by decide +kernel
theorem dX3_kind_64 : decode cX3_kind 64 = .ok (.getfield 56, 3) := by decide +kernel
theorem dX3_kind_67 : decode cX3_kind 67 = .ok (.iconst (-1), 1) := by decide +kernel
theorem dX3_kind_68 : decode cX3_kind 68 = .ok (.iastore, 1) := by decide +kernel
theorem dX3_kind_69 : decode cX3_kind 69 = .ok (.aload_n 0, 1) := by decide +kernel
theorem dX3_kind_70 : decode cX3_kind 70 = .ok (.dup, 1) := by decide +kernel
theorem dX3_kind_71 : decode cX3_kind 71 = .ok (.getfield 56, 3) := by decide +kernel
theorem dX3_kind_74 : decode cX3_kind 74 = .ok (.iconst 1, 1) := by decide +kernel
theorem dX3_kind_75 : decode cX3_kind 75 = .ok (.iadd, 1) := by decide +kernel
theorem dX3_kind_76 : decode cX3_kind 76 = .ok (.putfield 56, 3) := by decide +kernel
theorem dX3_kind_79 : decode cX3_kind 79 = .ok (.aload_n 0, 1) := by decide +kernel
theorem dX3_kind_80 : decode cX3_kind 80 = .ok (.getfield 56, 3) := by decide +kernel
theorem dX3_kind_83 : decode cX3_kind 83 = .ok (.iconst 1, 1) := by decide +kernel
theorem dX3_kind_84 : decode cX3_kind 84 = .ok (.isub, 1) := by decide +kernel
theorem dX3_kind_85 : decode cX3_kind 85 = .ok (.ireturn, 1) := by decide +kernel
theorem dX3_isAbove_0 : decode cX3_isAbove 0 = .ok (.iload_n 2, 1) := by decide +kernel
theorem dX3_isAbove_1 : decode cX3_isAbove 1 = .ok (.istore_n 3, 1) := by decide +kernel
theorem dX3_isAbove_2 : decode cX3_isAbove 2 = .ok (.iload_n 3, 1) := by decide +kernel
theorem dX3_isAbove_3 : decode cX3_isAbove 3 = .ok (.ifCond .lt 18, 3) := by decide +kernel
theorem dX3_isAbove_6 : decode cX3_isAbove 6 = .ok (.iload_n 3, 1) := by decide +kernel
theorem dX3_isAbove_7 : decode cX3_isAbove 7 = .ok (.iload_n 1, 1) := by decide +kernel
theorem dX3_isAbove_8 : decode cX3_isAbove 8 = .ok (.if_icmp .eq 13, 3) := by decide +kernel
theorem dX3_isAbove_11 : decode cX3_isAbove 11 = .ok (.aload_n 0, 1) := by decide +kernel
theorem dX3_isAbove_12 : decode cX3_isAbove 12 = .ok (.getfield 7, 3) := by decide +kernel
theorem dX3_isAbove_15 : decode cX3_isAbove 15 = .ok (.iload_n 3, 1) := by decide +kernel
theorem dX3_isAbove_16 : decode cX3_isAbove 16 = .ok (.iaload, 1) := by decide +kernel
theorem dX3_isAbove_17 : decode cX3_isAbove 17 = .ok (.istore_n 3, 1) := by decide +kernel
theorem dX3_isAbove_18 : decode cX3_isAbove 18 = .ok (.goto (-16), 3) := by decide +kernel
theorem dX3_isAbove_21 : decode cX3_isAbove 21 = .ok (.iload_n 3, 1) := by decide +kernel
theorem dX3_isAbove_22 : decode cX3_isAbove 22 = .ok (.iload_n 1, 1) := by decide +kernel
theorem dX3_isAbove_23 : decode cX3_isAbove 23 = .ok (.if_icmp .ne 7, 3) := by decide +kernel
theorem dX3_isAbove_26 : decode cX3_isAbove 26 = .ok (.iconst 1, 1) := by decide +kernel
theorem dX3_isAbove_27 : decode cX3_isAbove 27 = .ok (.goto 4, 3) := by decide +kernel
theorem dX3_isAbove_30 : decode cX3_isAbove 30 = .ok (.iconst 0, 1) := by decide +kernel
theorem dX3_isAbove_31 : decode cX3_isAbove 31 = .ok (.ireturn, 1) := by decide +kernel
theorem dX3_parent_0 : decode cX3_parent 0 = .ok (.aload_n 0, 1) := by decide +kernel
theorem dX3_parent_1 : decode cX3_parent 1 = .ok (.iload_n 1, 1) := by decide +kernel
theorem dX3_parent_2 : decode cX3_parent 2 = .ok (.invokevirtual 66, 3) := by decide +kernel
theorem dX3_parent_5 : decode cX3_parent 5 = .ok (.ifCond .eq 16, 3) := by decide +kernel
theorem dX3_parent_8 : decode cX3_parent 8 = .ok (.iload_n 2, 1) := by decide +kernel
theorem dX3_parent_9 : decode cX3_parent 9 = .ok (.iconst (-1), 1) := by decide +kernel
theorem dX3_parent_10 : decode cX3_parent 10 = .ok (.if_icmp .eq 15, 3) := by decide +kernel
theorem dX3_parent_13 : decode cX3_parent 13 = .ok (.aload_n 0, 1) := by decide +kernel
theorem dX3_parent_14 : decode cX3_parent 14 = .ok (.iload_n 2, 1) := by decide +kernel
theorem dX3_parent_15 : decode cX3_parent 15 = .ok (.invokevirtual 66, 3) := by decide +kernel
theorem dX3_parent_18 : decode cX3_parent 18 = .ok (.ifCond .ne 7, 3) := by decide +kernel
theorem dX3_parent_21 : decode cX3_parent 21 = .ok (.iconst 1, 1) := by decide +kernel
theorem dX3_parent_22 : decode cX3_parent 22 = .ok (.goto 4, 3) := by decide +kernel
theorem dX3_parent_25 : decode cX3_parent 25 = .ok (.iconst 0, 1) := by decide +kernel
theorem dX3_parent_26 : decode cX3_parent 26 = .ok (.istore_n 3, 1) := by decide +kernel
theorem dX3_parent_27 : decode cX3_parent 27 = .ok (.aload_n 0, 1) := by decide +kernel
theorem dX3_parent_28 : decode cX3_parent 28 = .ok (.iload_n 3, 1) := by decide +kernel
theorem dX3_parent_29 : decode cX3_parent 29 = .ok (.iload_n 3, 1) := by decide +kernel
theorem dX3_parent_30 : decode cX3_parent 30 = .ok (.ifCond .ne 30, 3) := by decide +kernel
theorem dX3_parent_33 : decode cX3_parent 33 = .ok (.aload_n 0, 1) := by decide +kernel
theorem dX3_parent_34 : decode cX3_parent 34 = .ok (.getfield 7, 3) := by decide +kernel
theorem dX3_parent_37 : decode cX3_parent 37 = .ok (.iload_n 1, 1) := by decide +kernel
theorem dX3_parent_38 : decode cX3_parent 38 = .ok (.iaload, 1) := by decide +kernel
theorem dX3_parent_39 : decode cX3_parent 39 = .ok (.iload_n 2, 1) := by decide +kernel
theorem dX3_parent_40 : decode cX3_parent 40 = .ok (.if_icmp .eq 16, 3) := by decide +kernel
theorem dX3_parent_43 : decode cX3_parent 43 = .ok (.iload_n 2, 1) := by decide +kernel
theorem dX3_parent_44 : decode cX3_parent 44 = .ok (.ifCond .lt 16, 3) := by decide +kernel
theorem dX3_parent_47 : decode cX3_parent 47 = .ok (.aload_n 0, 1) := by decide +kernel
theorem dX3_parent_48 : decode cX3_parent 48 = .ok (.iload_n 1, 1) := by decide +kernel
theorem dX3_parent_49 : decode cX3_parent 49 = .ok (.iload_n 2, 1) := by decide +kernel
theorem dX3_parent_50 : decode cX3_parent 50 = .ok (.invokevirtual 74, 3) := by decide +kernel
theorem dX3_parent_53 : decode cX3_parent 53 = .ok (.ifCond .eq 7, 3) := by decide +kernel
theorem dX3_parent_56 : decode cX3_parent 56 = .ok (.iconst 1, 1) := by decide +kernel
theorem dX3_parent_57 : decode cX3_parent 57 = .ok (.goto 4, 3) := by decide +kernel
theorem dX3_parent_60 : decode cX3_parent 60 = .ok (.iconst 0, 1) := by decide +kernel
theorem dX3_parent_61 : decode cX3_parent 61 = .ok (.iconst 0, 1) := by decide +kernel
theorem dX3_parent_62 : decode cX3_parent 62 = .ok (.iconst 0, 1) := by decide +kernel
theorem dX3_parent_63 : decode cX3_parent 63 = .ok (.invokevirtual 70, 3) := by decide +kernel
theorem dX3_parent_66 : decode cX3_parent 66 = .ok (.ifCond .eq 4, 3) := by decide +kernel
theorem dX3_parent_69 : decode cX3_parent 69 = .ok (.return_, 1) := by decide +kernel
theorem dX3_parent_70 : decode cX3_parent 70 = .ok (.aload_n 0, 1) := by decide +kernel
theorem dX3_parent_71 : decode cX3_parent 71 = .ok (.getfield 7, 3) := by decide +kernel
theorem dX3_parent_74 : decode cX3_parent 74 = .ok (.iload_n 1, 1) := by decide +kernel
theorem dX3_parent_75 : decode cX3_parent 75 = .ok (.iload_n 2, 1) := by decide +kernel
theorem dX3_parent_76 : decode cX3_parent 76 = .ok (.iastore, 1) := by decide +kernel
theorem dX3_parent_77 : decode cX3_parent 77 = .ok (.return_, 1) := by decide +kernel
theorem dX3_change_0 : decode cX3_change 0 = .ok (.aload_n 0, 1) := by decide +kernel
theorem dX3_change_1 : decode cX3_change 1 = .ok (.getfield 16, 3) := by decide +kernel
theorem dX3_change_4 : decode cX3_change 4 = .ok (.aload_n 0, 1) := by decide +kernel
theorem dX3_change_5 : decode cX3_change 5 = .ok (.getfield 78, 3) := by decide +kernel
theorem dX3_change_8 : decode cX3_change 8 = .ok (.iload_n 1, 1) := by decide +kernel
theorem dX3_change_9 : decode cX3_change 9 = .ok (.iastore, 1) := by decide +kernel
theorem dX3_change_10 : decode cX3_change 10 = .ok (.aload_n 0, 1) := by decide +kernel
theorem dX3_change_11 : decode cX3_change 11 = .ok (.getfield 19, 3) := by decide +kernel
theorem dX3_change_14 : decode cX3_change 14 = .ok (.aload_n 0, 1) := by decide +kernel
theorem dX3_change_15 : decode cX3_change 15 = .ok (.getfield 78, 3) := by decide +kernel
theorem dX3_change_18 : decode cX3_change 18 = .ok (.iload_n 2, 1) := by decide +kernel
theorem dX3_change_19 : decode cX3_change 19 = .ok (.iastore, 1) := by decide +kernel
theorem dX3_change_20 : decode cX3_change 20 = .ok (.aload_n 0, 1) := by decide +kernel
theorem dX3_change_21 : decode cX3_change 21 = .ok (.getfield 22, 3) := by decide +kernel
theorem dX3_change_24 : decode cX3_change 24 = .ok (.aload_n 0, 1) := by decide +kernel
theorem dX3_change_25 : decode cX3_change 25 = .ok (.getfield 78, 3) := by decide +kernel
theorem dX3_change_28 : decode cX3_change 28 = .ok (.iload_n 3, 1) := by decide +kernel
theorem dX3_change_29 : decode cX3_change 29 = .ok (.iastore, 1) := by decide +kernel
theorem dX3_change_30 : decode cX3_change 30 = .ok (.aload_n 0, 1) := by decide +kernel
theorem dX3_change_31 : decode cX3_change 31 = .ok (.getfield 25, 3) := by decide +kernel
theorem dX3_change_34 : decode cX3_change 34 = .ok (.aload_n 0, 1) := by decide +kernel
theorem dX3_change_35 : decode cX3_change 35 = .ok (.getfield 78, 3) := by decide +kernel
theorem dX3_change_38 : decode cX3_change 38 = .ok (.iload 4, 2) := by decide +kernel
theorem dX3_change_40 : decode cX3_change 40 = .ok (.iastore, 1) := by decide +kernel
theorem dX3_change_41 : decode cX3_change 41 = .ok (.aload_n 0, 1) := by decide +kernel
theorem dX3_change_42 : decode cX3_change 42 = .ok (.getfield 28, 3) := by decide +kernel
theorem dX3_change_45 : decode cX3_change 45 = .ok (.aload_n 0, 1) := by decide +kernel
theorem dX3_change_46 : decode cX3_change 46 = .ok (.getfield 78, 3) := by decide +kernel
theorem dX3_change_49 : decode cX3_change 49 = .ok (.iload 5, 2) := by decide +kernel
theorem dX3_change_51 : decode cX3_change 51 = .ok (.iastore, 1) := by decide +kernel
theorem dX3_change_52 : decode cX3_change 52 = .ok (.aload_n 0, 1) := by decide +kernel
theorem dX3_change_53 : decode cX3_change 53 = .ok (.dup, 1) := by decide +kernel
theorem dX3_change_54 : decode cX3_change 54 = .ok (.getfield 78, 3) := by decide +kernel
theorem dX3_change_57 : decode cX3_change 57 = .ok (.iconst 1, 1) := by decide +kernel
theorem dX3_change_58 : decode cX3_change 58 = .ok (.iadd, 1) := by decide +kernel
theorem dX3_change_59 : decode cX3_change 59 = .ok (.putfield 78, 3) := by decide +kernel
theorem dX3_change_62 : decode cX3_change 62 = .ok (.return_, 1) := by decide +kernel
theorem dX3_most_0 : decode cX3_most 0 = .ok (.iload_n 0, 1) := by decide +kernel
theorem dX3_most_1 : decode cX3_most 1 = .ok (.ifCond .ne 8, 3) := by decide +kernel
theorem dX3_most_4 : decode cX3_most 4 = .ok (.bipush 9, 2) := by decide +kernel
theorem dX3_most_6 : decode cX3_most 6 = .ok (.goto 14, 3) := by decide +kernel
theorem dX3_most_9 : decode cX3_most 9 = .ok (.iload_n 0, 1) := by decide +kernel
theorem dX3_most_10 : decode cX3_most 10 = .ok (.iconst 2, 1) := by decide +kernel
theorem dX3_most_11 : decode cX3_most 11 = .ok (.if_icmp .ne 7, 3) := by decide +kernel
theorem dX3_most_14 : decode cX3_most 14 = .ok (.iconst 4, 1) := by decide +kernel
theorem dX3_most_15 : decode cX3_most 15 = .ok (.goto 5, 3) := by decide +kernel
theorem dX3_most_18 : decode cX3_most 18 = .ok (.bipush 99, 2) := by decide +kernel
theorem dX3_most_20 : decode cX3_most 20 = .ok (.ireturn, 1) := by decide +kernel
theorem dX3_says_0 : decode cX3_says 0 = .ok (.aload_n 0, 1) := by decide +kernel
theorem dX3_says_1 : decode cX3_says 1 = .ok (.iload_n 1, 1) := by decide +kernel
theorem dX3_says_2 : decode cX3_says 2 = .ok (.invokevirtual 66, 3) := by decide +kernel
theorem dX3_says_5 : decode cX3_says 5 = .ok (.ifCond .eq 12, 3) := by decide +kernel
theorem dX3_says_8 : decode cX3_says 8 = .ok (.iload_n 2, 1) := by decide +kernel
theorem dX3_says_9 : decode cX3_says 9 = .ok (.iconst 0, 1) := by decide +kernel
theorem dX3_says_10 : decode cX3_says 10 = .ok (.iconst 3, 1) := by decide +kernel
theorem dX3_says_11 : decode cX3_says 11 = .ok (.invokestatic 59, 3) := by decide +kernel
theorem dX3_says_14 : decode cX3_says 14 = .ok (.ifCond .ne 7, 3) := by decide +kernel
theorem dX3_says_17 : decode cX3_says 17 = .ok (.iconst 1, 1) := by decide +kernel
theorem dX3_says_18 : decode cX3_says 18 = .ok (.goto 4, 3) := by decide +kernel
theorem dX3_says_21 : decode cX3_says 21 = .ok (.iconst 0, 1) := by decide +kernel
theorem dX3_says_22 : decode cX3_says 22 = .ok (.istore 5, 2) := by decide +kernel
theorem dX3_says_24 : decode cX3_says 24 = .ok (.iload 5, 2) := by decide +kernel
theorem dX3_says_26 : decode cX3_says 26 = .ok (.ifCond .ne 23, 3) := by decide +kernel
theorem dX3_says_29 : decode cX3_says 29 = .ok (.iload_n 3, 1) := by decide +kernel
theorem dX3_says_30 : decode cX3_says 30 = .ok (.invokestatic 81, 3) := by decide +kernel
theorem dX3_says_33 : decode cX3_says 33 = .ok (.ifCond .eq 16, 3) := by decide +kernel
theorem dX3_says_36 : decode cX3_says 36 = .ok (.iload 4, 2) := by decide +kernel
theorem dX3_says_38 : decode cX3_says 38 = .ok (.iconst (-1), 1) := by decide +kernel
theorem dX3_says_39 : decode cX3_says 39 = .ok (.iload_n 2, 1) := by decide +kernel
theorem dX3_says_40 : decode cX3_says 40 = .ok (.invokestatic 84, 3) := by decide +kernel
theorem dX3_says_43 : decode cX3_says 43 = .ok (.invokestatic 59, 3) := by decide +kernel
theorem dX3_says_46 : decode cX3_says 46 = .ok (.ifCond .ne 7, 3) := by decide +kernel
theorem dX3_says_49 : decode cX3_says 49 = .ok (.iconst 1, 1) := by decide +kernel
theorem dX3_says_50 : decode cX3_says 50 = .ok (.goto 4, 3) := by decide +kernel
theorem dX3_says_53 : decode cX3_says 53 = .ok (.iconst 0, 1) := by decide +kernel
theorem dX3_says_54 : decode cX3_says 54 = .ok (.istore 6, 2) := by decide +kernel
theorem dX3_says_56 : decode cX3_says 56 = .ok (.aload_n 0, 1) := by decide +kernel
theorem dX3_says_57 : decode cX3_says 57 = .ok (.iload 5, 2) := by decide +kernel
theorem dX3_says_59 : decode cX3_says 59 = .ok (.iload 6, 2) := by decide +kernel
theorem dX3_says_61 : decode cX3_says 61 = .ok (.aload_n 0, 1) := by decide +kernel
theorem dX3_says_62 : decode cX3_says 62 = .ok (.getfield 78, 3) := by decide +kernel
theorem dX3_says_65 : decode cX3_says 65 = .ok (.sipush 200, 3) := by decide +kernel
theorem dX3_says_68 : decode cX3_says 68 = .ok (.if_icmp .ne 7, 3) := by decide +kernel
theorem dX3_says_71 : decode cX3_says 71 = .ok (.iconst 1, 1) := by decide +kernel
theorem dX3_says_72 : decode cX3_says 72 = .ok (.goto 4, 3) := by decide +kernel
theorem dX3_says_75 : decode cX3_says 75 = .ok (.iconst 0, 1) := by decide +kernel
theorem dX3_says_76 : decode cX3_says 76 = .ok (.iconst 0, 1) := by decide +kernel
theorem dX3_says_77 : decode cX3_says 77 = .ok (.invokevirtual 70, 3) := by decide +kernel
theorem dX3_says_80 : decode cX3_says 80 = .ok (.ifCond .eq 4, 3) := by decide +kernel
theorem dX3_says_83 : decode cX3_says 83 = .ok (.return_, 1) := by decide +kernel
theorem dX3_says_84 : decode cX3_says 84 = .ok (.aload_n 0, 1) := by decide +kernel
theorem dX3_says_85 : decode cX3_says 85 = .ok (.iload_n 1, 1) := by decide +kernel
theorem dX3_says_86 : decode cX3_says 86 = .ok (.iload_n 2, 1) := by decide +kernel
theorem dX3_says_87 : decode cX3_says 87 = .ok (.iload_n 3, 1) := by decide +kernel
theorem dX3_says_88 : decode cX3_says 88 = .ok (.iload 4, 2) := by decide +kernel
theorem dX3_says_90 : decode cX3_says 90 = .ok (.iload 4, 2) := by decide +kernel
theorem dX3_says_92 : decode cX3_says 92 = .ok (.ifCond .ge 7, 3) := by decide +kernel
theorem dX3_says_95 : decode cX3_says 95 = .ok (.iconst 0, 1) := by decide +kernel
theorem dX3_says_96 : decode cX3_says 96 = .ok (.goto 4, 3) := by decide +kernel
theorem dX3_says_99 : decode cX3_says 99 = .ok (.iconst 1, 1) := by decide +kernel
theorem dX3_says_100 : decode cX3_says 100 = .ok (.invokevirtual 88, 3) := by decide +kernel
theorem dX3_says_103 : decode cX3_says 103 = .ok (.return_, 1) := by decide +kernel
theorem dX3_need_0 : decode cX3_need 0 = .ok (.aload_n 0, 1) := by decide +kernel
theorem dX3_need_1 : decode cX3_need 1 = .ok (.iload_n 1, 1) := by decide +kernel
theorem dX3_need_2 : decode cX3_need 2 = .ok (.invokevirtual 66, 3) := by decide +kernel
theorem dX3_need_5 : decode cX3_need 5 = .ok (.ifCond .eq 13, 3) := by decide +kernel
theorem dX3_need_8 : decode cX3_need 8 = .ok (.iload_n 2, 1) := by decide +kernel
theorem dX3_need_9 : decode cX3_need 9 = .ok (.iconst 0, 1) := by decide +kernel
theorem dX3_need_10 : decode cX3_need 10 = .ok (.bipush 15, 2) := by decide +kernel
theorem dX3_need_12 : decode cX3_need 12 = .ok (.invokestatic 59, 3) := by decide +kernel
theorem dX3_need_15 : decode cX3_need 15 = .ok (.ifCond .ne 7, 3) := by decide +kernel
theorem dX3_need_18 : decode cX3_need 18 = .ok (.iconst 1, 1) := by decide +kernel
theorem dX3_need_19 : decode cX3_need 19 = .ok (.goto 4, 3) := by decide +kernel
theorem dX3_need_22 : decode cX3_need 22 = .ok (.iconst 0, 1) := by decide +kernel
theorem dX3_need_23 : decode cX3_need 23 = .ok (.istore 6, 2) := by decide +kernel
theorem dX3_need_25 : decode cX3_need 25 = .ok (.iload_n 3, 1) := by decide +kernel
theorem dX3_need_26 : decode cX3_need 26 = .ok (.invokestatic 81, 3) := by decide +kernel
theorem dX3_need_29 : decode cX3_need 29 = .ok (.ifCond .eq 24, 3) := by decide +kernel
theorem dX3_need_32 : decode cX3_need 32 = .ok (.iload 4, 2) := by decide +kernel
theorem dX3_need_34 : decode cX3_need 34 = .ok (.iconst 0, 1) := by decide +kernel
theorem dX3_need_35 : decode cX3_need 35 = .ok (.iconst 2, 1) := by decide +kernel
theorem dX3_need_36 : decode cX3_need 36 = .ok (.invokestatic 59, 3) := by decide +kernel
theorem dX3_need_39 : decode cX3_need 39 = .ok (.ifCond .eq 14, 3) := by decide +kernel
theorem dX3_need_42 : decode cX3_need 42 = .ok (.iload 5, 2) := by decide +kernel
theorem dX3_need_44 : decode cX3_need 44 = .ok (.iconst 0, 1) := by decide +kernel
theorem dX3_need_45 : decode cX3_need 45 = .ok (.bipush 20, 2) := by decide +kernel
theorem dX3_need_47 : decode cX3_need 47 = .ok (.invokestatic 59, 3) := by decide +kernel
theorem dX3_need_50 : decode cX3_need 50 = .ok (.ifCond .ne 7, 3) := by decide +kernel
theorem dX3_need_53 : decode cX3_need 53 = .ok (.iconst 1, 1) := by decide +kernel
theorem dX3_need_54 : decode cX3_need 54 = .ok (.goto 4, 3) := by decide +kernel
theorem dX3_need_57 : decode cX3_need 57 = .ok (.iconst 0, 1) := by decide +kernel
theorem dX3_need_58 : decode cX3_need 58 = .ok (.istore 7, 2) := by decide +kernel
theorem dX3_need_60 : decode cX3_need 60 = .ok (.aload_n 0, 1) := by decide +kernel
theorem dX3_need_61 : decode cX3_need 61 = .ok (.iload 6, 2) := by decide +kernel
theorem dX3_need_63 : decode cX3_need 63 = .ok (.iload 7, 2) := by decide +kernel
theorem dX3_need_65 : decode cX3_need 65 = .ok (.aload_n 0, 1) := by decide +kernel
theorem dX3_need_66 : decode cX3_need 66 = .ok (.getfield 78, 3) := by decide +kernel
theorem dX3_need_69 : decode cX3_need 69 = .ok (.sipush 200, 3) := by decide +kernel
theorem dX3_need_72 : decode cX3_need 72 = .ok (.if_icmp .ne 7, 3) := by decide +kernel
theorem dX3_need_75 : decode cX3_need 75 = .ok (.iconst 1, 1) := by decide +kernel
theorem dX3_need_76 : decode cX3_need 76 = .ok (.goto 4, 3) := by decide +kernel
theorem dX3_need_79 : decode cX3_need 79 = .ok (.iconst 0, 1) := by decide +kernel
theorem dX3_need_80 : decode cX3_need 80 = .ok (.iconst 0, 1) := by decide +kernel
theorem dX3_need_81 : decode cX3_need 81 = .ok (.invokevirtual 70, 3) := by decide +kernel
theorem dX3_need_84 : decode cX3_need 84 = .ok (.ifCond .eq 4, 3) := by decide +kernel
theorem dX3_need_87 : decode cX3_need 87 = .ok (.return_, 1) := by decide +kernel
theorem dX3_need_88 : decode cX3_need 88 = .ok (.aload_n 0, 1) := by decide +kernel
theorem dX3_need_89 : decode cX3_need 89 = .ok (.iload_n 1, 1) := by decide +kernel
theorem dX3_need_90 : decode cX3_need 90 = .ok (.bipush 10, 2) := by decide +kernel
theorem dX3_need_92 : decode cX3_need 92 = .ok (.iload_n 2, 1) := by decide +kernel
theorem dX3_need_93 : decode cX3_need 93 = .ok (.iadd, 1) := by decide +kernel
theorem dX3_need_94 : decode cX3_need 94 = .ok (.iload_n 3, 1) := by decide +kernel
theorem dX3_need_95 : decode cX3_need 95 = .ok (.iload 5, 2) := by decide +kernel
theorem dX3_need_97 : decode cX3_need 97 = .ok (.iload 4, 2) := by decide +kernel
theorem dX3_need_99 : decode cX3_need 99 = .ok (.invokevirtual 88, 3) := by decide +kernel
theorem dX3_need_102 : decode cX3_need 102 = .ok (.return_, 1) := by decide +kernel
theorem dX3_close_0 : decode cX3_close 0 = .ok (.aload_n 0, 1) := by decide +kernel
theorem dX3_close_1 : decode cX3_close 1 = .ok (.aload_n 0, 1) := by decide +kernel
theorem dX3_close_2 : decode cX3_close 2 = .ok (.iload_n 1, 1) := by decide +kernel
theorem dX3_close_3 : decode cX3_close 3 = .ok (.invokevirtual 66, 3) := by decide +kernel
theorem dX3_close_6 : decode cX3_close 6 = .ok (.ifCond .ne 7, 3) := by decide +kernel
theorem dX3_close_9 : decode cX3_close 9 = .ok (.iconst 1, 1) := by decide +kernel
theorem dX3_close_10 : decode cX3_close 10 = .ok (.goto 4, 3) := by decide +kernel
theorem dX3_close_13 : decode cX3_close 13 = .ok (.iconst 0, 1) := by decide +kernel
theorem dX3_close_14 : decode cX3_close 14 = .ok (.iload_n 2, 1) := by decide +kernel
theorem dX3_close_15 : decode cX3_close 15 = .ok (.iconst (-1), 1) := by decide +kernel
theorem dX3_close_16 : decode cX3_close 16 = .ok (.sipush 9999, 3) := by decide +kernel
theorem dX3_close_19 : decode cX3_close 19 = .ok (.invokestatic 59, 3) := by decide +kernel
theorem dX3_close_22 : decode cX3_close 22 = .ok (.ifCond .ne 7, 3) := by decide +kernel
theorem dX3_close_25 : decode cX3_close 25 = .ok (.iconst 1, 1) := by decide +kernel
theorem dX3_close_26 : decode cX3_close 26 = .ok (.goto 4, 3) := by decide +kernel
theorem dX3_close_29 : decode cX3_close 29 = .ok (.iconst 0, 1) := by decide +kernel
theorem dX3_close_30 : decode cX3_close 30 = .ok (.iconst 0, 1) := by decide +kernel
theorem dX3_close_31 : decode cX3_close 31 = .ok (.iconst 0, 1) := by decide +kernel
theorem dX3_close_32 : decode cX3_close 32 = .ok (.invokevirtual 70, 3) := by decide +kernel
theorem dX3_close_35 : decode cX3_close 35 = .ok (.ifCond .eq 4, 3) := by decide +kernel
theorem dX3_close_38 : decode cX3_close 38 = .ok (.return_, 1) := by decide +kernel
theorem dX3_close_39 : decode cX3_close 39 = .ok (.aload_n 0, 1) := by decide +kernel
theorem dX3_close_40 : decode cX3_close 40 = .ok (.getfield 13, 3) := by decide +kernel
theorem dX3_close_43 : decode cX3_close 43 = .ok (.iload_n 1, 1) := by decide +kernel
theorem dX3_close_44 : decode cX3_close 44 = .ok (.iload_n 2, 1) := by decide +kernel
theorem dX3_close_45 : decode cX3_close 45 = .ok (.iastore, 1) := by decide +kernel
theorem dX3_close_46 : decode cX3_close 46 = .ok (.return_, 1) := by decide +kernel
theorem dX3_counting_0 : decode cX3_counting 0 = .ok (.iconst (-1), 1) := by decide +kernel
theorem dX3_counting_1 : decode cX3_counting 1 = .ok (.istore 4, 2) := by decide +kernel
theorem dX3_counting_3 : decode cX3_counting 3 = .ok (.iconst 0, 1) := by decide +kernel
theorem dX3_counting_4 : decode cX3_counting 4 = .ok (.istore 5, 2) := by decide +kernel
theorem dX3_counting_6 : decode cX3_counting 6 = .ok (.iload 5, 2) := by decide +kernel
theorem dX3_counting_8 : decode cX3_counting 8 = .ok (.aload_n 0, 1) := by decide +kernel
theorem dX3_counting_9 : decode cX3_counting 9 = .ok (.getfield 78, 3) := by decide +kernel
theorem dX3_counting_12 : decode cX3_counting 12 = .ok (.if_icmp .ge 80, 3) := by decide +kernel
theorem dX3_counting_15 : decode cX3_counting 15 = .ok (.aload_n 0, 1) := by decide +kernel
theorem dX3_counting_16 : decode cX3_counting 16 = .ok (.getfield 16, 3) := by decide +kernel
theorem dX3_counting_19 : decode cX3_counting 19 = .ok (.iload 5, 2) := by decide +kernel
theorem dX3_counting_21 : decode cX3_counting 21 = .ok (.iaload, 1) := by decide +kernel
theorem dX3_counting_22 : decode cX3_counting 22 = .ok (.iload_n 1, 1) := by decide +kernel
theorem dX3_counting_23 : decode cX3_counting 23 = .ok (.if_icmp .ne 29, 3) := by decide +kernel
theorem dX3_counting_26 : decode cX3_counting 26 = .ok (.aload_n 0, 1) := by decide +kernel
theorem dX3_counting_27 : decode cX3_counting 27 = .ok (.getfield 19, 3) := by decide +kernel
theorem dX3_counting_30 : decode cX3_counting 30 = .ok (.iload 5, 2) := by decide +kernel
theorem dX3_counting_32 : decode cX3_counting 32 = .ok (.iaload, 1) := by decide +kernel
theorem dX3_counting_33 : decode cX3_counting 33 = .ok (.iload_n 2, 1) := by decide +kernel
theorem dX3_counting_34 : decode cX3_counting 34 = .ok (.if_icmp .ne 18, 3) := by decide +kernel
theorem dX3_counting_37 : decode cX3_counting 37 = .ok (.aload_n 0, 1) := by decide +kernel
theorem dX3_counting_38 : decode cX3_counting 38 = .ok (.getfield 22, 3) := by decide +kernel
theorem dX3_counting_41 : decode cX3_counting 41 = .ok (.iload 5, 2) := by decide +kernel
theorem dX3_counting_43 : decode cX3_counting 43 = .ok (.iaload, 1) := by decide +kernel
theorem dX3_counting_44 : decode cX3_counting 44 = .ok (.iload_n 3, 1) := by decide +kernel
theorem dX3_counting_45 : decode cX3_counting 45 = .ok (.if_icmp .gt 7, 3) := by decide +kernel
theorem dX3_counting_48 : decode cX3_counting 48 = .ok (.iconst 1, 1) := by decide +kernel
theorem dX3_counting_49 : decode cX3_counting 49 = .ok (.goto 4, 3) := by decide +kernel
theorem dX3_counting_52 : decode cX3_counting 52 = .ok (.iconst 0, 1) := by decide +kernel
theorem dX3_counting_53 : decode cX3_counting 53 = .ok (.istore 6, 2) := by decide +kernel
theorem dX3_counting_55 : decode cX3_counting 55 = .ok (.iload 6, 2) := by decide +kernel
theorem dX3_counting_57 : decode cX3_counting 57 = .ok (.ifCond .eq 29, 3) := by decide +kernel
theorem dX3_counting_60 : decode cX3_counting 60 = .ok (.iload 4, 2) := by decide +kernel
theorem dX3_counting_62 : decode cX3_counting 62 = .ok (.ifCond .lt 20, 3) := by decide +kernel
theorem dX3_counting_65 : decode cX3_counting 65 = .ok (.aload_n 0, 1) := by decide +kernel
theorem dX3_counting_66 : decode cX3_counting 66 = .ok (.getfield 22, 3) := by decide +kernel
theorem dX3_counting_69 : decode cX3_counting 69 = .ok (.iload 5, 2) := by decide +kernel
theorem dX3_counting_71 : decode cX3_counting 71 = .ok (.iaload, 1) := by decide +kernel
theorem dX3_counting_72 : decode cX3_counting 72 = .ok (.aload_n 0, 1) := by decide +kernel
theorem dX3_counting_73 : decode cX3_counting 73 = .ok (.getfield 22, 3) := by decide +kernel
theorem dX3_counting_76 : decode cX3_counting 76 = .ok (.iload 4, 2) := by decide +kernel
theorem dX3_counting_78 : decode cX3_counting 78 = .ok (.iaload, 1) := by decide +kernel
theorem dX3_counting_79 : decode cX3_counting 79 = .ok (.if_icmp .lt 7, 3) := by decide +kernel
theorem dX3_counting_82 : decode cX3_counting 82 = .ok (.iload 5, 2) := by decide +kernel
theorem dX3_counting_84 : decode cX3_counting 84 = .ok (.istore 4, 2) := by decide +kernel
theorem dX3_counting_86 : decode cX3_counting 86 = .ok (.iinc 5 1, 3) := by decide +kernel
theorem dX3_counting_89 : decode cX3_counting 89 = .ok (.goto (-83), 3) := by decide +kernel
theorem dX3_counting_92 : decode cX3_counting 92 = .ok (.iload 4, 2) := by decide +kernel
theorem dX3_counting_94 : decode cX3_counting 94 = .ok (.ireturn, 1) := by decide +kernel
theorem dX3_told_0 : decode cX3_told 0 = .ok (.iload_n 1, 1) := by decide +kernel
theorem dX3_told_1 : decode cX3_told 1 = .ok (.istore 4, 2) := by decide +kernel
theorem dX3_told_3 : decode cX3_told 3 = .ok (.iload 4, 2) := by decide +kernel
theorem dX3_told_5 : decode cX3_told 5 = .ok (.ifCond .lt 48, 3) := by decide +kernel
theorem dX3_told_8 : decode cX3_told 8 = .ok (.aload_n 0, 1) := by decide +kernel
theorem dX3_told_9 : decode cX3_told 9 = .ok (.iload 4, 2) := by decide +kernel
theorem dX3_told_11 : decode cX3_told 11 = .ok (.iload_n 2, 1) := by decide +kernel
theorem dX3_told_12 : decode cX3_told 12 = .ok (.iload_n 3, 1) := by decide +kernel
theorem dX3_told_13 : decode cX3_told 13 = .ok (.invokevirtual 92, 3) := by decide +kernel
theorem dX3_told_16 : decode cX3_told 16 = .ok (.istore 5, 2) := by decide +kernel
theorem dX3_told_18 : decode cX3_told 18 = .ok (.iload 5, 2) := by decide +kernel
theorem dX3_told_20 : decode cX3_told 20 = .ok (.ifCond .lt 21, 3) := by decide +kernel
theorem dX3_told_23 : decode cX3_told 23 = .ok (.aload_n 0, 1) := by decide +kernel
theorem dX3_told_24 : decode cX3_told 24 = .ok (.getfield 28, 3) := by decide +kernel
theorem dX3_told_27 : decode cX3_told 27 = .ok (.iload 5, 2) := by decide +kernel
theorem dX3_told_29 : decode cX3_told 29 = .ok (.iaload, 1) := by decide +kernel
theorem dX3_told_30 : decode cX3_told 30 = .ok (.ifCond .le 11, 3) := by decide +kernel
theorem dX3_told_33 : decode cX3_told 33 = .ok (.aload_n 0, 1) := by decide +kernel
theorem dX3_told_34 : decode cX3_told 34 = .ok (.getfield 25, 3) := by decide +kernel
theorem dX3_told_37 : decode cX3_told 37 = .ok (.iload 5, 2) := by decide +kernel
theorem dX3_told_39 : decode cX3_told 39 = .ok (.iaload, 1) := by decide +kernel
theorem dX3_told_40 : decode cX3_told 40 = .ok (.ireturn, 1) := by decide +kernel
theorem dX3_told_41 : decode cX3_told 41 = .ok (.aload_n 0, 1) := by decide +kernel
theorem dX3_told_42 : decode cX3_told 42 = .ok (.getfield 7, 3) := by decide +kernel
theorem dX3_told_45 : decode cX3_told 45 = .ok (.iload 4, 2) := by decide +kernel
theorem dX3_told_47 : decode cX3_told 47 = .ok (.iaload, 1) := by decide +kernel
theorem dX3_told_48 : decode cX3_told 48 = .ok (.istore 4, 2) := by decide +kernel
theorem dX3_told_50 : decode cX3_told 50 = .ok (.goto (-47), 3) := by decide +kernel
theorem dX3_told_53 : decode cX3_told 53 = .ok (.iload_n 2, 1) := by decide +kernel
theorem dX3_told_54 : decode cX3_told 54 = .ok (.ifCond .ne 8, 3) := by decide +kernel
theorem dX3_told_57 : decode cX3_told 57 = .ok (.bipush 9, 2) := by decide +kernel
theorem dX3_told_59 : decode cX3_told 59 = .ok (.goto 4, 3) := by decide +kernel
theorem dX3_told_62 : decode cX3_told 62 = .ok (.iconst 0, 1) := by decide +kernel
theorem dX3_told_63 : decode cX3_told 63 = .ok (.ireturn, 1) := by decide +kernel
theorem dX3_needs_0 : decode cX3_needs 0 = .ok (.iconst 0, 1) := by decide +kernel
theorem dX3_needs_1 : decode cX3_needs 1 = .ok (.istore 4, 2) := by decide +kernel
theorem dX3_needs_3 : decode cX3_needs 3 = .ok (.iload_n 1, 1) := by decide +kernel
theorem dX3_needs_4 : decode cX3_needs 4 = .ok (.istore 5, 2) := by decide +kernel
theorem dX3_needs_6 : decode cX3_needs 6 = .ok (.iload 5, 2) := by decide +kernel
theorem dX3_needs_8 : decode cX3_needs 8 = .ok (.ifCond .lt 86, 3) := by decide +kernel
theorem dX3_needs_11 : decode cX3_needs 11 = .ok (.aload_n 0, 1) := by decide +kernel
theorem dX3_needs_12 : decode cX3_needs 12 = .ok (.iload 5, 2) := by decide +kernel
theorem dX3_needs_14 : decode cX3_needs 14 = .ok (.bipush 10, 2) := by decide +kernel
theorem dX3_needs_16 : decode cX3_needs 16 = .ok (.iload_n 2, 1) := by decide +kernel
theorem dX3_needs_17 : decode cX3_needs 17 = .ok (.iadd, 1) := by decide +kernel
theorem dX3_needs_18 : decode cX3_needs 18 = .ok (.iload_n 3, 1) := by decide +kernel
theorem dX3_needs_19 : decode cX3_needs 19 = .ok (.invokevirtual 92, 3) := by decide +kernel
theorem dX3_needs_22 : decode cX3_needs 22 = .ok (.istore 6, 2) := by decide +kernel
theorem dX3_needs_24 : decode cX3_needs 24 = .ok (.iload 6, 2) := by decide +kernel
theorem dX3_needs_26 : decode cX3_needs 26 = .ok (.ifCond .ge 7, 3) := by decide +kernel
theorem dX3_needs_29 : decode cX3_needs 29 = .ok (.iconst 0, 1) := by decide +kernel
theorem dX3_needs_30 : decode cX3_needs 30 = .ok (.goto 10, 3) := by decide +kernel
theorem dX3_needs_33 : decode cX3_needs 33 = .ok (.aload_n 0, 1) := by decide +kernel
theorem dX3_needs_34 : decode cX3_needs 34 = .ok (.getfield 28, 3) := by decide +kernel
theorem dX3_needs_37 : decode cX3_needs 37 = .ok (.iload 6, 2) := by decide +kernel
theorem dX3_needs_39 : decode cX3_needs 39 = .ok (.iaload, 1) := by decide +kernel
theorem dX3_needs_40 : decode cX3_needs 40 = .ok (.istore 7, 2) := by decide +kernel
theorem dX3_needs_42 : decode cX3_needs 42 = .ok (.iload 7, 2) := by decide +kernel
theorem dX3_needs_44 : decode cX3_needs 44 = .ok (.ifCond .le 29, 3) := by decide +kernel
theorem dX3_needs_47 : decode cX3_needs 47 = .ok (.iload 4, 2) := by decide +kernel
theorem dX3_needs_49 : decode cX3_needs 49 = .ok (.aload_n 0, 1) := by decide +kernel
theorem dX3_needs_50 : decode cX3_needs 50 = .ok (.getfield 25, 3) := by decide +kernel
theorem dX3_needs_53 : decode cX3_needs 53 = .ok (.iload 6, 2) := by decide +kernel
theorem dX3_needs_55 : decode cX3_needs 55 = .ok (.iaload, 1) := by decide +kernel
theorem dX3_needs_56 : decode cX3_needs 56 = .ok (.if_icmp .le 8, 3) := by decide +kernel
theorem dX3_needs_59 : decode cX3_needs 59 = .ok (.iload 4, 2) := by decide +kernel
theorem dX3_needs_61 : decode cX3_needs 61 = .ok (.goto 10, 3) := by decide +kernel
theorem dX3_needs_64 : decode cX3_needs 64 = .ok (.aload_n 0, 1) := by decide +kernel
theorem dX3_needs_65 : decode cX3_needs 65 = .ok (.getfield 25, 3) := by decide +kernel
theorem dX3_needs_68 : decode cX3_needs 68 = .ok (.iload 6, 2) := by decide +kernel
theorem dX3_needs_70 : decode cX3_needs 70 = .ok (.iaload, 1) := by decide +kernel
theorem dX3_needs_71 : decode cX3_needs 71 = .ok (.istore 4, 2) := by decide +kernel
theorem dX3_needs_73 : decode cX3_needs 73 = .ok (.iload 7, 2) := by decide +kernel
theorem dX3_needs_75 : decode cX3_needs 75 = .ok (.iconst 1, 1) := by decide +kernel
theorem dX3_needs_76 : decode cX3_needs 76 = .ok (.if_icmp .ne 6, 3) := by decide +kernel
theorem dX3_needs_79 : decode cX3_needs 79 = .ok (.iload 4, 2) := by decide +kernel
theorem dX3_needs_81 : decode cX3_needs 81 = .ok (.ireturn, 1) := by decide +kernel
theorem dX3_needs_82 : decode cX3_needs 82 = .ok (.aload_n 0, 1) := by decide +kernel
theorem dX3_needs_83 : decode cX3_needs 83 = .ok (.getfield 7, 3) := by decide +kernel
theorem dX3_needs_86 : decode cX3_needs 86 = .ok (.iload 5, 2) := by decide +kernel
theorem dX3_needs_88 : decode cX3_needs 88 = .ok (.iaload, 1) := by decide +kernel
theorem dX3_needs_89 : decode cX3_needs 89 = .ok (.istore 5, 2) := by decide +kernel
theorem dX3_needs_91 : decode cX3_needs 91 = .ok (.goto (-85), 3) := by decide +kernel
theorem dX3_needs_94 : decode cX3_needs 94 = .ok (.iload 4, 2) := by decide +kernel
theorem dX3_needs_96 : decode cX3_needs 96 = .ok (.ireturn, 1) := by decide +kernel
theorem dX3_isClosed_0 : decode cX3_isClosed 0 = .ok (.iconst 0, 1) := by decide +kernel
theorem dX3_isClosed_1 : decode cX3_isClosed 1 = .ok (.istore_n 3, 1) := by decide +kernel
theorem dX3_isClosed_2 : decode cX3_isClosed 2 = .ok (.iload_n 1, 1) := by decide +kernel
theorem dX3_isClosed_3 : decode cX3_isClosed 3 = .ok (.istore 4, 2) := by decide +kernel
theorem dX3_isClosed_5 : decode cX3_isClosed 5 = .ok (.iload 4, 2) := by decide +kernel
theorem dX3_isClosed_7 : decode cX3_isClosed 7 = .ok (.ifCond .lt 46, 3) := by decide +kernel
theorem dX3_isClosed_10 : decode cX3_isClosed 10 = .ok (.iload_n 3, 1) := by decide +kernel
theorem dX3_isClosed_11 : decode cX3_isClosed 11 = .ok (.ifCond .ne 24, 3) := by decide +kernel
theorem dX3_isClosed_14 : decode cX3_isClosed 14 = .ok (.aload_n 0, 1) := by decide +kernel
theorem dX3_isClosed_15 : decode cX3_isClosed 15 = .ok (.getfield 13, 3) := by decide +kernel
theorem dX3_isClosed_18 : decode cX3_isClosed 18 = .ok (.iload 4, 2) := by decide +kernel
theorem dX3_isClosed_20 : decode cX3_isClosed 20 = .ok (.iaload, 1) := by decide +kernel
theorem dX3_isClosed_21 : decode cX3_isClosed 21 = .ok (.ifCond .lt 18, 3) := by decide +kernel
theorem dX3_isClosed_24 : decode cX3_isClosed 24 = .ok (.aload_n 0, 1) := by decide +kernel
theorem dX3_isClosed_25 : decode cX3_isClosed 25 = .ok (.getfield 13, 3) := by decide +kernel
theorem dX3_isClosed_28 : decode cX3_isClosed 28 = .ok (.iload 4, 2) := by decide +kernel
theorem dX3_isClosed_30 : decode cX3_isClosed 30 = .ok (.iaload, 1) := by decide +kernel
theorem dX3_isClosed_31 : decode cX3_isClosed 31 = .ok (.iload_n 2, 1) := by decide +kernel
theorem dX3_isClosed_32 : decode cX3_isClosed 32 = .ok (.if_icmp .gt 7, 3) := by decide +kernel
theorem dX3_isClosed_35 : decode cX3_isClosed 35 = .ok (.iconst 1, 1) := by decide +kernel
theorem dX3_isClosed_36 : decode cX3_isClosed 36 = .ok (.goto 4, 3) := by decide +kernel
theorem dX3_isClosed_39 : decode cX3_isClosed 39 = .ok (.iconst 0, 1) := by decide +kernel
theorem dX3_isClosed_40 : decode cX3_isClosed 40 = .ok (.istore_n 3, 1) := by decide +kernel
theorem dX3_isClosed_41 : decode cX3_isClosed 41 = .ok (.aload_n 0, 1) := by decide +kernel
theorem dX3_isClosed_42 : decode cX3_isClosed 42 = .ok (.getfield 7, 3) := by decide +kernel
theorem dX3_isClosed_45 : decode cX3_isClosed 45 = .ok (.iload 4, 2) := by decide +kernel
theorem dX3_isClosed_47 : decode cX3_isClosed 47 = .ok (.iaload, 1) := by decide +kernel
theorem dX3_isClosed_48 : decode cX3_isClosed 48 = .ok (.istore 4, 2) := by decide +kernel
theorem dX3_isClosed_50 : decode cX3_isClosed 50 = .ok (.goto (-45), 3) := by decide +kernel
theorem dX3_isClosed_53 : decode cX3_isClosed 53 = .ok (.iload_n 3, 1) := by decide +kernel
theorem dX3_isClosed_54 : decode cX3_isClosed 54 = .ok (.ireturn, 1) := by decide +kernel
theorem dX3_depth_0 : decode cX3_depth 0 = .ok (.iconst 0, 1) := by decide +kernel
theorem dX3_depth_1 : decode cX3_depth 1 = .ok (.istore_n 2, 1) := by decide +kernel
theorem dX3_depth_2 : decode cX3_depth 2 = .ok (.aload_n 0, 1) := by decide +kernel
theorem dX3_depth_3 : decode cX3_depth 3 = .ok (.getfield 7, 3) := by decide +kernel
theorem dX3_depth_6 : decode cX3_depth 6 = .ok (.iload_n 1, 1) := by decide +kernel
theorem dX3_depth_7 : decode cX3_depth 7 = .ok (.iaload, 1) := by decide +kernel
theorem dX3_depth_8 : decode cX3_depth 8 = .ok (.istore_n 3, 1) := by decide +kernel
theorem dX3_depth_9 : decode cX3_depth 9 = .ok (.iload_n 3, 1) := by decide +kernel
theorem dX3_depth_10 : decode cX3_depth 10 = .ok (.ifCond .lt 16, 3) := by decide +kernel
theorem dX3_depth_13 : decode cX3_depth 13 = .ok (.iinc 2 1, 3) := by decide +kernel
theorem dX3_depth_16 : decode cX3_depth 16 = .ok (.aload_n 0, 1) := by decide +kernel
theorem dX3_depth_17 : decode cX3_depth 17 = .ok (.getfield 7, 3) := by decide +kernel
theorem dX3_depth_20 : decode cX3_depth 20 = .ok (.iload_n 3, 1) := by decide +kernel
theorem dX3_depth_21 : decode cX3_depth 21 = .ok (.iaload, 1) := by decide +kernel
theorem dX3_depth_22 : decode cX3_depth 22 = .ok (.istore_n 3, 1) := by decide +kernel
theorem dX3_depth_23 : decode cX3_depth 23 = .ok (.goto (-14), 3) := by decide +kernel
theorem dX3_depth_26 : decode cX3_depth 26 = .ok (.iload_n 2, 1) := by decide +kernel
theorem dX3_depth_27 : decode cX3_depth 27 = .ok (.ireturn, 1) := by decide +kernel
theorem dX3_has_0 : decode cX3_has 0 = .ok (.aload_n 0, 1) := by decide +kernel
theorem dX3_has_1 : decode cX3_has 1 = .ok (.aload_n 0, 1) := by decide +kernel
theorem dX3_has_2 : decode cX3_has 2 = .ok (.iload_n 1, 1) := by decide +kernel
theorem dX3_has_3 : decode cX3_has 3 = .ok (.invokevirtual 66, 3) := by decide +kernel
theorem dX3_has_6 : decode cX3_has 6 = .ok (.ifCond .eq 23, 3) := by decide +kernel
theorem dX3_has_9 : decode cX3_has 9 = .ok (.iload_n 2, 1) := by decide +kernel
theorem dX3_has_10 : decode cX3_has 10 = .ok (.iconst 0, 1) := by decide +kernel
theorem dX3_has_11 : decode cX3_has 11 = .ok (.iconst 5, 1) := by decide +kernel
theorem dX3_has_12 : decode cX3_has 12 = .ok (.invokestatic 59, 3) := by decide +kernel
theorem dX3_has_15 : decode cX3_has 15 = .ok (.ifCond .ne 18, 3) := by decide +kernel
theorem dX3_has_18 : decode cX3_has 18 = .ok (.iload_n 2, 1) := by decide +kernel
theorem dX3_has_19 : decode cX3_has 19 = .ok (.bipush 10, 2) := by decide +kernel
theorem dX3_has_21 : decode cX3_has 21 = .ok (.bipush 25, 2) := by decide +kernel
theorem dX3_has_23 : decode cX3_has 23 = .ok (.invokestatic 59, 3) := by decide +kernel
theorem dX3_has_26 : decode cX3_has 26 = .ok (.ifCond .ne 7, 3) := by decide +kernel
theorem dX3_has_29 : decode cX3_has 29 = .ok (.iconst 1, 1) := by decide +kernel
theorem dX3_has_30 : decode cX3_has 30 = .ok (.goto 4, 3) := by decide +kernel
theorem dX3_has_33 : decode cX3_has 33 = .ok (.iconst 0, 1) := by decide +kernel
theorem dX3_has_34 : decode cX3_has 34 = .ok (.iload_n 3, 1) := by decide +kernel
theorem dX3_has_35 : decode cX3_has 35 = .ok (.invokestatic 81, 3) := by decide +kernel
theorem dX3_has_38 : decode cX3_has 38 = .ok (.ifCond .ne 7, 3) := by decide +kernel
theorem dX3_has_41 : decode cX3_has 41 = .ok (.iconst 1, 1) := by decide +kernel
theorem dX3_has_42 : decode cX3_has 42 = .ok (.goto 4, 3) := by decide +kernel
theorem dX3_has_45 : decode cX3_has 45 = .ok (.iconst 0, 1) := by decide +kernel
theorem dX3_has_46 : decode cX3_has 46 = .ok (.iconst 0, 1) := by decide +kernel
theorem dX3_has_47 : decode cX3_has 47 = .ok (.iconst 0, 1) := by decide +kernel
theorem dX3_has_48 : decode cX3_has 48 = .ok (.invokevirtual 70, 3) := by decide +kernel
theorem dX3_has_51 : decode cX3_has 51 = .ok (.ifCond .eq 5, 3) := by decide +kernel
theorem dX3_has_54 : decode cX3_has 54 = .ok (.iconst 0, 1) := by decide +kernel
theorem dX3_has_55 : decode cX3_has 55 = .ok (.ireturn, 1) := by decide +kernel
theorem dX3_has_56 : decode cX3_has 56 = .ok (.iload_n 2, 1) := by decide +kernel
theorem dX3_has_57 : decode cX3_has 57 = .ok (.iconst 4, 1) := by decide +kernel
theorem dX3_has_58 : decode cX3_has 58 = .ok (.if_icmp .ge 11, 3) := by decide +kernel
theorem dX3_has_61 : decode cX3_has 61 = .ok (.aload_n 0, 1) := by decide +kernel
theorem dX3_has_62 : decode cX3_has 62 = .ok (.iload_n 1, 1) := by decide +kernel
theorem dX3_has_63 : decode cX3_has 63 = .ok (.iload_n 2, 1) := by decide +kernel
theorem dX3_has_64 : decode cX3_has 64 = .ok (.iload_n 3, 1) := by decide +kernel
theorem dX3_has_65 : decode cX3_has 65 = .ok (.invokevirtual 96, 3) := by decide +kernel
theorem dX3_has_68 : decode cX3_has 68 = .ok (.ireturn, 1) := by decide +kernel
theorem dX3_has_69 : decode cX3_has 69 = .ok (.iload_n 2, 1) := by decide +kernel
theorem dX3_has_70 : decode cX3_has 70 = .ok (.iconst 4, 1) := by decide +kernel
theorem dX3_has_71 : decode cX3_has 71 = .ok (.if_icmp .ne 18, 3) := by decide +kernel
theorem dX3_has_74 : decode cX3_has 74 = .ok (.aload_n 0, 1) := by decide +kernel
theorem dX3_has_75 : decode cX3_has 75 = .ok (.iload_n 1, 1) := by decide +kernel
theorem dX3_has_76 : decode cX3_has 76 = .ok (.iload_n 3, 1) := by decide +kernel
theorem dX3_has_77 : decode cX3_has 77 = .ok (.invokevirtual 99, 3) := by decide +kernel
theorem dX3_has_80 : decode cX3_has 80 = .ok (.ifCond .eq 7, 3) := by decide +kernel
theorem dX3_has_83 : decode cX3_has 83 = .ok (.iconst 1, 1) := by decide +kernel
theorem dX3_has_84 : decode cX3_has 84 = .ok (.goto 4, 3) := by decide +kernel
theorem dX3_has_87 : decode cX3_has 87 = .ok (.iconst 0, 1) := by decide +kernel
theorem dX3_has_88 : decode cX3_has 88 = .ok (.ireturn, 1) := by decide +kernel
theorem dX3_has_89 : decode cX3_has 89 = .ok (.iload_n 2, 1) := by decide +kernel
theorem dX3_has_90 : decode cX3_has 90 = .ok (.iconst 5, 1) := by decide +kernel
theorem dX3_has_91 : decode cX3_has 91 = .ok (.if_icmp .ne 11, 3) := by decide +kernel
theorem dX3_has_94 : decode cX3_has 94 = .ok (.aload_n 0, 1) := by decide +kernel
theorem dX3_has_95 : decode cX3_has 95 = .ok (.iload_n 1, 1) := by decide +kernel
theorem dX3_has_96 : decode cX3_has 96 = .ok (.invokevirtual 102, 3) := by decide +kernel
theorem dX3_has_99 : decode cX3_has 99 = .ok (.goto 13, 3) := by decide +kernel
theorem dX3_has_102 : decode cX3_has 102 = .ok (.aload_n 0, 1) := by decide +kernel
theorem dX3_has_103 : decode cX3_has 103 = .ok (.iload_n 1, 1) := by decide +kernel
theorem dX3_has_104 : decode cX3_has 104 = .ok (.iload_n 2, 1) := by decide +kernel
theorem dX3_has_105 : decode cX3_has 105 = .ok (.bipush 10, 2) := by decide +kernel
theorem dX3_has_107 : decode cX3_has 107 = .ok (.isub, 1) := by decide +kernel
theorem dX3_has_108 : decode cX3_has 108 = .ok (.iload_n 3, 1) := by decide +kernel
theorem dX3_has_109 : decode cX3_has 109 = .ok (.invokevirtual 105, 3) := by decide +kernel
theorem dX3_has_112 : decode cX3_has 112 = .ok (.ireturn, 1) := by decide +kernel
theorem dX3_follow_0 : decode cX3_follow 0 = .ok (.iload_n 1, 1) := by decide +kernel
theorem dX3_follow_1 : decode cX3_follow 1 = .ok (.istore_n 3, 1) := by decide +kernel
theorem dX3_follow_2 : decode cX3_follow 2 = .ok (.aload_n 0, 1) := by decide +kernel
theorem dX3_follow_3 : decode cX3_follow 3 = .ok (.getfield 31, 3) := by decide +kernel
theorem dX3_follow_6 : decode cX3_follow 6 = .ok (.bipush 10, 2) := by decide +kernel
theorem dX3_follow_8 : decode cX3_follow 8 = .ok (.iload_n 3, 1) := by decide +kernel
theorem dX3_follow_9 : decode cX3_follow 9 = .ok (.imul, 1) := by decide +kernel
theorem dX3_follow_10 : decode cX3_follow 10 = .ok (.iload_n 2, 1) := by decide +kernel
theorem dX3_follow_11 : decode cX3_follow 11 = .ok (.iadd, 1) := by decide +kernel
theorem dX3_follow_12 : decode cX3_follow 12 = .ok (.iaload, 1) := by decide +kernel
theorem dX3_follow_13 : decode cX3_follow 13 = .ok (.ifCond .lt 18, 3) := by decide +kernel
theorem dX3_follow_16 : decode cX3_follow 16 = .ok (.aload_n 0, 1) := by decide +kernel
theorem dX3_follow_17 : decode cX3_follow 17 = .ok (.getfield 31, 3) := by decide +kernel
theorem dX3_follow_20 : decode cX3_follow 20 = .ok (.bipush 10, 2) := by decide +kernel
theorem dX3_follow_22 : decode cX3_follow 22 = .ok (.iload_n 3, 1) := by decide +kernel
theorem dX3_follow_23 : decode cX3_follow 23 = .ok (.imul, 1) := by decide +kernel
theorem dX3_follow_24 : decode cX3_follow 24 = .ok (.iload_n 2, 1) := by decide +kernel
theorem dX3_follow_25 : decode cX3_follow 25 = .ok (.iadd, 1) := by decide +kernel
theorem dX3_follow_26 : decode cX3_follow 26 = .ok (.iaload, 1) := by decide +kernel
theorem dX3_follow_27 : decode cX3_follow 27 = .ok (.istore_n 3, 1) := by decide +kernel
theorem dX3_follow_28 : decode cX3_follow 28 = .ok (.goto (-26), 3) := by decide +kernel
theorem dX3_follow_31 : decode cX3_follow 31 = .ok (.iload_n 3, 1) := by decide +kernel
theorem dX3_follow_32 : decode cX3_follow 32 = .ok (.ireturn, 1) := by decide +kernel
theorem dX3_area_0 : decode cX3_area 0 = .ok (.aload_n 0, 1) := by decide +kernel
theorem dX3_area_1 : decode cX3_area 1 = .ok (.iload_n 1, 1) := by decide +kernel
theorem dX3_area_2 : decode cX3_area 2 = .ok (.invokevirtual 66, 3) := by decide +kernel
theorem dX3_area_5 : decode cX3_area 5 = .ok (.ifCond .eq 16, 3) := by decide +kernel
theorem dX3_area_8 : decode cX3_area 8 = .ok (.iload_n 3, 1) := by decide +kernel
theorem dX3_area_9 : decode cX3_area 9 = .ok (.iconst (-1), 1) := by decide +kernel
theorem dX3_area_10 : decode cX3_area 10 = .ok (.if_icmp .eq 15, 3) := by decide +kernel
theorem dX3_area_13 : decode cX3_area 13 = .ok (.aload_n 0, 1) := by decide +kernel
theorem dX3_area_14 : decode cX3_area 14 = .ok (.iload_n 3, 1) := by decide +kernel
theorem dX3_area_15 : decode cX3_area 15 = .ok (.invokevirtual 66, 3) := by decide +kernel
theorem dX3_area_18 : decode cX3_area 18 = .ok (.ifCond .ne 7, 3) := by decide +kernel
theorem dX3_area_21 : decode cX3_area 21 = .ok (.iconst 1, 1) := by decide +kernel
theorem dX3_area_22 : decode cX3_area 22 = .ok (.goto 4, 3) := by decide +kernel
theorem dX3_area_25 : decode cX3_area 25 = .ok (.iconst 0, 1) := by decide +kernel
theorem dX3_area_26 : decode cX3_area 26 = .ok (.istore 4, 2) := by decide +kernel
theorem dX3_area_28 : decode cX3_area 28 = .ok (.iconst 0, 1) := by decide +kernel
theorem dX3_area_29 : decode cX3_area 29 = .ok (.istore 5, 2) := by decide +kernel
theorem dX3_area_31 : decode cX3_area 31 = .ok (.iload 4, 2) := by decide +kernel
theorem dX3_area_33 : decode cX3_area 33 = .ok (.ifCond .ne 10, 3) := by decide +kernel
theorem dX3_area_36 : decode cX3_area 36 = .ok (.iload_n 2, 1) := by decide +kernel
theorem dX3_area_37 : decode cX3_area 37 = .ok (.invokestatic 108, 3) := by decide +kernel
theorem dX3_area_40 : decode cX3_area 40 = .ok (.ifCond .ne 7, 3) := by decide +kernel
theorem dX3_area_43 : decode cX3_area 43 = .ok (.iconst (-1), 1) := by decide +kernel
theorem dX3_area_44 : decode cX3_area 44 = .ok (.goto 4, 3) := by decide +kernel
theorem dX3_area_47 : decode cX3_area 47 = .ok (.iload_n 3, 1) := by decide +kernel
theorem dX3_area_48 : decode cX3_area 48 = .ok (.istore 6, 2) := by decide +kernel
theorem dX3_area_50 : decode cX3_area 50 = .ok (.iload 6, 2) := by decide +kernel
theorem dX3_area_52 : decode cX3_area 52 = .ok (.ifCond .lt 47, 3) := by decide +kernel
theorem dX3_area_55 : decode cX3_area 55 = .ok (.iload 5, 2) := by decide +kernel
theorem dX3_area_57 : decode cX3_area 57 = .ok (.ifCond .ne 9, 3) := by decide +kernel
theorem dX3_area_60 : decode cX3_area 60 = .ok (.iload 6, 2) := by decide +kernel
theorem dX3_area_62 : decode cX3_area 62 = .ok (.iload_n 1, 1) := by decide +kernel
theorem dX3_area_63 : decode cX3_area 63 = .ok (.if_icmp .ne 7, 3) := by decide +kernel
theorem dX3_area_66 : decode cX3_area 66 = .ok (.iconst 1, 1) := by decide +kernel
theorem dX3_area_67 : decode cX3_area 67 = .ok (.goto 4, 3) := by decide +kernel
theorem dX3_area_70 : decode cX3_area 70 = .ok (.iconst 0, 1) := by decide +kernel
theorem dX3_area_71 : decode cX3_area 71 = .ok (.istore 5, 2) := by decide +kernel
theorem dX3_area_73 : decode cX3_area 73 = .ok (.iload 5, 2) := by decide +kernel
theorem dX3_area_75 : decode cX3_area 75 = .ok (.ifCond .eq 7, 3) := by decide +kernel
theorem dX3_area_78 : decode cX3_area 78 = .ok (.iconst (-1), 1) := by decide +kernel
theorem dX3_area_79 : decode cX3_area 79 = .ok (.goto 15, 3) := by decide +kernel
theorem dX3_area_82 : decode cX3_area 82 = .ok (.aload_n 0, 1) := by decide +kernel
theorem dX3_area_83 : decode cX3_area 83 = .ok (.getfield 31, 3) := by decide +kernel
theorem dX3_area_86 : decode cX3_area 86 = .ok (.bipush 10, 2) := by decide +kernel
theorem dX3_area_88 : decode cX3_area 88 = .ok (.iload 6, 2) := by decide +kernel
theorem dX3_area_90 : decode cX3_area 90 = .ok (.imul, 1) := by decide +kernel
theorem dX3_area_91 : decode cX3_area 91 = .ok (.iload_n 2, 1) := by decide +kernel
theorem dX3_area_92 : decode cX3_area 92 = .ok (.iadd, 1) := by decide +kernel
theorem dX3_area_93 : decode cX3_area 93 = .ok (.iaload, 1) := by decide +kernel
theorem dX3_area_94 : decode cX3_area 94 = .ok (.istore 6, 2) := by decide +kernel
theorem dX3_area_96 : decode cX3_area 96 = .ok (.goto (-46), 3) := by decide +kernel
theorem dX3_area_99 : decode cX3_area 99 = .ok (.aload_n 0, 1) := by decide +kernel
theorem dX3_area_100 : decode cX3_area 100 = .ok (.iload 4, 2) := by decide +kernel
theorem dX3_area_102 : decode cX3_area 102 = .ok (.iload_n 2, 1) := by decide +kernel
theorem dX3_area_103 : decode cX3_area 103 = .ok (.invokestatic 108, 3) := by decide +kernel
theorem dX3_area_106 : decode cX3_area 106 = .ok (.ifCond .ne 7, 3) := by decide +kernel
theorem dX3_area_109 : decode cX3_area 109 = .ok (.iconst 1, 1) := by decide +kernel
theorem dX3_area_110 : decode cX3_area 110 = .ok (.goto 4, 3) := by decide +kernel
theorem dX3_area_113 : decode cX3_area 113 = .ok (.iconst 0, 1) := by decide +kernel
theorem dX3_area_114 : decode cX3_area 114 = .ok (.iload 5, 2) := by decide +kernel
theorem dX3_area_116 : decode cX3_area 116 = .ok (.iconst 0, 1) := by decide +kernel
theorem dX3_area_117 : decode cX3_area 117 = .ok (.invokevirtual 70, 3) := by decide +kernel
theorem dX3_area_120 : decode cX3_area 120 = .ok (.ifCond .eq 4, 3) := by decide +kernel
theorem dX3_area_123 : decode cX3_area 123 = .ok (.return_, 1) := by decide +kernel
theorem dX3_area_124 : decode cX3_area 124 = .ok (.aload_n 0, 1) := by decide +kernel
theorem dX3_area_125 : decode cX3_area 125 = .ok (.getfield 31, 3) := by decide +kernel
theorem dX3_area_128 : decode cX3_area 128 = .ok (.bipush 10, 2) := by decide +kernel
theorem dX3_area_130 : decode cX3_area 130 = .ok (.iload_n 1, 1) := by decide +kernel
theorem dX3_area_131 : decode cX3_area 131 = .ok (.imul, 1) := by decide +kernel
theorem dX3_area_132 : decode cX3_area 132 = .ok (.iload_n 2, 1) := by decide +kernel
theorem dX3_area_133 : decode cX3_area 133 = .ok (.iadd, 1) := by decide +kernel
theorem dX3_area_134 : decode cX3_area 134 = .ok (.iload_n 3, 1) := by decide +kernel
theorem dX3_area_135 : decode cX3_area 135 = .ok (.iastore, 1) := by decide +kernel
theorem dX3_area_136 : decode cX3_area 136 = .ok (.return_, 1) := by decide +kernel
theorem dX3_in_0 : decode cX3_in 0 = .ok (.aload_n 0, 1) := by decide +kernel
theorem dX3_in_1 : decode cX3_in 1 = .ok (.aload_n 0, 1) := by decide +kernel
theorem dX3_in_2 : decode cX3_in 2 = .ok (.iload_n 1, 1) := by decide +kernel
theorem dX3_in_3 : decode cX3_in 3 = .ok (.invokevirtual 66, 3) := by decide +kernel
theorem dX3_in_6 : decode cX3_in 6 = .ok (.ifCond .ne 7, 3) := by decide +kernel
theorem dX3_in_9 : decode cX3_in 9 = .ok (.iconst 1, 1) := by decide +kernel
theorem dX3_in_10 : decode cX3_in 10 = .ok (.goto 4, 3) := by decide +kernel
theorem dX3_in_13 : decode cX3_in 13 = .ok (.iconst 0, 1) := by decide +kernel
theorem dX3_in_14 : decode cX3_in 14 = .ok (.iload_n 2, 1) := by decide +kernel
theorem dX3_in_15 : decode cX3_in 15 = .ok (.invokestatic 108, 3) := by decide +kernel
theorem dX3_in_18 : decode cX3_in 18 = .ok (.ifCond .ne 7, 3) := by decide +kernel
theorem dX3_in_21 : decode cX3_in 21 = .ok (.iconst 1, 1) := by decide +kernel
theorem dX3_in_22 : decode cX3_in 22 = .ok (.goto 4, 3) := by decide +kernel
theorem dX3_in_25 : decode cX3_in 25 = .ok (.iconst 0, 1) := by decide +kernel
theorem dX3_in_26 : decode cX3_in 26 = .ok (.iconst 0, 1) := by decide +kernel
theorem dX3_in_27 : decode cX3_in 27 = .ok (.iconst 0, 1) := by decide +kernel
theorem dX3_in_28 : decode cX3_in 28 = .ok (.invokevirtual 70, 3) := by decide +kernel
theorem dX3_in_31 : decode cX3_in 31 = .ok (.ifCond .eq 5, 3) := by decide +kernel
theorem dX3_in_34 : decode cX3_in 34 = .ok (.iconst 0, 1) := by decide +kernel
theorem dX3_in_35 : decode cX3_in 35 = .ok (.ireturn, 1) := by decide +kernel
theorem dX3_in_36 : decode cX3_in 36 = .ok (.aload_n 0, 1) := by decide +kernel
theorem dX3_in_37 : decode cX3_in 37 = .ok (.iload_n 1, 1) := by decide +kernel
theorem dX3_in_38 : decode cX3_in 38 = .ok (.iload_n 2, 1) := by decide +kernel
theorem dX3_in_39 : decode cX3_in 39 = .ok (.invokevirtual 111, 3) := by decide +kernel
theorem dX3_in_42 : decode cX3_in 42 = .ok (.ireturn, 1) := by decide +kernel
theorem dX3_rowsOf_0 : decode cX3_rowsOf 0 = .ok (.iconst 0, 1) := by decide +kernel
theorem dX3_rowsOf_1 : decode cX3_rowsOf 1 = .ok (.istore_n 2, 1) := by decide +kernel
theorem dX3_rowsOf_2 : decode cX3_rowsOf 2 = .ok (.iconst 0, 1) := by decide +kernel
theorem dX3_rowsOf_3 : decode cX3_rowsOf 3 = .ok (.istore_n 3, 1) := by decide +kernel
theorem dX3_rowsOf_4 : decode cX3_rowsOf 4 = .ok (.iload_n 3, 1) := by decide +kernel
theorem dX3_rowsOf_5 : decode cX3_rowsOf 5 = .ok (.sipush 400, 3) := by decide +kernel
theorem dX3_rowsOf_8 : decode cX3_rowsOf 8 = .ok (.if_icmp .ge 30, 3) := by decide +kernel
theorem dX3_rowsOf_11 : decode cX3_rowsOf 11 = .ok (.iload_n 1, 1) := by decide +kernel
theorem dX3_rowsOf_12 : decode cX3_rowsOf 12 = .ok (.ifCond .eq 26, 3) := by decide +kernel
theorem dX3_rowsOf_15 : decode cX3_rowsOf 15 = .ok (.iload_n 2, 1) := by decide +kernel
theorem dX3_rowsOf_16 : decode cX3_rowsOf 16 = .ok (.aload_n 0, 1) := by decide +kernel
theorem dX3_rowsOf_17 : decode cX3_rowsOf 17 = .ok (.getfield 31, 3) := by decide +kernel
theorem dX3_rowsOf_20 : decode cX3_rowsOf 20 = .ok (.iload_n 3, 1) := by decide +kernel
theorem dX3_rowsOf_21 : decode cX3_rowsOf 21 = .ok (.iaload, 1) := by decide +kernel
theorem dX3_rowsOf_22 : decode cX3_rowsOf 22 = .ok (.ifCond .lt 7, 3) := by decide +kernel
theorem dX3_rowsOf_25 : decode cX3_rowsOf 25 = .ok (.iconst 1, 1) := by decide +kernel
theorem dX3_rowsOf_26 : decode cX3_rowsOf 26 = .ok (.goto 4, 3) := by decide +kernel
theorem dX3_rowsOf_29 : decode cX3_rowsOf 29 = .ok (.iconst 0, 1) := by decide +kernel
theorem dX3_rowsOf_30 : decode cX3_rowsOf 30 = .ok (.iadd, 1) := by decide +kernel
theorem dX3_rowsOf_31 : decode cX3_rowsOf 31 = .ok (.istore_n 2, 1) := by decide +kernel
theorem dX3_rowsOf_32 : decode cX3_rowsOf 32 = .ok (.iinc 3 1, 3) := by decide +kernel
theorem dX3_rowsOf_35 : decode cX3_rowsOf 35 = .ok (.goto (-31), 3) := by decide +kernel
theorem dX3_rowsOf_38 : decode cX3_rowsOf 38 = .ok (.iconst 0, 1) := by decide +kernel
theorem dX3_rowsOf_39 : decode cX3_rowsOf 39 = .ok (.istore_n 3, 1) := by decide +kernel
theorem dX3_rowsOf_40 : decode cX3_rowsOf 40 = .ok (.iload_n 3, 1) := by decide +kernel
theorem dX3_rowsOf_41 : decode cX3_rowsOf 41 = .ok (.sipush 1280, 3) := by decide +kernel
theorem dX3_rowsOf_44 : decode cX3_rowsOf 44 = .ok (.if_icmp .ge 30, 3) := by decide +kernel
theorem dX3_rowsOf_47 : decode cX3_rowsOf 47 = .ok (.iload_n 1, 1) := by decide +kernel
theorem dX3_rowsOf_48 : decode cX3_rowsOf 48 = .ok (.ifCond .ne 26, 3) := by decide +kernel
theorem dX3_rowsOf_51 : decode cX3_rowsOf 51 = .ok (.iload_n 2, 1) := by decide +kernel
theorem dX3_rowsOf_52 : decode cX3_rowsOf 52 = .ok (.aload_n 0, 1) := by decide +kernel
theorem dX3_rowsOf_53 : decode cX3_rowsOf 53 = .ok (.getfield 34, 3) := by decide +kernel
theorem dX3_rowsOf_56 : decode cX3_rowsOf 56 = .ok (.iload_n 3, 1) := by decide +kernel
theorem dX3_rowsOf_57 : decode cX3_rowsOf 57 = .ok (.iaload, 1) := by decide +kernel
theorem dX3_rowsOf_58 : decode cX3_rowsOf 58 = .ok (.ifCond .lt 7, 3) := by decide +kernel
theorem dX3_rowsOf_61 : decode cX3_rowsOf 61 = .ok (.iconst 1, 1) := by decide +kernel
theorem dX3_rowsOf_62 : decode cX3_rowsOf 62 = .ok (.goto 4, 3) := by decide +kernel
theorem dX3_rowsOf_65 : decode cX3_rowsOf 65 = .ok (.iconst 0, 1) := by decide +kernel
theorem dX3_rowsOf_66 : decode cX3_rowsOf 66 = .ok (.iadd, 1) := by decide +kernel
theorem dX3_rowsOf_67 : decode cX3_rowsOf 67 = .ok (.istore_n 2, 1) := by decide +kernel
theorem dX3_rowsOf_68 : decode cX3_rowsOf 68 = .ok (.iinc 3 1, 3) := by decide +kernel
theorem dX3_rowsOf_71 : decode cX3_rowsOf 71 = .ok (.goto (-31), 3) := by decide +kernel
theorem dX3_rowsOf_74 : decode cX3_rowsOf 74 = .ok (.iload_n 2, 1) := by decide +kernel
theorem dX3_rowsOf_75 : decode cX3_rowsOf 75 = .ok (.ireturn, 1) := by decide +kernel
theorem dX3_upgrade_0 : decode cX3_upgrade 0 = .ok (.aload_n 0, 1) := by decide +kernel
theorem dX3_upgrade_1 : decode cX3_upgrade 1 = .ok (.iload_n 1, 1) := by decide +kernel
theorem dX3_upgrade_2 : decode cX3_upgrade 2 = .ok (.invokevirtual 66, 3) := by decide +kernel
theorem dX3_upgrade_5 : decode cX3_upgrade 5 = .ok (.ifCond .eq 16, 3) := by decide +kernel
theorem dX3_upgrade_8 : decode cX3_upgrade 8 = .ok (.iload_n 3, 1) := by decide +kernel
theorem dX3_upgrade_9 : decode cX3_upgrade 9 = .ok (.iconst (-1), 1) := by decide +kernel
theorem dX3_upgrade_10 : decode cX3_upgrade 10 = .ok (.if_icmp .eq 15, 3) := by decide +kernel
theorem dX3_upgrade_13 : decode cX3_upgrade 13 = .ok (.aload_n 0, 1) := by decide +kernel
theorem dX3_upgrade_14 : decode cX3_upgrade 14 = .ok (.iload_n 3, 1) := by decide +kernel
theorem dX3_upgrade_15 : decode cX3_upgrade 15 = .ok (.invokevirtual 66, 3) := by decide +kernel
theorem dX3_upgrade_18 : decode cX3_upgrade 18 = .ok (.ifCond .ne 7, 3) := by decide +kernel
theorem dX3_upgrade_21 : decode cX3_upgrade 21 = .ok (.iconst 1, 1) := by decide +kernel
theorem dX3_upgrade_22 : decode cX3_upgrade 22 = .ok (.goto 4, 3) := by decide +kernel
theorem dX3_upgrade_25 : decode cX3_upgrade 25 = .ok (.iconst 0, 1) := by decide +kernel
theorem dX3_upgrade_26 : decode cX3_upgrade 26 = .ok (.istore 4, 2) := by decide +kernel
theorem dX3_upgrade_28 : decode cX3_upgrade 28 = .ok (.iload_n 2, 1) := by decide +kernel
theorem dX3_upgrade_29 : decode cX3_upgrade 29 = .ok (.iconst 0, 1) := by decide +kernel
theorem dX3_upgrade_30 : decode cX3_upgrade 30 = .ok (.bipush 31, 2) := by decide +kernel
theorem dX3_upgrade_32 : decode cX3_upgrade 32 = .ok (.invokestatic 59, 3) := by decide +kernel
theorem dX3_upgrade_35 : decode cX3_upgrade 35 = .ok (.ifCond .ne 7, 3) := by decide +kernel
theorem dX3_upgrade_38 : decode cX3_upgrade 38 = .ok (.iconst 1, 1) := by decide +kernel
theorem dX3_upgrade_39 : decode cX3_upgrade 39 = .ok (.goto 4, 3) := by decide +kernel
theorem dX3_upgrade_42 : decode cX3_upgrade 42 = .ok (.iconst 0, 1) := by decide +kernel
theorem dX3_upgrade_43 : decode cX3_upgrade 43 = .ok (.istore 5, 2) := by decide +kernel
theorem dX3_upgrade_45 : decode cX3_upgrade 45 = .ok (.iload 4, 2) := by decide +kernel
theorem dX3_upgrade_47 : decode cX3_upgrade 47 = .ok (.ifCond .ne 30, 3) := by decide +kernel
theorem dX3_upgrade_50 : decode cX3_upgrade 50 = .ok (.iload 5, 2) := by decide +kernel
theorem dX3_upgrade_52 : decode cX3_upgrade 52 = .ok (.ifCond .ne 25, 3) := by decide +kernel
theorem dX3_upgrade_55 : decode cX3_upgrade 55 = .ok (.iload_n 3, 1) := by decide +kernel
theorem dX3_upgrade_56 : decode cX3_upgrade 56 = .ok (.ifCond .lt 21, 3) := by decide +kernel
theorem dX3_upgrade_59 : decode cX3_upgrade 59 = .ok (.aload_n 0, 1) := by decide +kernel
theorem dX3_upgrade_60 : decode cX3_upgrade 60 = .ok (.getfield 34, 3) := by decide +kernel
theorem dX3_upgrade_63 : decode cX3_upgrade 63 = .ok (.bipush 32, 2) := by decide +kernel
theorem dX3_upgrade_65 : decode cX3_upgrade 65 = .ok (.iload_n 1, 1) := by decide +kernel
theorem dX3_upgrade_66 : decode cX3_upgrade 66 = .ok (.imul, 1) := by decide +kernel
theorem dX3_upgrade_67 : decode cX3_upgrade 67 = .ok (.iload_n 2, 1) := by decide +kernel
theorem dX3_upgrade_68 : decode cX3_upgrade 68 = .ok (.iadd, 1) := by decide +kernel
theorem dX3_upgrade_69 : decode cX3_upgrade 69 = .ok (.iaload, 1) := by decide +kernel
theorem dX3_upgrade_70 : decode cX3_upgrade 70 = .ok (.ifCond .ge 7, 3) := by decide +kernel
theorem dX3_upgrade_73 : decode cX3_upgrade 73 = .ok (.iconst 1, 1) := by decide +kernel
theorem dX3_upgrade_74 : decode cX3_upgrade 74 = .ok (.goto 4, 3) := by decide +kernel
theorem dX3_upgrade_77 : decode cX3_upgrade 77 = .ok (.iconst 0, 1) := by decide +kernel
theorem dX3_upgrade_78 : decode cX3_upgrade 78 = .ok (.istore 6, 2) := by decide +kernel
theorem dX3_upgrade_80 : decode cX3_upgrade 80 = .ok (.aload_n 0, 1) := by decide +kernel
theorem dX3_upgrade_81 : decode cX3_upgrade 81 = .ok (.iload 4, 2) := by decide +kernel
theorem dX3_upgrade_83 : decode cX3_upgrade 83 = .ok (.iload 5, 2) := by decide +kernel
theorem dX3_upgrade_85 : decode cX3_upgrade 85 = .ok (.iload 4, 2) := by decide +kernel
theorem dX3_upgrade_87 : decode cX3_upgrade 87 = .ok (.ifCond .ne 12, 3) := by decide +kernel
theorem dX3_upgrade_90 : decode cX3_upgrade 90 = .ok (.iload_n 3, 1) := by decide +kernel
theorem dX3_upgrade_91 : decode cX3_upgrade 91 = .ok (.iload_n 1, 1) := by decide +kernel
theorem dX3_upgrade_92 : decode cX3_upgrade 92 = .ok (.if_icmp .ne 7, 3) := by decide +kernel
theorem dX3_upgrade_95 : decode cX3_upgrade 95 = .ok (.iconst 1, 1) := by decide +kernel
theorem dX3_upgrade_96 : decode cX3_upgrade 96 = .ok (.goto 4, 3) := by decide +kernel
theorem dX3_upgrade_99 : decode cX3_upgrade 99 = .ok (.iconst 0, 1) := by decide +kernel
theorem dX3_upgrade_100 : decode cX3_upgrade 100 = .ok (.iload 6, 2) := by decide +kernel
theorem dX3_upgrade_102 : decode cX3_upgrade 102 = .ok (.ifCond .eq 17, 3) := by decide +kernel
theorem dX3_upgrade_105 : decode cX3_upgrade 105 = .ok (.aload_n 0, 1) := by decide +kernel
theorem dX3_upgrade_106 : decode cX3_upgrade 106 = .ok (.iconst 0, 1) := by decide +kernel
theorem dX3_upgrade_107 : decode cX3_upgrade 107 = .ok (.invokevirtual 115, 3) := by decide +kernel
theorem dX3_upgrade_110 : decode cX3_upgrade 110 = .ok (.bipush 100, 2) := by decide +kernel
theorem dX3_upgrade_112 : decode cX3_upgrade 112 = .ok (.if_icmp .ne 7, 3) := by decide +kernel
theorem dX3_upgrade_115 : decode cX3_upgrade 115 = .ok (.iconst 1, 1) := by decide +kernel
theorem dX3_upgrade_116 : decode cX3_upgrade 116 = .ok (.goto 4, 3) := by decide +kernel
theorem dX3_upgrade_119 : decode cX3_upgrade 119 = .ok (.iconst 0, 1) := by decide +kernel
theorem dX3_upgrade_120 : decode cX3_upgrade 120 = .ok (.invokevirtual 70, 3) := by decide +kernel
theorem dX3_upgrade_123 : decode cX3_upgrade 123 = .ok (.ifCond .eq 4, 3) := by decide +kernel
theorem dX3_upgrade_126 : decode cX3_upgrade 126 = .ok (.return_, 1) := by decide +kernel
theorem dX3_upgrade_127 : decode cX3_upgrade 127 = .ok (.aload_n 0, 1) := by decide +kernel
theorem dX3_upgrade_128 : decode cX3_upgrade 128 = .ok (.getfield 34, 3) := by decide +kernel
theorem dX3_upgrade_131 : decode cX3_upgrade 131 = .ok (.bipush 32, 2) := by decide +kernel
theorem dX3_upgrade_133 : decode cX3_upgrade 133 = .ok (.iload_n 1, 1) := by decide +kernel
theorem dX3_upgrade_134 : decode cX3_upgrade 134 = .ok (.imul, 1) := by decide +kernel
theorem dX3_upgrade_135 : decode cX3_upgrade 135 = .ok (.iload_n 2, 1) := by decide +kernel
theorem dX3_upgrade_136 : decode cX3_upgrade 136 = .ok (.iadd, 1) := by decide +kernel
theorem dX3_upgrade_137 : decode cX3_upgrade 137 = .ok (.iload_n 3, 1) := by decide +kernel
theorem dX3_upgrade_138 : decode cX3_upgrade 138 = .ok (.iastore, 1) := by decide +kernel
theorem dX3_upgrade_139 : decode cX3_upgrade 139 = .ok (.return_, 1) := by decide +kernel
theorem dX3_open_0 : decode cX3_open 0 = .ok (.aload_n 0, 1) := by decide +kernel
theorem dX3_open_1 : decode cX3_open 1 = .ok (.iload_n 1, 1) := by decide +kernel
theorem dX3_open_2 : decode cX3_open 2 = .ok (.invokevirtual 66, 3) := by decide +kernel
theorem dX3_open_5 : decode cX3_open 5 = .ok (.ifCond .ne 7, 3) := by decide +kernel
theorem dX3_open_8 : decode cX3_open 8 = .ok (.iconst 1, 1) := by decide +kernel
theorem dX3_open_9 : decode cX3_open 9 = .ok (.goto 4, 3) := by decide +kernel
theorem dX3_open_12 : decode cX3_open 12 = .ok (.iconst 0, 1) := by decide +kernel
theorem dX3_open_13 : decode cX3_open 13 = .ok (.istore 4, 2) := by decide +kernel
theorem dX3_open_15 : decode cX3_open 15 = .ok (.iload_n 2, 1) := by decide +kernel
theorem dX3_open_16 : decode cX3_open 16 = .ok (.invokestatic 108, 3) := by decide +kernel
theorem dX3_open_19 : decode cX3_open 19 = .ok (.ifCond .eq 10, 3) := by decide +kernel
theorem dX3_open_22 : decode cX3_open 22 = .ok (.iload_n 3, 1) := by decide +kernel
theorem dX3_open_23 : decode cX3_open 23 = .ok (.invokestatic 81, 3) := by decide +kernel
theorem dX3_open_26 : decode cX3_open 26 = .ok (.ifCond .ne 7, 3) := by decide +kernel
theorem dX3_open_29 : decode cX3_open 29 = .ok (.iconst 1, 1) := by decide +kernel
theorem dX3_open_30 : decode cX3_open 30 = .ok (.goto 4, 3) := by decide +kernel
theorem dX3_open_33 : decode cX3_open 33 = .ok (.iconst 0, 1) := by decide +kernel
theorem dX3_open_34 : decode cX3_open 34 = .ok (.istore 5, 2) := by decide +kernel
theorem dX3_open_36 : decode cX3_open 36 = .ok (.iload 4, 2) := by decide +kernel
theorem dX3_open_38 : decode cX3_open 38 = .ok (.ifCond .ne 8, 3) := by decide +kernel
theorem dX3_open_41 : decode cX3_open 41 = .ok (.iload 5, 2) := by decide +kernel
theorem dX3_open_43 : decode cX3_open 43 = .ok (.ifCond .eq 7, 3) := by decide +kernel
theorem dX3_open_46 : decode cX3_open 46 = .ok (.iconst (-1), 1) := by decide +kernel
theorem dX3_open_47 : decode cX3_open 47 = .ok (.goto 9, 3) := by decide +kernel
theorem dX3_open_50 : decode cX3_open 50 = .ok (.aload_n 0, 1) := by decide +kernel
theorem dX3_open_51 : decode cX3_open 51 = .ok (.iload_n 1, 1) := by decide +kernel
theorem dX3_open_52 : decode cX3_open 52 = .ok (.iload_n 2, 1) := by decide +kernel
theorem dX3_open_53 : decode cX3_open 53 = .ok (.invokevirtual 111, 3) := by decide +kernel
theorem dX3_open_56 : decode cX3_open 56 = .ok (.istore 6, 2) := by decide +kernel
theorem dX3_open_58 : decode cX3_open 58 = .ok (.aload_n 0, 1) := by decide +kernel
theorem dX3_open_59 : decode cX3_open 59 = .ok (.iload 4, 2) := by decide +kernel
theorem dX3_open_61 : decode cX3_open 61 = .ok (.iload 5, 2) := by decide +kernel
theorem dX3_open_63 : decode cX3_open 63 = .ok (.iload 6, 2) := by decide +kernel
theorem dX3_open_65 : decode cX3_open 65 = .ok (.ifCond .lt 17, 3) := by decide +kernel
theorem dX3_open_68 : decode cX3_open 68 = .ok (.aload_n 0, 1) := by decide +kernel
theorem dX3_open_69 : decode cX3_open 69 = .ok (.iload 6, 2) := by decide +kernel
theorem dX3_open_71 : decode cX3_open 71 = .ok (.iload_n 3, 1) := by decide +kernel
theorem dX3_open_72 : decode cX3_open 72 = .ok (.invokevirtual 99, 3) := by decide +kernel
theorem dX3_open_75 : decode cX3_open 75 = .ok (.ifCond .eq 7, 3) := by decide +kernel
theorem dX3_open_78 : decode cX3_open 78 = .ok (.iconst 1, 1) := by decide +kernel
theorem dX3_open_79 : decode cX3_open 79 = .ok (.goto 4, 3) := by decide +kernel
theorem dX3_open_82 : decode cX3_open 82 = .ok (.iconst 0, 1) := by decide +kernel
theorem dX3_open_83 : decode cX3_open 83 = .ok (.aload_n 0, 1) := by decide +kernel
theorem dX3_open_84 : decode cX3_open 84 = .ok (.getfield 63, 3) := by decide +kernel
theorem dX3_open_87 : decode cX3_open 87 = .ok (.bipush 60, 2) := by decide +kernel
theorem dX3_open_89 : decode cX3_open 89 = .ok (.if_icmp .ne 7, 3) := by decide +kernel
theorem dX3_open_92 : decode cX3_open 92 = .ok (.iconst 1, 1) := by decide +kernel
theorem dX3_open_93 : decode cX3_open 93 = .ok (.goto 4, 3) := by decide +kernel
theorem dX3_open_96 : decode cX3_open 96 = .ok (.iconst 0, 1) := by decide +kernel
theorem dX3_open_97 : decode cX3_open 97 = .ok (.invokevirtual 70, 3) := by decide +kernel
theorem dX3_open_100 : decode cX3_open 100 = .ok (.ifCond .eq 5, 3) := by decide +kernel
theorem dX3_open_103 : decode cX3_open 103 = .ok (.iconst 0, 1) := by decide +kernel
theorem dX3_open_104 : decode cX3_open 104 = .ok (.ireturn, 1) := by decide +kernel
theorem dX3_open_105 : decode cX3_open 105 = .ok (.aload_n 0, 1) := by decide +kernel
theorem dX3_open_106 : decode cX3_open 106 = .ok (.getfield 37, 3) := by decide +kernel
theorem dX3_open_109 : decode cX3_open 109 = .ok (.aload_n 0, 1) := by decide +kernel
theorem dX3_open_110 : decode cX3_open 110 = .ok (.getfield 63, 3) := by decide +kernel
theorem dX3_open_113 : decode cX3_open 113 = .ok (.iload 6, 2) := by decide +kernel
theorem dX3_open_115 : decode cX3_open 115 = .ok (.iastore, 1) := by decide +kernel
theorem dX3_open_116 : decode cX3_open 116 = .ok (.aload_n 0, 1) := by decide +kernel
theorem dX3_open_117 : decode cX3_open 117 = .ok (.getfield 40, 3) := by decide +kernel
theorem dX3_open_120 : decode cX3_open 120 = .ok (.aload_n 0, 1) := by decide +kernel
theorem dX3_open_121 : decode cX3_open 121 = .ok (.getfield 63, 3) := by decide +kernel
theorem dX3_open_124 : decode cX3_open 124 = .ok (.iload_n 2, 1) := by decide +kernel
theorem dX3_open_125 : decode cX3_open 125 = .ok (.iastore, 1) := by decide +kernel
theorem dX3_open_126 : decode cX3_open 126 = .ok (.aload_n 0, 1) := by decide +kernel
theorem dX3_open_127 : decode cX3_open 127 = .ok (.dup, 1) := by decide +kernel
theorem dX3_open_128 : decode cX3_open 128 = .ok (.getfield 63, 3) := by decide +kernel
theorem dX3_open_131 : decode cX3_open 131 = .ok (.iconst 1, 1) := by decide +kernel
theorem dX3_open_132 : decode cX3_open 132 = .ok (.iadd, 1) := by decide +kernel
theorem dX3_open_133 : decode cX3_open 133 = .ok (.putfield 63, 3) := by decide +kernel
theorem dX3_open_136 : decode cX3_open 136 = .ok (.aload_n 0, 1) := by decide +kernel
theorem dX3_open_137 : decode cX3_open 137 = .ok (.getfield 63, 3) := by decide +kernel
theorem dX3_open_140 : decode cX3_open 140 = .ok (.iconst 1, 1) := by decide +kernel
theorem dX3_open_141 : decode cX3_open 141 = .ok (.isub, 1) := by decide +kernel
theorem dX3_open_142 : decode cX3_open 142 = .ok (.ireturn, 1) := by decide +kernel
theorem dX3_found_0 : decode cX3_found 0 = .ok (.aload_n 0, 1) := by decide +kernel
theorem dX3_found_1 : decode cX3_found 1 = .ok (.iload_n 1, 1) := by decide +kernel
theorem dX3_found_2 : decode cX3_found 2 = .ok (.invokevirtual 119, 3) := by decide +kernel
theorem dX3_found_5 : decode cX3_found 5 = .ok (.ifCond .ne 7, 3) := by decide +kernel
theorem dX3_found_8 : decode cX3_found 8 = .ok (.iconst 1, 1) := by decide +kernel
theorem dX3_found_9 : decode cX3_found 9 = .ok (.goto 4, 3) := by decide +kernel
theorem dX3_found_12 : decode cX3_found 12 = .ok (.iconst 0, 1) := by decide +kernel
theorem dX3_found_13 : decode cX3_found 13 = .ok (.istore 4, 2) := by decide +kernel
theorem dX3_found_15 : decode cX3_found 15 = .ok (.iload_n 2, 1) := by decide +kernel
theorem dX3_found_16 : decode cX3_found 16 = .ok (.iconst 0, 1) := by decide +kernel
theorem dX3_found_17 : decode cX3_found 17 = .ok (.bipush 31, 2) := by decide +kernel
theorem dX3_found_19 : decode cX3_found 19 = .ok (.invokestatic 59, 3) := by decide +kernel
theorem dX3_found_22 : decode cX3_found 22 = .ok (.ifCond .eq 10, 3) := by decide +kernel
theorem dX3_found_25 : decode cX3_found 25 = .ok (.iload_n 3, 1) := by decide +kernel
theorem dX3_found_26 : decode cX3_found 26 = .ok (.invokestatic 81, 3) := by decide +kernel
theorem dX3_found_29 : decode cX3_found 29 = .ok (.ifCond .ne 7, 3) := by decide +kernel
theorem dX3_found_32 : decode cX3_found 32 = .ok (.iconst 1, 1) := by decide +kernel
theorem dX3_found_33 : decode cX3_found 33 = .ok (.goto 4, 3) := by decide +kernel
theorem dX3_found_36 : decode cX3_found 36 = .ok (.iconst 0, 1) := by decide +kernel
theorem dX3_found_37 : decode cX3_found 37 = .ok (.istore 5, 2) := by decide +kernel
theorem dX3_found_39 : decode cX3_found 39 = .ok (.iload 4, 2) := by decide +kernel
theorem dX3_found_41 : decode cX3_found 41 = .ok (.ifCond .ne 8, 3) := by decide +kernel
theorem dX3_found_44 : decode cX3_found 44 = .ok (.iload 5, 2) := by decide +kernel
theorem dX3_found_46 : decode cX3_found 46 = .ok (.ifCond .eq 7, 3) := by decide +kernel
theorem dX3_found_49 : decode cX3_found 49 = .ok (.iconst (-1), 1) := by decide +kernel
theorem dX3_found_50 : decode cX3_found 50 = .ok (.goto 9, 3) := by decide +kernel
theorem dX3_found_53 : decode cX3_found 53 = .ok (.aload_n 0, 1) := by decide +kernel
theorem dX3_found_54 : decode cX3_found 54 = .ok (.getfield 37, 3) := by decide +kernel
theorem dX3_found_57 : decode cX3_found 57 = .ok (.iload_n 1, 1) := by decide +kernel
theorem dX3_found_58 : decode cX3_found 58 = .ok (.iaload, 1) := by decide +kernel
theorem dX3_found_59 : decode cX3_found 59 = .ok (.istore 6, 2) := by decide +kernel
theorem dX3_found_61 : decode cX3_found 61 = .ok (.iload 6, 2) := by decide +kernel
theorem dX3_found_63 : decode cX3_found 63 = .ok (.ifCond .lt 30, 3) := by decide +kernel
theorem dX3_found_66 : decode cX3_found 66 = .ok (.aload_n 0, 1) := by decide +kernel
theorem dX3_found_67 : decode cX3_found 67 = .ok (.getfield 34, 3) := by decide +kernel
theorem dX3_found_70 : decode cX3_found 70 = .ok (.bipush 32, 2) := by decide +kernel
theorem dX3_found_72 : decode cX3_found 72 = .ok (.iload 6, 2) := by decide +kernel
theorem dX3_found_74 : decode cX3_found 74 = .ok (.imul, 1) := by decide +kernel
theorem dX3_found_75 : decode cX3_found 75 = .ok (.iload_n 2, 1) := by decide +kernel
theorem dX3_found_76 : decode cX3_found 76 = .ok (.iadd, 1) := by decide +kernel
theorem dX3_found_77 : decode cX3_found 77 = .ok (.iaload, 1) := by decide +kernel
theorem dX3_found_78 : decode cX3_found 78 = .ok (.ifCond .ge 15, 3) := by decide +kernel
theorem dX3_found_81 : decode cX3_found 81 = .ok (.aload_n 0, 1) := by decide +kernel
theorem dX3_found_82 : decode cX3_found 82 = .ok (.getfield 7, 3) := by decide +kernel
theorem dX3_found_85 : decode cX3_found 85 = .ok (.iload 6, 2) := by decide +kernel
theorem dX3_found_87 : decode cX3_found 87 = .ok (.iaload, 1) := by decide +kernel
theorem dX3_found_88 : decode cX3_found 88 = .ok (.istore 6, 2) := by decide +kernel
theorem dX3_found_90 : decode cX3_found 90 = .ok (.goto (-29), 3) := by decide +kernel
theorem dX3_found_93 : decode cX3_found 93 = .ok (.iload 6, 2) := by decide +kernel
theorem dX3_found_95 : decode cX3_found 95 = .ok (.ifCond .ge 7, 3) := by decide +kernel
theorem dX3_found_98 : decode cX3_found 98 = .ok (.iconst (-1), 1) := by decide +kernel
theorem dX3_found_99 : decode cX3_found 99 = .ok (.goto 15, 3) := by decide +kernel
theorem dX3_found_102 : decode cX3_found 102 = .ok (.aload_n 0, 1) := by decide +kernel
theorem dX3_found_103 : decode cX3_found 103 = .ok (.getfield 34, 3) := by decide +kernel
theorem dX3_found_106 : decode cX3_found 106 = .ok (.bipush 32, 2) := by decide +kernel
theorem dX3_found_108 : decode cX3_found 108 = .ok (.iload 6, 2) := by decide +kernel
theorem dX3_found_110 : decode cX3_found 110 = .ok (.imul, 1) := by decide +kernel
theorem dX3_found_111 : decode cX3_found 111 = .ok (.iload_n 2, 1) := by decide +kernel
theorem dX3_found_112 : decode cX3_found 112 = .ok (.iadd, 1) := by decide +kernel
theorem dX3_found_113 : decode cX3_found 113 = .ok (.iaload, 1) := by decide +kernel
theorem dX3_found_114 : decode cX3_found 114 = .ok (.istore 7, 2) := by decide +kernel
theorem dX3_found_116 : decode cX3_found 116 = .ok (.aload_n 0, 1) := by decide +kernel
theorem dX3_found_117 : decode cX3_found 117 = .ok (.iload 4, 2) := by decide +kernel
theorem dX3_found_119 : decode cX3_found 119 = .ok (.iload 5, 2) := by decide +kernel
theorem dX3_found_121 : decode cX3_found 121 = .ok (.iload 7, 2) := by decide +kernel
theorem dX3_found_123 : decode cX3_found 123 = .ok (.ifCond .lt 13, 3) := by decide +kernel
theorem dX3_found_126 : decode cX3_found 126 = .ok (.aload_n 0, 1) := by decide +kernel
theorem dX3_found_127 : decode cX3_found 127 = .ok (.iload 7, 2) := by decide +kernel
theorem dX3_found_129 : decode cX3_found 129 = .ok (.iload_n 3, 1) := by decide +kernel
theorem dX3_found_130 : decode cX3_found 130 = .ok (.invokevirtual 99, 3) := by decide +kernel
theorem dX3_found_133 : decode cX3_found 133 = .ok (.ifCond .eq 7, 3) := by decide +kernel
theorem dX3_found_136 : decode cX3_found 136 = .ok (.iconst 1, 1) := by decide +kernel
theorem dX3_found_137 : decode cX3_found 137 = .ok (.goto 4, 3) := by decide +kernel
theorem dX3_found_140 : decode cX3_found 140 = .ok (.iconst 0, 1) := by decide +kernel
theorem dX3_found_141 : decode cX3_found 141 = .ok (.iconst 0, 1) := by decide +kernel
theorem dX3_found_142 : decode cX3_found 142 = .ok (.invokevirtual 70, 3) := by decide +kernel
theorem dX3_found_145 : decode cX3_found 145 = .ok (.ifCond .eq 5, 3) := by decide +kernel
theorem dX3_found_148 : decode cX3_found 148 = .ok (.iconst 0, 1) := by decide +kernel
theorem dX3_found_149 : decode cX3_found 149 = .ok (.ireturn, 1) := by decide +kernel
theorem dX3_found_150 : decode cX3_found 150 = .ok (.aload_n 0, 1) := by decide +kernel
theorem dX3_found_151 : decode cX3_found 151 = .ok (.getfield 43, 3) := by decide +kernel
theorem dX3_found_154 : decode cX3_found 154 = .ok (.iload_n 1, 1) := by decide +kernel
theorem dX3_found_155 : decode cX3_found 155 = .ok (.dup2, 1) := by decide +kernel
theorem dX3_found_156 : decode cX3_found 156 = .ok (.iaload, 1) := by decide +kernel
theorem dX3_found_157 : decode cX3_found 157 = .ok (.aload_n 0, 1) := by decide +kernel
theorem dX3_found_158 : decode cX3_found 158 = .ok (.getfield 37, 3) := by decide +kernel
theorem dX3_found_161 : decode cX3_found 161 = .ok (.iload_n 1, 1) := by decide +kernel
theorem dX3_found_162 : decode cX3_found 162 = .ok (.iaload, 1) := by decide +kernel
theorem dX3_found_163 : decode cX3_found 163 = .ok (.iload 7, 2) := by decide +kernel
theorem dX3_found_165 : decode cX3_found 165 = .ok (.if_icmp .ne 7, 3) := by decide +kernel
theorem dX3_found_168 : decode cX3_found 168 = .ok (.iconst 0, 1) := by decide +kernel
theorem dX3_found_169 : decode cX3_found 169 = .ok (.goto 4, 3) := by decide +kernel
theorem dX3_found_172 : decode cX3_found 172 = .ok (.iconst 1, 1) := by decide +kernel
theorem dX3_found_173 : decode cX3_found 173 = .ok (.iadd, 1) := by decide +kernel
theorem dX3_found_174 : decode cX3_found 174 = .ok (.iastore, 1) := by decide +kernel
theorem dX3_found_175 : decode cX3_found 175 = .ok (.aload_n 0, 1) := by decide +kernel
theorem dX3_found_176 : decode cX3_found 176 = .ok (.getfield 37, 3) := by decide +kernel
theorem dX3_found_179 : decode cX3_found 179 = .ok (.iload_n 1, 1) := by decide +kernel
theorem dX3_found_180 : decode cX3_found 180 = .ok (.iload 7, 2) := by decide +kernel
theorem dX3_found_182 : decode cX3_found 182 = .ok (.iastore, 1) := by decide +kernel
theorem dX3_found_183 : decode cX3_found 183 = .ok (.iload 7, 2) := by decide +kernel
theorem dX3_found_185 : decode cX3_found 185 = .ok (.ireturn, 1) := by decide +kernel
theorem dX3_send_0 : decode cX3_send 0 = .ok (.aload_n 0, 1) := by decide +kernel
theorem dX3_send_1 : decode cX3_send 1 = .ok (.iload_n 1, 1) := by decide +kernel
theorem dX3_send_2 : decode cX3_send 2 = .ok (.invokevirtual 119, 3) := by decide +kernel
theorem dX3_send_5 : decode cX3_send 5 = .ok (.ifCond .eq 13, 3) := by decide +kernel
theorem dX3_send_8 : decode cX3_send 8 = .ok (.iload_n 2, 1) := by decide +kernel
theorem dX3_send_9 : decode cX3_send 9 = .ok (.iconst 0, 1) := by decide +kernel
theorem dX3_send_10 : decode cX3_send 10 = .ok (.bipush 15, 2) := by decide +kernel
theorem dX3_send_12 : decode cX3_send 12 = .ok (.invokestatic 59, 3) := by decide +kernel
theorem dX3_send_15 : decode cX3_send 15 = .ok (.ifCond .ne 7, 3) := by decide +kernel
theorem dX3_send_18 : decode cX3_send 18 = .ok (.iconst 1, 1) := by decide +kernel
theorem dX3_send_19 : decode cX3_send 19 = .ok (.goto 4, 3) := by decide +kernel
theorem dX3_send_22 : decode cX3_send 22 = .ok (.iconst 0, 1) := by decide +kernel
theorem dX3_send_23 : decode cX3_send 23 = .ok (.istore 4, 2) := by decide +kernel
theorem dX3_send_25 : decode cX3_send 25 = .ok (.iload_n 3, 1) := by decide +kernel
theorem dX3_send_26 : decode cX3_send 26 = .ok (.iconst 1, 1) := by decide +kernel
theorem dX3_send_27 : decode cX3_send 27 = .ok (.bipush 100, 2) := by decide +kernel
theorem dX3_send_29 : decode cX3_send 29 = .ok (.invokestatic 59, 3) := by decide +kernel
theorem dX3_send_32 : decode cX3_send 32 = .ok (.ifCond .ne 7, 3) := by decide +kernel
theorem dX3_send_35 : decode cX3_send 35 = .ok (.iconst 1, 1) := by decide +kernel
theorem dX3_send_36 : decode cX3_send 36 = .ok (.goto 4, 3) := by decide +kernel
theorem dX3_send_39 : decode cX3_send 39 = .ok (.iconst 0, 1) := by decide +kernel
theorem dX3_send_40 : decode cX3_send 40 = .ok (.istore 5, 2) := by decide +kernel
theorem dX3_send_42 : decode cX3_send 42 = .ok (.aload_n 0, 1) := by decide +kernel
theorem dX3_send_43 : decode cX3_send 43 = .ok (.iload 4, 2) := by decide +kernel
theorem dX3_send_45 : decode cX3_send 45 = .ok (.iload 5, 2) := by decide +kernel
theorem dX3_send_47 : decode cX3_send 47 = .ok (.iload 4, 2) := by decide +kernel
theorem dX3_send_49 : decode cX3_send 49 = .ok (.ifCond .ne 49, 3) := by decide +kernel
theorem dX3_send_52 : decode cX3_send 52 = .ok (.iload 5, 2) := by decide +kernel
theorem dX3_send_54 : decode cX3_send 54 = .ok (.ifCond .ne 44, 3) := by decide +kernel
theorem dX3_send_57 : decode cX3_send 57 = .ok (.aload_n 0, 1) := by decide +kernel
theorem dX3_send_58 : decode cX3_send 58 = .ok (.getfield 46, 3) := by decide +kernel
theorem dX3_send_61 : decode cX3_send 61 = .ok (.bipush 16, 2) := by decide +kernel
theorem dX3_send_63 : decode cX3_send 63 = .ok (.iload 4, 2) := by decide +kernel
theorem dX3_send_65 : decode cX3_send 65 = .ok (.ifCond .eq 7, 3) := by decide +kernel
theorem dX3_send_68 : decode cX3_send 68 = .ok (.iconst 0, 1) := by decide +kernel
theorem dX3_send_69 : decode cX3_send 69 = .ok (.goto 4, 3) := by decide +kernel
theorem dX3_send_72 : decode cX3_send 72 = .ok (.iload_n 1, 1) := by decide +kernel
theorem dX3_send_73 : decode cX3_send 73 = .ok (.imul, 1) := by decide +kernel
theorem dX3_send_74 : decode cX3_send 74 = .ok (.iload 4, 2) := by decide +kernel
theorem dX3_send_76 : decode cX3_send 76 = .ok (.ifCond .eq 7, 3) := by decide +kernel
theorem dX3_send_79 : decode cX3_send 79 = .ok (.iconst 0, 1) := by decide +kernel
theorem dX3_send_80 : decode cX3_send 80 = .ok (.goto 4, 3) := by decide +kernel
theorem dX3_send_83 : decode cX3_send 83 = .ok (.iload_n 2, 1) := by decide +kernel
theorem dX3_send_84 : decode cX3_send 84 = .ok (.iadd, 1) := by decide +kernel
theorem dX3_send_85 : decode cX3_send 85 = .ok (.iaload, 1) := by decide +kernel
theorem dX3_send_86 : decode cX3_send 86 = .ok (.iload_n 3, 1) := by decide +kernel
theorem dX3_send_87 : decode cX3_send 87 = .ok (.iadd, 1) := by decide +kernel
theorem dX3_send_88 : decode cX3_send 88 = .ok (.sipush 1000, 3) := by decide +kernel
theorem dX3_send_91 : decode cX3_send 91 = .ok (.if_icmp .le 7, 3) := by decide +kernel
theorem dX3_send_94 : decode cX3_send 94 = .ok (.iconst 1, 1) := by decide +kernel
theorem dX3_send_95 : decode cX3_send 95 = .ok (.goto 4, 3) := by decide +kernel
theorem dX3_send_98 : decode cX3_send 98 = .ok (.iconst 0, 1) := by decide +kernel
theorem dX3_send_99 : decode cX3_send 99 = .ok (.iconst 0, 1) := by decide +kernel
theorem dX3_send_100 : decode cX3_send 100 = .ok (.invokevirtual 70, 3) := by decide +kernel
theorem dX3_send_103 : decode cX3_send 103 = .ok (.ifCond .eq 5, 3) := by decide +kernel
theorem dX3_send_106 : decode cX3_send 106 = .ok (.iconst 0, 1) := by decide +kernel
theorem dX3_send_107 : decode cX3_send 107 = .ok (.ireturn, 1) := by decide +kernel
theorem dX3_send_108 : decode cX3_send 108 = .ok (.aload_n 0, 1) := by decide +kernel
theorem dX3_send_109 : decode cX3_send 109 = .ok (.getfield 46, 3) := by decide +kernel
theorem dX3_send_112 : decode cX3_send 112 = .ok (.bipush 16, 2) := by decide +kernel
theorem dX3_send_114 : decode cX3_send 114 = .ok (.iload_n 1, 1) := by decide +kernel
theorem dX3_send_115 : decode cX3_send 115 = .ok (.imul, 1) := by decide +kernel
theorem dX3_send_116 : decode cX3_send 116 = .ok (.iload_n 2, 1) := by decide +kernel
theorem dX3_send_117 : decode cX3_send 117 = .ok (.iadd, 1) := by decide +kernel
theorem dX3_send_118 : decode cX3_send 118 = .ok (.dup2, 1) := by decide +kernel
theorem dX3_send_119 : decode cX3_send 119 = .ok (.iaload, 1) := by decide +kernel
theorem dX3_send_120 : decode cX3_send 120 = .ok (.iload_n 3, 1) := by decide +kernel
theorem dX3_send_121 : decode cX3_send 121 = .ok (.iadd, 1) := by decide +kernel
theorem dX3_send_122 : decode cX3_send 122 = .ok (.iastore, 1) := by decide +kernel
theorem dX3_send_123 : decode cX3_send 123 = .ok (.aload_n 0, 1) := by decide +kernel
theorem dX3_send_124 : decode cX3_send 124 = .ok (.getfield 46, 3) := by decide +kernel
theorem dX3_send_127 : decode cX3_send 127 = .ok (.bipush 16, 2) := by decide +kernel
theorem dX3_send_129 : decode cX3_send 129 = .ok (.iload_n 1, 1) := by decide +kernel
theorem dX3_send_130 : decode cX3_send 130 = .ok (.imul, 1) := by decide +kernel
theorem dX3_send_131 : decode cX3_send 131 = .ok (.iload_n 2, 1) := by decide +kernel
theorem dX3_send_132 : decode cX3_send 132 = .ok (.iadd, 1) := by decide +kernel
theorem dX3_send_133 : decode cX3_send 133 = .ok (.iaload, 1) := by decide +kernel
theorem dX3_send_134 : decode cX3_send 134 = .ok (.ireturn, 1) := by decide +kernel
theorem dX3_missing_0 : decode cX3_missing 0 = .ok (.aload_n 0, 1) := by decide +kernel
theorem dX3_missing_1 : decode cX3_missing 1 = .ok (.iload_n 1, 1) := by decide +kernel
theorem dX3_missing_2 : decode cX3_missing 2 = .ok (.invokevirtual 119, 3) := by decide +kernel
theorem dX3_missing_5 : decode cX3_missing 5 = .ok (.ifCond .eq 13, 3) := by decide +kernel
theorem dX3_missing_8 : decode cX3_missing 8 = .ok (.iload_n 2, 1) := by decide +kernel
theorem dX3_missing_9 : decode cX3_missing 9 = .ok (.iconst 0, 1) := by decide +kernel
theorem dX3_missing_10 : decode cX3_missing 10 = .ok (.bipush 15, 2) := by decide +kernel
theorem dX3_missing_12 : decode cX3_missing 12 = .ok (.invokestatic 59, 3) := by decide +kernel
theorem dX3_missing_15 : decode cX3_missing 15 = .ok (.ifCond .ne 7, 3) := by decide +kernel
theorem dX3_missing_18 : decode cX3_missing 18 = .ok (.iconst 1, 1) := by decide +kernel
theorem dX3_missing_19 : decode cX3_missing 19 = .ok (.goto 4, 3) := by decide +kernel
theorem dX3_missing_22 : decode cX3_missing 22 = .ok (.iconst 0, 1) := by decide +kernel
theorem dX3_missing_23 : decode cX3_missing 23 = .ok (.istore 4, 2) := by decide +kernel
theorem dX3_missing_25 : decode cX3_missing 25 = .ok (.aload_n 0, 1) := by decide +kernel
theorem dX3_missing_26 : decode cX3_missing 26 = .ok (.iload 4, 2) := by decide +kernel
theorem dX3_missing_28 : decode cX3_missing 28 = .ok (.iload_n 3, 1) := by decide +kernel
theorem dX3_missing_29 : decode cX3_missing 29 = .ok (.invokestatic 81, 3) := by decide +kernel
theorem dX3_missing_32 : decode cX3_missing 32 = .ok (.ifCond .ne 7, 3) := by decide +kernel
theorem dX3_missing_35 : decode cX3_missing 35 = .ok (.iconst 1, 1) := by decide +kernel
theorem dX3_missing_36 : decode cX3_missing 36 = .ok (.goto 4, 3) := by decide +kernel
theorem dX3_missing_39 : decode cX3_missing 39 = .ok (.iconst 0, 1) := by decide +kernel
theorem dX3_missing_40 : decode cX3_missing 40 = .ok (.iconst 0, 1) := by decide +kernel
theorem dX3_missing_41 : decode cX3_missing 41 = .ok (.iconst 0, 1) := by decide +kernel
theorem dX3_missing_42 : decode cX3_missing 42 = .ok (.invokevirtual 70, 3) := by decide +kernel
theorem dX3_missing_45 : decode cX3_missing 45 = .ok (.ifCond .eq 5, 3) := by decide +kernel
theorem dX3_missing_48 : decode cX3_missing 48 = .ok (.iconst 0, 1) := by decide +kernel
theorem dX3_missing_49 : decode cX3_missing 49 = .ok (.ireturn, 1) := by decide +kernel
theorem dX3_missing_50 : decode cX3_missing 50 = .ok (.aload_n 0, 1) := by decide +kernel
theorem dX3_missing_51 : decode cX3_missing 51 = .ok (.aload_n 0, 1) := by decide +kernel
theorem dX3_missing_52 : decode cX3_missing 52 = .ok (.getfield 37, 3) := by decide +kernel
theorem dX3_missing_55 : decode cX3_missing 55 = .ok (.iload_n 1, 1) := by decide +kernel
theorem dX3_missing_56 : decode cX3_missing 56 = .ok (.iaload, 1) := by decide +kernel
theorem dX3_missing_57 : decode cX3_missing 57 = .ok (.iload_n 2, 1) := by decide +kernel
theorem dX3_missing_58 : decode cX3_missing 58 = .ok (.iload_n 3, 1) := by decide +kernel
theorem dX3_missing_59 : decode cX3_missing 59 = .ok (.invokevirtual 105, 3) := by decide +kernel
theorem dX3_missing_62 : decode cX3_missing 62 = .ok (.aload_n 0, 1) := by decide +kernel
theorem dX3_missing_63 : decode cX3_missing 63 = .ok (.getfield 46, 3) := by decide +kernel
theorem dX3_missing_66 : decode cX3_missing 66 = .ok (.bipush 16, 2) := by decide +kernel
theorem dX3_missing_68 : decode cX3_missing 68 = .ok (.iload_n 1, 1) := by decide +kernel
theorem dX3_missing_69 : decode cX3_missing 69 = .ok (.imul, 1) := by decide +kernel
theorem dX3_missing_70 : decode cX3_missing 70 = .ok (.iload_n 2, 1) := by decide +kernel
theorem dX3_missing_71 : decode cX3_missing 71 = .ok (.iadd, 1) := by decide +kernel
theorem dX3_missing_72 : decode cX3_missing 72 = .ok (.iaload, 1) := by decide +kernel
theorem dX3_missing_73 : decode cX3_missing 73 = .ok (.isub, 1) := by decide +kernel
theorem dX3_missing_74 : decode cX3_missing 74 = .ok (.istore 5, 2) := by decide +kernel
theorem dX3_missing_76 : decode cX3_missing 76 = .ok (.iload 5, 2) := by decide +kernel
theorem dX3_missing_78 : decode cX3_missing 78 = .ok (.ifCond .ge 7, 3) := by decide +kernel
theorem dX3_missing_81 : decode cX3_missing 81 = .ok (.iconst 0, 1) := by decide +kernel
theorem dX3_missing_82 : decode cX3_missing 82 = .ok (.goto 5, 3) := by decide +kernel
theorem dX3_missing_85 : decode cX3_missing 85 = .ok (.iload 5, 2) := by decide +kernel
theorem dX3_missing_87 : decode cX3_missing 87 = .ok (.ireturn, 1) := by decide +kernel
theorem dX3_incident_0 : decode cX3_incident 0 = .ok (.aload_n 0, 1) := by decide +kernel
theorem dX3_incident_1 : decode cX3_incident 1 = .ok (.aload_n 0, 1) := by decide +kernel
theorem dX3_incident_2 : decode cX3_incident 2 = .ok (.iload_n 1, 1) := by decide +kernel
theorem dX3_incident_3 : decode cX3_incident 3 = .ok (.invokevirtual 119, 3) := by decide +kernel
theorem dX3_incident_6 : decode cX3_incident 6 = .ok (.ifCond .eq 12, 3) := by decide +kernel
theorem dX3_incident_9 : decode cX3_incident 9 = .ok (.iload_n 2, 1) := by decide +kernel
theorem dX3_incident_10 : decode cX3_incident 10 = .ok (.iconst 0, 1) := by decide +kernel
theorem dX3_incident_11 : decode cX3_incident 11 = .ok (.iconst 2, 1) := by decide +kernel
theorem dX3_incident_12 : decode cX3_incident 12 = .ok (.invokestatic 59, 3) := by decide +kernel
theorem dX3_incident_15 : decode cX3_incident 15 = .ok (.ifCond .ne 7, 3) := by decide +kernel
theorem dX3_incident_18 : decode cX3_incident 18 = .ok (.iconst 1, 1) := by decide +kernel
theorem dX3_incident_19 : decode cX3_incident 19 = .ok (.goto 4, 3) := by decide +kernel
theorem dX3_incident_22 : decode cX3_incident 22 = .ok (.iconst 0, 1) := by decide +kernel
theorem dX3_incident_23 : decode cX3_incident 23 = .ok (.iconst 0, 1) := by decide +kernel
theorem dX3_incident_24 : decode cX3_incident 24 = .ok (.iconst 0, 1) := by decide +kernel
theorem dX3_incident_25 : decode cX3_incident 25 = .ok (.iconst 0, 1) := by decide +kernel
theorem dX3_incident_26 : decode cX3_incident 26 = .ok (.invokevirtual 70, 3) := by decide +kernel
theorem dX3_incident_29 : decode cX3_incident 29 = .ok (.ifCond .eq 5, 3) := by decide +kernel
theorem dX3_incident_32 : decode cX3_incident 32 = .ok (.iconst 0, 1) := by decide +kernel
theorem dX3_incident_33 : decode cX3_incident 33 = .ok (.ireturn, 1) := by decide +kernel
theorem dX3_incident_34 : decode cX3_incident 34 = .ok (.iload_n 2, 1) := by decide +kernel
theorem dX3_incident_35 : decode cX3_incident 35 = .ok (.ifCond .ne 12, 3) := by decide +kernel
theorem dX3_incident_38 : decode cX3_incident 38 = .ok (.aload_n 0, 1) := by decide +kernel
theorem dX3_incident_39 : decode cX3_incident 39 = .ok (.getfield 37, 3) := by decide +kernel
theorem dX3_incident_42 : decode cX3_incident 42 = .ok (.iload_n 1, 1) := by decide +kernel
theorem dX3_incident_43 : decode cX3_incident 43 = .ok (.iaload, 1) := by decide +kernel
theorem dX3_incident_44 : decode cX3_incident 44 = .ok (.goto 23, 3) := by decide +kernel
theorem dX3_incident_47 : decode cX3_incident 47 = .ok (.iload_n 2, 1) := by decide +kernel
theorem dX3_incident_48 : decode cX3_incident 48 = .ok (.iconst 1, 1) := by decide +kernel
theorem dX3_incident_49 : decode cX3_incident 49 = .ok (.if_icmp .ne 12, 3) := by decide +kernel
theorem dX3_incident_52 : decode cX3_incident 52 = .ok (.aload_n 0, 1) := by decide +kernel
theorem dX3_incident_53 : decode cX3_incident 53 = .ok (.getfield 40, 3) := by decide +kernel
theorem dX3_incident_56 : decode cX3_incident 56 = .ok (.iload_n 1, 1) := by decide +kernel
theorem dX3_incident_57 : decode cX3_incident 57 = .ok (.iaload, 1) := by decide +kernel
theorem dX3_incident_58 : decode cX3_incident 58 = .ok (.goto 9, 3) := by decide +kernel
theorem dX3_incident_61 : decode cX3_incident 61 = .ok (.aload_n 0, 1) := by decide +kernel
theorem dX3_incident_62 : decode cX3_incident 62 = .ok (.getfield 43, 3) := by decide +kernel
theorem dX3_incident_65 : decode cX3_incident 65 = .ok (.iload_n 1, 1) := by decide +kernel
theorem dX3_incident_66 : decode cX3_incident 66 = .ok (.iaload, 1) := by decide +kernel
theorem dX3_incident_67 : decode cX3_incident 67 = .ok (.ireturn, 1) := by decide +kernel
theorem dX3_unit_0 : decode cX3_unit 0 = .ok (.aload_n 0, 1) := by decide +kernel
theorem dX3_unit_1 : decode cX3_unit 1 = .ok (.iload_n 1, 1) := by decide +kernel
theorem dX3_unit_2 : decode cX3_unit 2 = .ok (.iconst 0, 1) := by decide +kernel
theorem dX3_unit_3 : decode cX3_unit 3 = .ok (.bipush 19, 2) := by decide +kernel
theorem dX3_unit_5 : decode cX3_unit 5 = .ok (.invokestatic 59, 3) := by decide +kernel
theorem dX3_unit_8 : decode cX3_unit 8 = .ok (.ifCond .ne 7, 3) := by decide +kernel
theorem dX3_unit_11 : decode cX3_unit 11 = .ok (.iconst 1, 1) := by decide +kernel
theorem dX3_unit_12 : decode cX3_unit 12 = .ok (.goto 4, 3) := by decide +kernel
theorem dX3_unit_15 : decode cX3_unit 15 = .ok (.iconst 0, 1) := by decide +kernel
theorem dX3_unit_16 : decode cX3_unit 16 = .ok (.iload_n 2, 1) := by decide +kernel
theorem dX3_unit_17 : decode cX3_unit 17 = .ok (.iconst 0, 1) := by decide +kernel
theorem dX3_unit_18 : decode cX3_unit 18 = .ok (.ldc 122, 2) := by decide +kernel
theorem dX3_unit_20 : decode cX3_unit 20 = .ok (.invokestatic 59, 3) := by decide +kernel
theorem dX3_unit_23 : decode cX3_unit 23 = .ok (.ifCond .ne 7, 3) := by decide +kernel
theorem dX3_unit_26 : decode cX3_unit 26 = .ok (.iconst 1, 1) := by decide +kernel
theorem dX3_unit_27 : decode cX3_unit 27 = .ok (.goto 4, 3) := by decide +kernel
theorem dX3_unit_30 : decode cX3_unit 30 = .ok (.iconst 0, 1) := by decide +kernel
theorem dX3_unit_31 : decode cX3_unit 31 = .ok (.iconst 0, 1) := by decide +kernel
theorem dX3_unit_32 : decode cX3_unit 32 = .ok (.iconst 0, 1) := by decide +kernel
theorem dX3_unit_33 : decode cX3_unit 33 = .ok (.invokevirtual 70, 3) := by decide +kernel
theorem dX3_unit_36 : decode cX3_unit 36 = .ok (.ifCond .eq 4, 3) := by decide +kernel
theorem dX3_unit_39 : decode cX3_unit 39 = .ok (.return_, 1) := by decide +kernel
theorem dX3_unit_40 : decode cX3_unit 40 = .ok (.aload_n 0, 1) := by decide +kernel
theorem dX3_unit_41 : decode cX3_unit 41 = .ok (.getfield 49, 3) := by decide +kernel
theorem dX3_unit_44 : decode cX3_unit 44 = .ok (.iload_n 1, 1) := by decide +kernel
theorem dX3_unit_45 : decode cX3_unit 45 = .ok (.iload_n 2, 1) := by decide +kernel
theorem dX3_unit_46 : decode cX3_unit 46 = .ok (.iastore, 1) := by decide +kernel
theorem dX3_unit_47 : decode cX3_unit 47 = .ok (.return_, 1) := by decide +kernel
theorem dX3_isCovered_0 : decode cX3_isCovered 0 = .ok (.iconst 0, 1) := by decide +kernel
theorem dX3_isCovered_1 : decode cX3_isCovered 1 = .ok (.istore_n 3, 1) := by decide +kernel
theorem dX3_isCovered_2 : decode cX3_isCovered 2 = .ok (.iconst 0, 1) := by decide +kernel
theorem dX3_isCovered_3 : decode cX3_isCovered 3 = .ok (.istore 4, 2) := by decide +kernel
theorem dX3_isCovered_5 : decode cX3_isCovered 5 = .ok (.iload 4, 2) := by decide +kernel
theorem dX3_isCovered_7 : decode cX3_isCovered 7 = .ok (.bipush 20, 2) := by decide +kernel
theorem dX3_isCovered_9 : decode cX3_isCovered 9 = .ok (.if_icmp .ge 19, 3) := by decide +kernel
theorem dX3_isCovered_12 : decode cX3_isCovered 12 = .ok (.iload_n 3, 1) := by decide +kernel
theorem dX3_isCovered_13 : decode cX3_isCovered 13 = .ok (.aload_n 0, 1) := by decide +kernel
theorem dX3_isCovered_14 : decode cX3_isCovered 14 = .ok (.getfield 49, 3) := by decide +kernel
theorem dX3_isCovered_17 : decode cX3_isCovered 17 = .ok (.iload 4, 2) := by decide +kernel
theorem dX3_isCovered_19 : decode cX3_isCovered 19 = .ok (.iaload, 1) := by decide +kernel
theorem dX3_isCovered_20 : decode cX3_isCovered 20 = .ok (.ior, 1) := by decide +kernel
theorem dX3_isCovered_21 : decode cX3_isCovered 21 = .ok (.istore_n 3, 1) := by decide +kernel
theorem dX3_isCovered_22 : decode cX3_isCovered 22 = .ok (.iinc 4 1, 3) := by decide +kernel
theorem dX3_isCovered_25 : decode cX3_isCovered 25 = .ok (.goto (-20), 3) := by decide +kernel
theorem dX3_isCovered_28 : decode cX3_isCovered 28 = .ok (.iconst 1, 1) := by decide +kernel
theorem dX3_isCovered_29 : decode cX3_isCovered 29 = .ok (.istore 4, 2) := by decide +kernel
theorem dX3_isCovered_31 : decode cX3_isCovered 31 = .ok (.iconst 0, 1) := by decide +kernel
theorem dX3_isCovered_32 : decode cX3_isCovered 32 = .ok (.istore 5, 2) := by decide +kernel
theorem dX3_isCovered_34 : decode cX3_isCovered 34 = .ok (.iload 5, 2) := by decide +kernel
theorem dX3_isCovered_36 : decode cX3_isCovered 36 = .ok (.bipush 16, 2) := by decide +kernel
theorem dX3_isCovered_38 : decode cX3_isCovered 38 = .ok (.if_icmp .ge 42, 3) := by decide +kernel
theorem dX3_isCovered_41 : decode cX3_isCovered 41 = .ok (.iload 4, 2) := by decide +kernel
theorem dX3_isCovered_43 : decode cX3_isCovered 43 = .ok (.ifCond .eq 28, 3) := by decide +kernel
theorem dX3_isCovered_46 : decode cX3_isCovered 46 = .ok (.aload_n 0, 1) := by decide +kernel
theorem dX3_isCovered_47 : decode cX3_isCovered 47 = .ok (.iload_n 1, 1) := by decide +kernel
theorem dX3_isCovered_48 : decode cX3_isCovered 48 = .ok (.iload 5, 2) := by decide +kernel
theorem dX3_isCovered_50 : decode cX3_isCovered 50 = .ok (.iload_n 2, 1) := by decide +kernel
theorem dX3_isCovered_51 : decode cX3_isCovered 51 = .ok (.invokevirtual 105, 3) := by decide +kernel
theorem dX3_isCovered_54 : decode cX3_isCovered 54 = .ok (.ifCond .eq 13, 3) := by decide +kernel
theorem dX3_isCovered_57 : decode cX3_isCovered 57 = .ok (.iload_n 3, 1) := by decide +kernel
theorem dX3_isCovered_58 : decode cX3_isCovered 58 = .ok (.iload 5, 2) := by decide +kernel
theorem dX3_isCovered_60 : decode cX3_isCovered 60 = .ok (.ishr, 1) := by decide +kernel
theorem dX3_isCovered_61 : decode cX3_isCovered 61 = .ok (.iconst 1, 1) := by decide +kernel
theorem dX3_isCovered_62 : decode cX3_isCovered 62 = .ok (.iand, 1) := by decide +kernel
theorem dX3_isCovered_63 : decode cX3_isCovered 63 = .ok (.iconst 1, 1) := by decide +kernel
theorem dX3_isCovered_64 : decode cX3_isCovered 64 = .ok (.if_icmp .ne 7, 3) := by decide +kernel
theorem dX3_isCovered_67 : decode cX3_isCovered 67 = .ok (.iconst 1, 1) := by decide +kernel
theorem dX3_isCovered_68 : decode cX3_isCovered 68 = .ok (.goto 4, 3) := by decide +kernel
theorem dX3_isCovered_71 : decode cX3_isCovered 71 = .ok (.iconst 0, 1) := by decide +kernel
theorem dX3_isCovered_72 : decode cX3_isCovered 72 = .ok (.istore 4, 2) := by decide +kernel
theorem dX3_isCovered_74 : decode cX3_isCovered 74 = .ok (.iinc 5 1, 3) := by decide +kernel
theorem dX3_isCovered_77 : decode cX3_isCovered 77 = .ok (.goto (-43), 3) := by decide +kernel
theorem dX3_isCovered_80 : decode cX3_isCovered 80 = .ok (.iload 4, 2) := by decide +kernel
theorem dX3_isCovered_82 : decode cX3_isCovered 82 = .ok (.ifCond .ne 12, 3) := by decide +kernel
theorem dX3_isCovered_85 : decode cX3_isCovered 85 = .ok (.aload_n 0, 1) := by decide +kernel
theorem dX3_isCovered_86 : decode cX3_isCovered 86 = .ok (.iload_n 1, 1) := by decide +kernel
theorem dX3_isCovered_87 : decode cX3_isCovered 87 = .ok (.iload_n 2, 1) := by decide +kernel
theorem dX3_isCovered_88 : decode cX3_isCovered 88 = .ok (.invokevirtual 99, 3) := by decide +kernel
theorem dX3_isCovered_91 : decode cX3_isCovered 91 = .ok (.ifCond .eq 7, 3) := by decide +kernel
theorem dX3_isCovered_94 : decode cX3_isCovered 94 = .ok (.iconst 1, 1) := by decide +kernel
theorem dX3_isCovered_95 : decode cX3_isCovered 95 = .ok (.goto 4, 3) := by decide +kernel
theorem dX3_isCovered_98 : decode cX3_isCovered 98 = .ok (.iconst 0, 1) := by decide +kernel
theorem dX3_isCovered_99 : decode cX3_isCovered 99 = .ok (.ireturn, 1) := by decide +kernel
theorem dX3_uncovered_0 : decode cX3_uncovered 0 = .ok (.aload_n 0, 1) := by decide +kernel
theorem dX3_uncovered_1 : decode cX3_uncovered 1 = .ok (.iload_n 1, 1) := by decide +kernel
theorem dX3_uncovered_2 : decode cX3_uncovered 2 = .ok (.invokestatic 81, 3) := by decide +kernel
theorem dX3_uncovered_5 : decode cX3_uncovered 5 = .ok (.ifCond .eq 7, 3) := by decide +kernel
theorem dX3_uncovered_8 : decode cX3_uncovered 8 = .ok (.iload_n 2, 1) := by decide +kernel
theorem dX3_uncovered_9 : decode cX3_uncovered 9 = .ok (.ifCond .ge 7, 3) := by decide +kernel
theorem dX3_uncovered_12 : decode cX3_uncovered 12 = .ok (.iconst 1, 1) := by decide +kernel
theorem dX3_uncovered_13 : decode cX3_uncovered 13 = .ok (.goto 4, 3) := by decide +kernel
theorem dX3_uncovered_16 : decode cX3_uncovered 16 = .ok (.iconst 0, 1) := by decide +kernel
theorem dX3_uncovered_17 : decode cX3_uncovered 17 = .ok (.iconst 0, 1) := by decide +kernel
theorem dX3_uncovered_18 : decode cX3_uncovered 18 = .ok (.iconst 0, 1) := by decide +kernel
theorem dX3_uncovered_19 : decode cX3_uncovered 19 = .ok (.iconst 0, 1) := by decide +kernel
theorem dX3_uncovered_20 : decode cX3_uncovered 20 = .ok (.invokevirtual 70, 3) := by decide +kernel
theorem dX3_uncovered_23 : decode cX3_uncovered 23 = .ok (.ifCond .eq 5, 3) := by decide +kernel
theorem dX3_uncovered_26 : decode cX3_uncovered 26 = .ok (.iconst 0, 1) := by decide +kernel
theorem dX3_uncovered_27 : decode cX3_uncovered 27 = .ok (.ireturn, 1) := by decide +kernel
theorem dX3_uncovered_28 : decode cX3_uncovered 28 = .ok (.iload_n 2, 1) := by decide +kernel
theorem dX3_uncovered_29 : decode cX3_uncovered 29 = .ok (.istore_n 3, 1) := by decide +kernel
theorem dX3_uncovered_30 : decode cX3_uncovered 30 = .ok (.iconst 0, 1) := by decide +kernel
theorem dX3_uncovered_31 : decode cX3_uncovered 31 = .ok (.istore 4, 2) := by decide +kernel
theorem dX3_uncovered_33 : decode cX3_uncovered 33 = .ok (.iload 4, 2) := by decide +kernel
theorem dX3_uncovered_35 : decode cX3_uncovered 35 = .ok (.aload_n 0, 1) := by decide +kernel
theorem dX3_uncovered_36 : decode cX3_uncovered 36 = .ok (.getfield 56, 3) := by decide +kernel
theorem dX3_uncovered_39 : decode cX3_uncovered 39 = .ok (.if_icmp .ge 29, 3) := by decide +kernel
theorem dX3_uncovered_42 : decode cX3_uncovered 42 = .ok (.aload_n 0, 1) := by decide +kernel
theorem dX3_uncovered_43 : decode cX3_uncovered 43 = .ok (.iload 4, 2) := by decide +kernel
theorem dX3_uncovered_45 : decode cX3_uncovered 45 = .ok (.iload_n 1, 1) := by decide +kernel
theorem dX3_uncovered_46 : decode cX3_uncovered 46 = .ok (.invokevirtual 123, 3) := by decide +kernel
theorem dX3_uncovered_49 : decode cX3_uncovered 49 = .ok (.ifCond .ne 13, 3) := by decide +kernel
theorem dX3_uncovered_52 : decode cX3_uncovered 52 = .ok (.iload_n 3, 1) := by decide +kernel
theorem dX3_uncovered_53 : decode cX3_uncovered 53 = .ok (.ifCond .ne 6, 3) := by decide +kernel
theorem dX3_uncovered_56 : decode cX3_uncovered 56 = .ok (.iload 4, 2) := by decide +kernel
theorem dX3_uncovered_58 : decode cX3_uncovered 58 = .ok (.ireturn, 1) := by decide +kernel
theorem dX3_uncovered_59 : decode cX3_uncovered 59 = .ok (.iinc 3 (-1), 3) := by decide +kernel
theorem dX3_uncovered_62 : decode cX3_uncovered 62 = .ok (.iinc 4 1, 3) := by decide +kernel
theorem dX3_uncovered_65 : decode cX3_uncovered 65 = .ok (.goto (-32), 3) := by decide +kernel
theorem dX3_uncovered_68 : decode cX3_uncovered 68 = .ok (.iconst (-1), 1) := by decide +kernel
theorem dX3_uncovered_69 : decode cX3_uncovered 69 = .ok (.ireturn, 1) := by decide +kernel
theorem dX3_coded_0 : decode cX3_coded 0 = .ok (.aload_n 0, 1) := by decide +kernel
theorem dX3_coded_1 : decode cX3_coded 1 = .ok (.iload_n 1, 1) := by decide +kernel
theorem dX3_coded_2 : decode cX3_coded 2 = .ok (.iconst 0, 1) := by decide +kernel
theorem dX3_coded_3 : decode cX3_coded 3 = .ok (.bipush 99, 2) := by decide +kernel
theorem dX3_coded_5 : decode cX3_coded 5 = .ok (.invokestatic 59, 3) := by decide +kernel
theorem dX3_coded_8 : decode cX3_coded 8 = .ok (.ifCond .eq 10, 3) := by decide +kernel
theorem dX3_coded_11 : decode cX3_coded 11 = .ok (.iload_n 2, 1) := by decide +kernel
theorem dX3_coded_12 : decode cX3_coded 12 = .ok (.invokestatic 81, 3) := by decide +kernel
theorem dX3_coded_15 : decode cX3_coded 15 = .ok (.ifCond .ne 7, 3) := by decide +kernel
theorem dX3_coded_18 : decode cX3_coded 18 = .ok (.iconst 1, 1) := by decide +kernel
theorem dX3_coded_19 : decode cX3_coded 19 = .ok (.goto 4, 3) := by decide +kernel
theorem dX3_coded_22 : decode cX3_coded 22 = .ok (.iconst 0, 1) := by decide +kernel
theorem dX3_coded_23 : decode cX3_coded 23 = .ok (.iconst 0, 1) := by decide +kernel
theorem dX3_coded_24 : decode cX3_coded 24 = .ok (.iconst 0, 1) := by decide +kernel
theorem dX3_coded_25 : decode cX3_coded 25 = .ok (.iconst 0, 1) := by decide +kernel
theorem dX3_coded_26 : decode cX3_coded 26 = .ok (.invokevirtual 70, 3) := by decide +kernel
theorem dX3_coded_29 : decode cX3_coded 29 = .ok (.ifCond .eq 5, 3) := by decide +kernel
theorem dX3_coded_32 : decode cX3_coded 32 = .ok (.iconst 0, 1) := by decide +kernel
theorem dX3_coded_33 : decode cX3_coded 33 = .ok (.ireturn, 1) := by decide +kernel
theorem dX3_coded_34 : decode cX3_coded 34 = .ok (.iconst 0, 1) := by decide +kernel
theorem dX3_coded_35 : decode cX3_coded 35 = .ok (.istore_n 3, 1) := by decide +kernel
theorem dX3_coded_36 : decode cX3_coded 36 = .ok (.iconst 0, 1) := by decide +kernel
theorem dX3_coded_37 : decode cX3_coded 37 = .ok (.istore 4, 2) := by decide +kernel
theorem dX3_coded_39 : decode cX3_coded 39 = .ok (.iload 4, 2) := by decide +kernel
theorem dX3_coded_41 : decode cX3_coded 41 = .ok (.aload_n 0, 1) := by decide +kernel
theorem dX3_coded_42 : decode cX3_coded 42 = .ok (.getfield 63, 3) := by decide +kernel
theorem dX3_coded_45 : decode cX3_coded 45 = .ok (.if_icmp .ge 34, 3) := by decide +kernel
theorem dX3_coded_48 : decode cX3_coded 48 = .ok (.iload_n 3, 1) := by decide +kernel
theorem dX3_coded_49 : decode cX3_coded 49 = .ok (.aload_n 0, 1) := by decide +kernel
theorem dX3_coded_50 : decode cX3_coded 50 = .ok (.aload_n 0, 1) := by decide +kernel
theorem dX3_coded_51 : decode cX3_coded 51 = .ok (.getfield 37, 3) := by decide +kernel
theorem dX3_coded_54 : decode cX3_coded 54 = .ok (.iload 4, 2) := by decide +kernel
theorem dX3_coded_56 : decode cX3_coded 56 = .ok (.iaload, 1) := by decide +kernel
theorem dX3_coded_57 : decode cX3_coded 57 = .ok (.iconst 3, 1) := by decide +kernel
theorem dX3_coded_58 : decode cX3_coded 58 = .ok (.iload_n 2, 1) := by decide +kernel
theorem dX3_coded_59 : decode cX3_coded 59 = .ok (.invokevirtual 96, 3) := by decide +kernel
theorem dX3_coded_62 : decode cX3_coded 62 = .ok (.iload_n 1, 1) := by decide +kernel
theorem dX3_coded_63 : decode cX3_coded 63 = .ok (.if_icmp .ne 7, 3) := by decide +kernel
theorem dX3_coded_66 : decode cX3_coded 66 = .ok (.iconst 1, 1) := by decide +kernel
theorem dX3_coded_67 : decode cX3_coded 67 = .ok (.goto 4, 3) := by decide +kernel
theorem dX3_coded_70 : decode cX3_coded 70 = .ok (.iconst 0, 1) := by decide +kernel
theorem dX3_coded_71 : decode cX3_coded 71 = .ok (.iadd, 1) := by decide +kernel
theorem dX3_coded_72 : decode cX3_coded 72 = .ok (.istore_n 3, 1) := by decide +kernel
theorem dX3_coded_73 : decode cX3_coded 73 = .ok (.iinc 4 1, 3) := by decide +kernel
theorem dX3_coded_76 : decode cX3_coded 76 = .ok (.goto (-37), 3) := by decide +kernel
theorem dX3_coded_79 : decode cX3_coded 79 = .ok (.iload_n 3, 1) := by decide +kernel
theorem dX3_coded_80 : decode cX3_coded 80 = .ok (.ireturn, 1) := by decide +kernel
theorem dX3_count_0 : decode cX3_count 0 = .ok (.aload_n 0, 1) := by decide +kernel
theorem dX3_count_1 : decode cX3_count 1 = .ok (.iload_n 1, 1) := by decide +kernel
theorem dX3_count_2 : decode cX3_count 2 = .ok (.iconst 0, 1) := by decide +kernel
theorem dX3_count_3 : decode cX3_count 3 = .ok (.iconst 4, 1) := by decide +kernel
theorem dX3_count_4 : decode cX3_count 4 = .ok (.invokestatic 59, 3) := by decide +kernel
theorem dX3_count_7 : decode cX3_count 7 = .ok (.ifCond .ne 7, 3) := by decide +kernel
theorem dX3_count_10 : decode cX3_count 10 = .ok (.iconst 1, 1) := by decide +kernel
theorem dX3_count_11 : decode cX3_count 11 = .ok (.goto 4, 3) := by decide +kernel
theorem dX3_count_14 : decode cX3_count 14 = .ok (.iconst 0, 1) := by decide +kernel
theorem dX3_count_15 : decode cX3_count 15 = .ok (.iconst 0, 1) := by decide +kernel
theorem dX3_count_16 : decode cX3_count 16 = .ok (.iconst 0, 1) := by decide +kernel
theorem dX3_count_17 : decode cX3_count 17 = .ok (.iconst 0, 1) := by decide +kernel
theorem dX3_count_18 : decode cX3_count 18 = .ok (.invokevirtual 70, 3) := by decide +kernel
theorem dX3_count_21 : decode cX3_count 21 = .ok (.ifCond .eq 5, 3) := by decide +kernel
theorem dX3_count_24 : decode cX3_count 24 = .ok (.iconst 0, 1) := by decide +kernel
theorem dX3_count_25 : decode cX3_count 25 = .ok (.ireturn, 1) := by decide +kernel
theorem dX3_count_26 : decode cX3_count 26 = .ok (.iload_n 1, 1) := by decide +kernel
theorem dX3_count_27 : decode cX3_count 27 = .ok (.ifCond .ne 10, 3) := by decide +kernel
theorem dX3_count_30 : decode cX3_count 30 = .ok (.aload_n 0, 1) := by decide +kernel
theorem dX3_count_31 : decode cX3_count 31 = .ok (.getfield 56, 3) := by decide +kernel
theorem dX3_count_34 : decode cX3_count 34 = .ok (.goto 45, 3) := by decide +kernel
theorem dX3_count_37 : decode cX3_count 37 = .ok (.iload_n 1, 1) := by decide +kernel
theorem dX3_count_38 : decode cX3_count 38 = .ok (.iconst 1, 1) := by decide +kernel
theorem dX3_count_39 : decode cX3_count 39 = .ok (.if_icmp .ne 10, 3) := by decide +kernel
theorem dX3_count_42 : decode cX3_count 42 = .ok (.aload_n 0, 1) := by decide +kernel
theorem dX3_count_43 : decode cX3_count 43 = .ok (.getfield 78, 3) := by decide +kernel
theorem dX3_count_46 : decode cX3_count 46 = .ok (.goto 33, 3) := by decide +kernel
theorem dX3_count_49 : decode cX3_count 49 = .ok (.iload_n 1, 1) := by decide +kernel
theorem dX3_count_50 : decode cX3_count 50 = .ok (.iconst 2, 1) := by decide +kernel
theorem dX3_count_51 : decode cX3_count 51 = .ok (.if_icmp .ne 11, 3) := by decide +kernel
theorem dX3_count_54 : decode cX3_count 54 = .ok (.aload_n 0, 1) := by decide +kernel
theorem dX3_count_55 : decode cX3_count 55 = .ok (.iconst 1, 1) := by decide +kernel
theorem dX3_count_56 : decode cX3_count 56 = .ok (.invokevirtual 115, 3) := by decide +kernel
theorem dX3_count_59 : decode cX3_count 59 = .ok (.goto 20, 3) := by decide +kernel
theorem dX3_count_62 : decode cX3_count 62 = .ok (.iload_n 1, 1) := by decide +kernel
theorem dX3_count_63 : decode cX3_count 63 = .ok (.iconst 3, 1) := by decide +kernel
theorem dX3_count_64 : decode cX3_count 64 = .ok (.if_icmp .ne 11, 3) := by decide +kernel
theorem dX3_count_67 : decode cX3_count 67 = .ok (.aload_n 0, 1) := by decide +kernel
theorem dX3_count_68 : decode cX3_count 68 = .ok (.iconst 0, 1) := by decide +kernel
theorem dX3_count_69 : decode cX3_count 69 = .ok (.invokevirtual 115, 3) := by decide +kernel
theorem dX3_count_72 : decode cX3_count 72 = .ok (.goto 7, 3) := by decide +kernel
theorem dX3_count_75 : decode cX3_count 75 = .ok (.aload_n 0, 1) := by decide +kernel
theorem dX3_count_76 : decode cX3_count 76 = .ok (.getfield 63, 3) := by decide +kernel
theorem dX3_count_79 : decode cX3_count 79 = .ok (.ireturn, 1) := by decide +kernel
