theorem d_MO_init_0 : decode b_MO_init 0 = .ok (.aload_n 0, 1) := by decide +kernel
theorem d_MO_init_1 : decode b_MO_init 1 = .ok (.invokespecial 1, 3) := by decide +kernel
theorem d_MO_init_4 : decode b_MO_init 4 = .ok (.aload_n 0, 1) := by decide +kernel
theorem d_MO_init_5 : decode b_MO_init 5 = .ok (.bipush 8, 2) := by decide +kernel
theorem d_MO_init_7 : decode b_MO_init 7 = .ok (.newarray .int, 2) := by decide +kernel
theorem d_MO_init_9 : decode b_MO_init 9 = .ok (.putfield 7, 3) := by decide +kernel
theorem d_MO_init_12 : decode b_MO_init 12 = .ok (.aload_n 0, 1) := by decide +kernel
theorem d_MO_init_13 : decode b_MO_init 13 = .ok (.bipush 16, 2) := by decide +kernel
theorem d_MO_init_15 : decode b_MO_init 15 = .ok (.newarray .int, 2) := by decide +kernel
theorem d_MO_init_17 : decode b_MO_init 17 = .ok (.putfield 13, 3) := by decide +kernel
theorem d_MO_init_20 : decode b_MO_init 20 = .ok (.aload_n 0, 1) := by decide +kernel
theorem d_MO_init_21 : decode b_MO_init 21 = .ok (.bipush 48, 2) := by decide +kernel
theorem d_MO_init_23 : decode b_MO_init 23 = .ok (.newarray .int, 2) := by decide +kernel
theorem d_MO_init_25 : decode b_MO_init 25 = .ok (.putfield 16, 3) := by decide +kernel
theorem d_MO_init_28 : decode b_MO_init 28 = .ok (.aload_n 0, 1) := by decide +kernel
theorem d_MO_init_29 : decode b_MO_init 29 = .ok (.bipush 16, 2) := by decide +kernel
theorem d_MO_init_31 : decode b_MO_init 31 = .ok (.newarray .int, 2) := by decide +kernel
theorem d_MO_init_33 : decode b_MO_init 33 = .ok (.putfield 19, 3) := by decide +kernel
theorem d_MO_init_36 : decode b_MO_init 36 = .ok (.aload_n 0, 1) := by decide +kernel
theorem d_MO_init_37 : decode b_MO_init 37 = .ok (.iconst 4, 1) := by decide +kernel
theorem d_MO_init_38 : decode b_MO_init 38 = .ok (.newarray .int, 2) := by decide +kernel
theorem d_MO_init_40 : decode b_MO_init 40 = .ok (.putfield 22, 3) := by decide +kernel
theorem d_MO_init_43 : decode b_MO_init 43 = .ok (.aload_n 0, 1) := by decide +kernel
theorem d_MO_init_44 : decode b_MO_init 44 = .ok (.sipush 144, 3) := by decide +kernel
theorem d_MO_init_47 : decode b_MO_init 47 = .ok (.newarray .int, 2) := by decide +kernel
theorem d_MO_init_49 : decode b_MO_init 49 = .ok (.putfield 25, 3) := by decide +kernel
theorem d_MO_init_52 : decode b_MO_init 52 = .ok (.aload_n 0, 1) := by decide +kernel
theorem d_MO_init_53 : decode b_MO_init 53 = .ok (.bipush 80, 2) := by decide +kernel
theorem d_MO_init_55 : decode b_MO_init 55 = .ok (.newarray .int, 2) := by decide +kernel
theorem d_MO_init_57 : decode b_MO_init 57 = .ok (.putfield 28, 3) := by decide +kernel
theorem d_MO_init_60 : decode b_MO_init 60 = .ok (.aload_n 0, 1) := by decide +kernel
theorem d_MO_init_61 : decode b_MO_init 61 = .ok (.bipush 10, 2) := by decide +kernel
theorem d_MO_init_63 : decode b_MO_init 63 = .ok (.newarray .int, 2) := by decide +kernel
theorem d_MO_init_65 : decode b_MO_init 65 = .ok (.putfield 31, 3) := by decide +kernel
theorem d_MO_init_68 : decode b_MO_init 68 = .ok (.aload_n 0, 1) := by decide +kernel
theorem d_MO_init_69 : decode b_MO_init 69 = .ok (.bipush 8, 2) := by decide +kernel
theorem d_MO_init_71 : decode b_MO_init 71 = .ok (.newarray .int, 2) := by decide +kernel
theorem d_MO_init_73 : decode b_MO_init 73 = .ok (.putfield 34, 3) := by decide +kernel
theorem d_MO_init_76 : decode b_MO_init 76 = .ok (.aload_n 0, 1) := by decide +kernel
theorem d_MO_init_77 : decode b_MO_init 77 = .ok (.bipush 8, 2) := by decide +kernel
theorem d_MO_init_79 : decode b_MO_init 79 = .ok (.newarray .int, 2) := by decide +kernel
theorem d_MO_init_81 : decode b_MO_init 81 = .ok (.putfield 37, 3) := by decide +kernel
theorem d_MO_init_84 : decode b_MO_init 84 = .ok (.aload_n 0, 1) := by decide +kernel
theorem d_MO_init_85 : decode b_MO_init 85 = .ok (.bipush 9, 2) := by decide +kernel
theorem d_MO_init_87 : decode b_MO_init 87 = .ok (.newarray .int, 2) := by decide +kernel
theorem d_MO_init_89 : decode b_MO_init 89 = .ok (.putfield 40, 3) := by decide +kernel
theorem d_MO_init_92 : decode b_MO_init 92 = .ok (.aload_n 0, 1) := by decide +kernel
theorem d_MO_init_93 : decode b_MO_init 93 = .ok (.bipush 9, 2) := by decide +kernel
theorem d_MO_init_95 : decode b_MO_init 95 = .ok (.newarray .int, 2) := by decide +kernel
theorem d_MO_init_97 : decode b_MO_init 97 = .ok (.putfield 43, 3) := by decide +kernel
theorem d_MO_init_100 : decode b_MO_init 100 = .ok (.return_, 1) := by decide +kernel
theorem d_MO_within_0 : decode b_MO_within 0 = .ok (.iload_n 1, 1) := by decide +kernel
theorem d_MO_within_1 : decode b_MO_within 1 = .ok (.iload_n 2, 1) := by decide +kernel
theorem d_MO_within_2 : decode b_MO_within 2 = .ok (.if_icmp .lt 12, 3) := by decide +kernel
theorem d_MO_within_5 : decode b_MO_within 5 = .ok (.iload_n 1, 1) := by decide +kernel
theorem d_MO_within_6 : decode b_MO_within 6 = .ok (.iload_n 3, 1) := by decide +kernel
theorem d_MO_within_7 : decode b_MO_within 7 = .ok (.if_icmp .gt 7, 3) := by decide +kernel
theorem d_MO_within_10 : decode b_MO_within 10 = .ok (.iconst 1, 1) := by decide +kernel
theorem d_MO_within_11 : decode b_MO_within 11 = .ok (.goto 4, 3) := by decide +kernel
theorem d_MO_within_14 : decode b_MO_within 14 = .ok (.iconst 0, 1) := by decide +kernel
theorem d_MO_within_15 : decode b_MO_within 15 = .ok (.ireturn, 1) := by decide +kernel
theorem d_MO_variable_0 : decode b_MO_variable 0 = .ok (.aload_n 0, 1) := by decide +kernel
theorem d_MO_variable_1 : decode b_MO_variable 1 = .ok (.getfield 46, 3) := by decide +kernel
theorem d_MO_variable_4 : decode b_MO_variable 4 = .ok (.ifCond .ne 30, 3) := by decide +kernel
theorem d_MO_variable_7 : decode b_MO_variable 7 = .ok (.aload_n 0, 1) := by decide +kernel
theorem d_MO_variable_8 : decode b_MO_variable 8 = .ok (.getfield 50, 3) := by decide +kernel
theorem d_MO_variable_11 : decode b_MO_variable 11 = .ok (.ifCond .gt 23, 3) := by decide +kernel
theorem d_MO_variable_14 : decode b_MO_variable 14 = .ok (.aload_n 0, 1) := by decide +kernel
theorem d_MO_variable_15 : decode b_MO_variable 15 = .ok (.getfield 54, 3) := by decide +kernel
theorem d_MO_variable_18 : decode b_MO_variable 18 = .ok (.bipush 8, 2) := by decide +kernel
theorem d_MO_variable_20 : decode b_MO_variable 20 = .ok (.if_icmp .eq 14, 3) := by decide +kernel
theorem d_MO_variable_23 : decode b_MO_variable 23 = .ok (.aload_n 0, 1) := by decide +kernel
theorem d_MO_variable_24 : decode b_MO_variable 24 = .ok (.iload_n 1, 1) := by decide +kernel
theorem d_MO_variable_25 : decode b_MO_variable 25 = .ok (.iconst 1, 1) := by decide +kernel
theorem d_MO_variable_26 : decode b_MO_variable 26 = .ok (.ldc 57, 2) := by decide +kernel
theorem d_MO_variable_28 : decode b_MO_variable 28 = .ok (.invokevirtual 58, 3) := by decide +kernel
theorem d_MO_variable_31 : decode b_MO_variable 31 = .ok (.ifCond .ne 5, 3) := by decide +kernel
theorem d_MO_variable_34 : decode b_MO_variable 34 = .ok (.iconst (-1), 1) := by decide +kernel
theorem d_MO_variable_35 : decode b_MO_variable 35 = .ok (.ireturn, 1) := by decide +kernel
theorem d_MO_variable_36 : decode b_MO_variable 36 = .ok (.aload_n 0, 1) := by decide +kernel
theorem d_MO_variable_37 : decode b_MO_variable 37 = .ok (.getfield 7, 3) := by decide +kernel
theorem d_MO_variable_40 : decode b_MO_variable 40 = .ok (.aload_n 0, 1) := by decide +kernel
theorem d_MO_variable_41 : decode b_MO_variable 41 = .ok (.getfield 54, 3) := by decide +kernel
theorem d_MO_variable_44 : decode b_MO_variable 44 = .ok (.iload_n 1, 1) := by decide +kernel
theorem d_MO_variable_45 : decode b_MO_variable 45 = .ok (.iastore, 1) := by decide +kernel
theorem d_MO_variable_46 : decode b_MO_variable 46 = .ok (.aload_n 0, 1) := by decide +kernel
theorem d_MO_variable_47 : decode b_MO_variable 47 = .ok (.dup, 1) := by decide +kernel
theorem d_MO_variable_48 : decode b_MO_variable 48 = .ok (.getfield 54, 3) := by decide +kernel
theorem d_MO_variable_51 : decode b_MO_variable 51 = .ok (.iconst 1, 1) := by decide +kernel
theorem d_MO_variable_52 : decode b_MO_variable 52 = .ok (.iadd, 1) := by decide +kernel
theorem d_MO_variable_53 : decode b_MO_variable 53 = .ok (.putfield 54, 3) := by decide +kernel
theorem d_MO_variable_56 : decode b_MO_variable 56 = .ok (.aload_n 0, 1) := by decide +kernel
theorem d_MO_variable_57 : decode b_MO_variable 57 = .ok (.getfield 54, 3) := by decide +kernel
theorem d_MO_variable_60 : decode b_MO_variable 60 = .ok (.iconst 1, 1) := by decide +kernel
theorem d_MO_variable_61 : decode b_MO_variable 61 = .ok (.isub, 1) := by decide +kernel
theorem d_MO_variable_62 : decode b_MO_variable 62 = .ok (.ireturn, 1) := by decide +kernel
theorem d_MO_entry_0 : decode b_MO_entry 0 = .ok (.aload_n 0, 1) := by decide +kernel
theorem d_MO_entry_1 : decode b_MO_entry 1 = .ok (.getfield 46, 3) := by decide +kernel
theorem d_MO_entry_4 : decode b_MO_entry 4 = .ok (.ifCond .ne 54, 3) := by decide +kernel
theorem d_MO_entry_7 : decode b_MO_entry 7 = .ok (.aload_n 0, 1) := by decide +kernel
theorem d_MO_entry_8 : decode b_MO_entry 8 = .ok (.getfield 50, 3) := by decide +kernel
theorem d_MO_entry_11 : decode b_MO_entry 11 = .ok (.ifCond .gt 47, 3) := by decide +kernel
theorem d_MO_entry_14 : decode b_MO_entry 14 = .ok (.aload_n 0, 1) := by decide +kernel
theorem d_MO_entry_15 : decode b_MO_entry 15 = .ok (.iload_n 1, 1) := by decide +kernel
theorem d_MO_entry_16 : decode b_MO_entry 16 = .ok (.iconst 0, 1) := by decide +kernel
theorem d_MO_entry_17 : decode b_MO_entry 17 = .ok (.iconst 3, 1) := by decide +kernel
theorem d_MO_entry_18 : decode b_MO_entry 18 = .ok (.invokevirtual 58, 3) := by decide +kernel
theorem d_MO_entry_21 : decode b_MO_entry 21 = .ok (.ifCond .eq 37, 3) := by decide +kernel
theorem d_MO_entry_24 : decode b_MO_entry 24 = .ok (.aload_n 0, 1) := by decide +kernel
theorem d_MO_entry_25 : decode b_MO_entry 25 = .ok (.iload_n 2, 1) := by decide +kernel
theorem d_MO_entry_26 : decode b_MO_entry 26 = .ok (.iconst (-1), 1) := by decide +kernel
theorem d_MO_entry_27 : decode b_MO_entry 27 = .ok (.bipush 15, 2) := by decide +kernel
theorem d_MO_entry_29 : decode b_MO_entry 29 = .ok (.invokevirtual 58, 3) := by decide +kernel
theorem d_MO_entry_32 : decode b_MO_entry 32 = .ok (.ifCond .eq 26, 3) := by decide +kernel
theorem d_MO_entry_35 : decode b_MO_entry 35 = .ok (.aload_n 0, 1) := by decide +kernel
theorem d_MO_entry_36 : decode b_MO_entry 36 = .ok (.iload_n 3, 1) := by decide +kernel
theorem d_MO_entry_37 : decode b_MO_entry 37 = .ok (.iconst (-1), 1) := by decide +kernel
theorem d_MO_entry_38 : decode b_MO_entry 38 = .ok (.bipush 15, 2) := by decide +kernel
theorem d_MO_entry_40 : decode b_MO_entry 40 = .ok (.invokevirtual 58, 3) := by decide +kernel
theorem d_MO_entry_43 : decode b_MO_entry 43 = .ok (.ifCond .eq 15, 3) := by decide +kernel
theorem d_MO_entry_46 : decode b_MO_entry 46 = .ok (.aload_n 0, 1) := by decide +kernel
theorem d_MO_entry_47 : decode b_MO_entry 47 = .ok (.iload 4, 2) := by decide +kernel
theorem d_MO_entry_49 : decode b_MO_entry 49 = .ok (.iconst (-1), 1) := by decide +kernel
theorem d_MO_entry_50 : decode b_MO_entry 50 = .ok (.bipush 15, 2) := by decide +kernel
theorem d_MO_entry_52 : decode b_MO_entry 52 = .ok (.invokevirtual 58, 3) := by decide +kernel
theorem d_MO_entry_55 : decode b_MO_entry 55 = .ok (.ifCond .ne 5, 3) := by decide +kernel
theorem d_MO_entry_58 : decode b_MO_entry 58 = .ok (.iconst 0, 1) := by decide +kernel
theorem d_MO_entry_59 : decode b_MO_entry 59 = .ok (.ireturn, 1) := by decide +kernel
theorem d_MO_entry_60 : decode b_MO_entry 60 = .ok (.iconst 0, 1) := by decide +kernel
theorem d_MO_entry_61 : decode b_MO_entry 61 = .ok (.istore 5, 2) := by decide +kernel
theorem d_MO_entry_63 : decode b_MO_entry 63 = .ok (.iload 5, 2) := by decide +kernel
theorem d_MO_entry_65 : decode b_MO_entry 65 = .ok (.aload_n 0, 1) := by decide +kernel
theorem d_MO_entry_66 : decode b_MO_entry 66 = .ok (.getfield 62, 3) := by decide +kernel
theorem d_MO_entry_69 : decode b_MO_entry 69 = .ok (.if_icmp .ge 33, 3) := by decide +kernel
theorem d_MO_entry_72 : decode b_MO_entry 72 = .ok (.aload_n 0, 1) := by decide +kernel
theorem d_MO_entry_73 : decode b_MO_entry 73 = .ok (.getfield 13, 3) := by decide +kernel
theorem d_MO_entry_76 : decode b_MO_entry 76 = .ok (.iload 5, 2) := by decide +kernel
theorem d_MO_entry_78 : decode b_MO_entry 78 = .ok (.iaload, 1) := by decide +kernel
theorem d_MO_entry_79 : decode b_MO_entry 79 = .ok (.iconst 3, 1) := by decide +kernel
theorem d_MO_entry_80 : decode b_MO_entry 80 = .ok (.if_icmp .ne 16, 3) := by decide +kernel
theorem d_MO_entry_83 : decode b_MO_entry 83 = .ok (.aload_n 0, 1) := by decide +kernel
theorem d_MO_entry_84 : decode b_MO_entry 84 = .ok (.getfield 19, 3) := by decide +kernel
theorem d_MO_entry_87 : decode b_MO_entry 87 = .ok (.iload 5, 2) := by decide +kernel
theorem d_MO_entry_89 : decode b_MO_entry 89 = .ok (.iaload, 1) := by decide +kernel
theorem d_MO_entry_90 : decode b_MO_entry 90 = .ok (.iload_n 1, 1) := by decide +kernel
theorem d_MO_entry_91 : decode b_MO_entry 91 = .ok (.if_icmp .ne 5, 3) := by decide +kernel
theorem d_MO_entry_94 : decode b_MO_entry 94 = .ok (.iconst 0, 1) := by decide +kernel
theorem d_MO_entry_95 : decode b_MO_entry 95 = .ok (.ireturn, 1) := by decide +kernel
theorem d_MO_entry_96 : decode b_MO_entry 96 = .ok (.iinc 5 1, 3) := by decide +kernel
theorem d_MO_entry_99 : decode b_MO_entry 99 = .ok (.goto (-36), 3) := by decide +kernel
theorem d_MO_entry_102 : decode b_MO_entry 102 = .ok (.aload_n 0, 1) := by decide +kernel
theorem d_MO_entry_103 : decode b_MO_entry 103 = .ok (.getfield 22, 3) := by decide +kernel
theorem d_MO_entry_106 : decode b_MO_entry 106 = .ok (.iload_n 1, 1) := by decide +kernel
theorem d_MO_entry_107 : decode b_MO_entry 107 = .ok (.iaload, 1) := by decide +kernel
theorem d_MO_entry_108 : decode b_MO_entry 108 = .ok (.bipush 12, 2) := by decide +kernel
theorem d_MO_entry_110 : decode b_MO_entry 110 = .ok (.if_icmp .ne 5, 3) := by decide +kernel
theorem d_MO_entry_113 : decode b_MO_entry 113 = .ok (.iconst 0, 1) := by decide +kernel
theorem d_MO_entry_114 : decode b_MO_entry 114 = .ok (.ireturn, 1) := by decide +kernel
theorem d_MO_entry_115 : decode b_MO_entry 115 = .ok (.bipush 36, 2) := by decide +kernel
theorem d_MO_entry_117 : decode b_MO_entry 117 = .ok (.iload_n 1, 1) := by decide +kernel
theorem d_MO_entry_118 : decode b_MO_entry 118 = .ok (.imul, 1) := by decide +kernel
theorem d_MO_entry_119 : decode b_MO_entry 119 = .ok (.iconst 3, 1) := by decide +kernel
theorem d_MO_entry_120 : decode b_MO_entry 120 = .ok (.aload_n 0, 1) := by decide +kernel
theorem d_MO_entry_121 : decode b_MO_entry 121 = .ok (.getfield 22, 3) := by decide +kernel
theorem d_MO_entry_124 : decode b_MO_entry 124 = .ok (.iload_n 1, 1) := by decide +kernel
theorem d_MO_entry_125 : decode b_MO_entry 125 = .ok (.iaload, 1) := by decide +kernel
theorem d_MO_entry_126 : decode b_MO_entry 126 = .ok (.imul, 1) := by decide +kernel
theorem d_MO_entry_127 : decode b_MO_entry 127 = .ok (.iadd, 1) := by decide +kernel
theorem d_MO_entry_128 : decode b_MO_entry 128 = .ok (.istore 5, 2) := by decide +kernel
theorem d_MO_entry_130 : decode b_MO_entry 130 = .ok (.aload_n 0, 1) := by decide +kernel
theorem d_MO_entry_131 : decode b_MO_entry 131 = .ok (.getfield 25, 3) := by decide +kernel
theorem d_MO_entry_134 : decode b_MO_entry 134 = .ok (.iload 5, 2) := by decide +kernel
theorem d_MO_entry_136 : decode b_MO_entry 136 = .ok (.iload_n 2, 1) := by decide +kernel
theorem d_MO_entry_137 : decode b_MO_entry 137 = .ok (.iastore, 1) := by decide +kernel
theorem d_MO_entry_138 : decode b_MO_entry 138 = .ok (.aload_n 0, 1) := by decide +kernel
theorem d_MO_entry_139 : decode b_MO_entry 139 = .ok (.getfield 25, 3) := by decide +kernel
theorem d_MO_entry_142 : decode b_MO_entry 142 = .ok (.iload 5, 2) := by decide +kernel
theorem d_MO_entry_144 : decode b_MO_entry 144 = .ok (.iconst 1, 1) := by decide +kernel
theorem d_MO_entry_145 : decode b_MO_entry 145 = .ok (.iadd, 1) := by decide +kernel
theorem d_MO_entry_146 : decode b_MO_entry 146 = .ok (.iload_n 3, 1) := by decide +kernel
theorem d_MO_entry_147 : decode b_MO_entry 147 = .ok (.iastore, 1) := by decide +kernel
theorem d_MO_entry_148 : decode b_MO_entry 148 = .ok (.aload_n 0, 1) := by decide +kernel
theorem d_MO_entry_149 : decode b_MO_entry 149 = .ok (.getfield 25, 3) := by decide +kernel
theorem d_MO_entry_152 : decode b_MO_entry 152 = .ok (.iload 5, 2) := by decide +kernel
theorem d_MO_entry_154 : decode b_MO_entry 154 = .ok (.iconst 2, 1) := by decide +kernel
theorem d_MO_entry_155 : decode b_MO_entry 155 = .ok (.iadd, 1) := by decide +kernel
theorem d_MO_entry_156 : decode b_MO_entry 156 = .ok (.iload 4, 2) := by decide +kernel
theorem d_MO_entry_158 : decode b_MO_entry 158 = .ok (.iastore, 1) := by decide +kernel
theorem d_MO_entry_159 : decode b_MO_entry 159 = .ok (.aload_n 0, 1) := by decide +kernel
theorem d_MO_entry_160 : decode b_MO_entry 160 = .ok (.getfield 22, 3) := by decide +kernel
theorem d_MO_entry_163 : decode b_MO_entry 163 = .ok (.iload_n 1, 1) := by decide +kernel
theorem d_MO_entry_164 : decode b_MO_entry 164 = .ok (.dup2, 1) := by decide +kernel
theorem d_MO_entry_165 : decode b_MO_entry 165 = .ok (.iaload, 1) := by decide +kernel
theorem d_MO_entry_166 : decode b_MO_entry 166 = .ok (.iconst 1, 1) := by decide +kernel
theorem d_MO_entry_167 : decode b_MO_entry 167 = .ok (.iadd, 1) := by decide +kernel
theorem d_MO_entry_168 : decode b_MO_entry 168 = .ok (.iastore, 1) := by decide +kernel
theorem d_MO_entry_169 : decode b_MO_entry 169 = .ok (.iconst 1, 1) := by decide +kernel
theorem d_MO_entry_170 : decode b_MO_entry 170 = .ok (.ireturn, 1) := by decide +kernel
theorem d_MO_rule_0 : decode b_MO_rule 0 = .ok (.aload_n 0, 1) := by decide +kernel
theorem d_MO_rule_1 : decode b_MO_rule 1 = .ok (.getfield 46, 3) := by decide +kernel
theorem d_MO_rule_4 : decode b_MO_rule 4 = .ok (.ifCond .ne 47, 3) := by decide +kernel
theorem d_MO_rule_7 : decode b_MO_rule 7 = .ok (.aload_n 0, 1) := by decide +kernel
theorem d_MO_rule_8 : decode b_MO_rule 8 = .ok (.getfield 62, 3) := by decide +kernel
theorem d_MO_rule_11 : decode b_MO_rule 11 = .ok (.bipush 16, 2) := by decide +kernel
theorem d_MO_rule_13 : decode b_MO_rule 13 = .ok (.if_icmp .eq 38, 3) := by decide +kernel
theorem d_MO_rule_16 : decode b_MO_rule 16 = .ok (.aload_n 0, 1) := by decide +kernel
theorem d_MO_rule_17 : decode b_MO_rule 17 = .ok (.iload_n 2, 1) := by decide +kernel
theorem d_MO_rule_18 : decode b_MO_rule 18 = .ok (.iconst 0, 1) := by decide +kernel
theorem d_MO_rule_19 : decode b_MO_rule 19 = .ok (.aload_n 0, 1) := by decide +kernel
theorem d_MO_rule_20 : decode b_MO_rule 20 = .ok (.getfield 54, 3) := by decide +kernel
theorem d_MO_rule_23 : decode b_MO_rule 23 = .ok (.iconst 1, 1) := by decide +kernel
theorem d_MO_rule_24 : decode b_MO_rule 24 = .ok (.isub, 1) := by decide +kernel
theorem d_MO_rule_25 : decode b_MO_rule 25 = .ok (.invokevirtual 58, 3) := by decide +kernel
theorem d_MO_rule_28 : decode b_MO_rule 28 = .ok (.ifCond .eq 23, 3) := by decide +kernel
theorem d_MO_rule_31 : decode b_MO_rule 31 = .ok (.aload_n 0, 1) := by decide +kernel
theorem d_MO_rule_32 : decode b_MO_rule 32 = .ok (.iload_n 3, 1) := by decide +kernel
theorem d_MO_rule_33 : decode b_MO_rule 33 = .ok (.iconst 0, 1) := by decide +kernel
theorem d_MO_rule_34 : decode b_MO_rule 34 = .ok (.aload_n 0, 1) := by decide +kernel
theorem d_MO_rule_35 : decode b_MO_rule 35 = .ok (.getfield 54, 3) := by decide +kernel
theorem d_MO_rule_38 : decode b_MO_rule 38 = .ok (.iconst 1, 1) := by decide +kernel
theorem d_MO_rule_39 : decode b_MO_rule 39 = .ok (.isub, 1) := by decide +kernel
theorem d_MO_rule_40 : decode b_MO_rule 40 = .ok (.invokevirtual 58, 3) := by decide +kernel
theorem d_MO_rule_43 : decode b_MO_rule 43 = .ok (.ifCond .eq 8, 3) := by decide +kernel
theorem d_MO_rule_46 : decode b_MO_rule 46 = .ok (.iload_n 2, 1) := by decide +kernel
theorem d_MO_rule_47 : decode b_MO_rule 47 = .ok (.iload_n 3, 1) := by decide +kernel
theorem d_MO_rule_48 : decode b_MO_rule 48 = .ok (.if_icmp .ne 5, 3) := by decide +kernel
theorem d_MO_rule_51 : decode b_MO_rule 51 = .ok (.iconst (-1), 1) := by decide +kernel
theorem d_MO_rule_52 : decode b_MO_rule 52 = .ok (.ireturn, 1) := by decide +kernel
theorem d_MO_rule_53 : decode b_MO_rule 53 = .ok (.iload_n 1, 1) := by decide +kernel
theorem d_MO_rule_54 : decode b_MO_rule 54 = .ok (.iconst 2, 1) := by decide +kernel
theorem d_MO_rule_55 : decode b_MO_rule 55 = .ok (.if_icmp .lt 33, 3) := by decide +kernel
theorem d_MO_rule_58 : decode b_MO_rule 58 = .ok (.aload_n 0, 1) := by decide +kernel
theorem d_MO_rule_59 : decode b_MO_rule 59 = .ok (.iload 4, 2) := by decide +kernel
theorem d_MO_rule_61 : decode b_MO_rule 61 = .ok (.iconst 0, 1) := by decide +kernel
theorem d_MO_rule_62 : decode b_MO_rule 62 = .ok (.aload_n 0, 1) := by decide +kernel
theorem d_MO_rule_63 : decode b_MO_rule 63 = .ok (.getfield 54, 3) := by decide +kernel
theorem d_MO_rule_66 : decode b_MO_rule 66 = .ok (.iconst 1, 1) := by decide +kernel
theorem d_MO_rule_67 : decode b_MO_rule 67 = .ok (.isub, 1) := by decide +kernel
theorem d_MO_rule_68 : decode b_MO_rule 68 = .ok (.invokevirtual 58, 3) := by decide +kernel
theorem d_MO_rule_71 : decode b_MO_rule 71 = .ok (.ifCond .eq 15, 3) := by decide +kernel
theorem d_MO_rule_74 : decode b_MO_rule 74 = .ok (.iload 4, 2) := by decide +kernel
theorem d_MO_rule_76 : decode b_MO_rule 76 = .ok (.iload_n 2, 1) := by decide +kernel
theorem d_MO_rule_77 : decode b_MO_rule 77 = .ok (.if_icmp .eq 9, 3) := by decide +kernel
theorem d_MO_rule_80 : decode b_MO_rule 80 = .ok (.iload 4, 2) := by decide +kernel
theorem d_MO_rule_82 : decode b_MO_rule 82 = .ok (.iload_n 3, 1) := by decide +kernel
theorem d_MO_rule_83 : decode b_MO_rule 83 = .ok (.if_icmp .ne 5, 3) := by decide +kernel
theorem d_MO_rule_86 : decode b_MO_rule 86 = .ok (.iconst (-1), 1) := by decide +kernel
theorem d_MO_rule_87 : decode b_MO_rule 87 = .ok (.ireturn, 1) := by decide +kernel
theorem d_MO_rule_88 : decode b_MO_rule 88 = .ok (.aload_n 0, 1) := by decide +kernel
theorem d_MO_rule_89 : decode b_MO_rule 89 = .ok (.getfield 13, 3) := by decide +kernel
theorem d_MO_rule_92 : decode b_MO_rule 92 = .ok (.aload_n 0, 1) := by decide +kernel
theorem d_MO_rule_93 : decode b_MO_rule 93 = .ok (.getfield 62, 3) := by decide +kernel
theorem d_MO_rule_96 : decode b_MO_rule 96 = .ok (.iload_n 1, 1) := by decide +kernel
theorem d_MO_rule_97 : decode b_MO_rule 97 = .ok (.iastore, 1) := by decide +kernel
theorem d_MO_rule_98 : decode b_MO_rule 98 = .ok (.aload_n 0, 1) := by decide +kernel
theorem d_MO_rule_99 : decode b_MO_rule 99 = .ok (.getfield 16, 3) := by decide +kernel
theorem d_MO_rule_102 : decode b_MO_rule 102 = .ok (.iconst 3, 1) := by decide +kernel
theorem d_MO_rule_103 : decode b_MO_rule 103 = .ok (.aload_n 0, 1) := by decide +kernel
theorem d_MO_rule_104 : decode b_MO_rule 104 = .ok (.getfield 62, 3) := by decide +kernel
theorem d_MO_rule_107 : decode b_MO_rule 107 = .ok (.imul, 1) := by decide +kernel
theorem d_MO_rule_108 : decode b_MO_rule 108 = .ok (.iload_n 2, 1) := by decide +kernel
theorem d_MO_rule_109 : decode b_MO_rule 109 = .ok (.iastore, 1) := by decide +kernel
theorem d_MO_rule_110 : decode b_MO_rule 110 = .ok (.aload_n 0, 1) := by decide +kernel
theorem d_MO_rule_111 : decode b_MO_rule 111 = .ok (.getfield 16, 3) := by decide +kernel
theorem d_MO_rule_114 : decode b_MO_rule 114 = .ok (.iconst 3, 1) := by decide +kernel
theorem d_MO_rule_115 : decode b_MO_rule 115 = .ok (.aload_n 0, 1) := by decide +kernel
theorem d_MO_rule_116 : decode b_MO_rule 116 = .ok (.getfield 62, 3) := by decide +kernel
theorem d_MO_rule_119 : decode b_MO_rule 119 = .ok (.imul, 1) := by decide +kernel
theorem d_MO_rule_120 : decode b_MO_rule 120 = .ok (.iconst 1, 1) := by decide +kernel
theorem d_MO_rule_121 : decode b_MO_rule 121 = .ok (.iadd, 1) := by decide +kernel
theorem d_MO_rule_122 : decode b_MO_rule 122 = .ok (.iload_n 3, 1) := by decide +kernel
theorem d_MO_rule_123 : decode b_MO_rule 123 = .ok (.iastore, 1) := by decide +kernel
theorem d_MO_rule_124 : decode b_MO_rule 124 = .ok (.aload_n 0, 1) := by decide +kernel
theorem d_MO_rule_125 : decode b_MO_rule 125 = .ok (.getfield 16, 3) := by decide +kernel
theorem d_MO_rule_128 : decode b_MO_rule 128 = .ok (.iconst 3, 1) := by decide +kernel
theorem d_MO_rule_129 : decode b_MO_rule 129 = .ok (.aload_n 0, 1) := by decide +kernel
theorem d_MO_rule_130 : decode b_MO_rule 130 = .ok (.getfield 62, 3) := by decide +kernel
theorem d_MO_rule_133 : decode b_MO_rule 133 = .ok (.imul, 1) := by decide +kernel
theorem d_MO_rule_134 : decode b_MO_rule 134 = .ok (.iconst 2, 1) := by decide +kernel
theorem d_MO_rule_135 : decode b_MO_rule 135 = .ok (.iadd, 1) := by decide +kernel
theorem d_MO_rule_136 : decode b_MO_rule 136 = .ok (.iload 4, 2) := by decide +kernel
theorem d_MO_rule_138 : decode b_MO_rule 138 = .ok (.iastore, 1) := by decide +kernel
theorem d_MO_rule_139 : decode b_MO_rule 139 = .ok (.aload_n 0, 1) := by decide +kernel
theorem d_MO_rule_140 : decode b_MO_rule 140 = .ok (.getfield 19, 3) := by decide +kernel
theorem d_MO_rule_143 : decode b_MO_rule 143 = .ok (.aload_n 0, 1) := by decide +kernel
theorem d_MO_rule_144 : decode b_MO_rule 144 = .ok (.getfield 62, 3) := by decide +kernel
theorem d_MO_rule_147 : decode b_MO_rule 147 = .ok (.iload 5, 2) := by decide +kernel
theorem d_MO_rule_149 : decode b_MO_rule 149 = .ok (.iastore, 1) := by decide +kernel
theorem d_MO_rule_150 : decode b_MO_rule 150 = .ok (.aload_n 0, 1) := by decide +kernel
theorem d_MO_rule_151 : decode b_MO_rule 151 = .ok (.dup, 1) := by decide +kernel
theorem d_MO_rule_152 : decode b_MO_rule 152 = .ok (.getfield 62, 3) := by decide +kernel
theorem d_MO_rule_155 : decode b_MO_rule 155 = .ok (.iconst 1, 1) := by decide +kernel
theorem d_MO_rule_156 : decode b_MO_rule 156 = .ok (.iadd, 1) := by decide +kernel
theorem d_MO_rule_157 : decode b_MO_rule 157 = .ok (.putfield 62, 3) := by decide +kernel
theorem d_MO_rule_160 : decode b_MO_rule 160 = .ok (.aload_n 0, 1) := by decide +kernel
theorem d_MO_rule_161 : decode b_MO_rule 161 = .ok (.getfield 62, 3) := by decide +kernel
theorem d_MO_rule_164 : decode b_MO_rule 164 = .ok (.iconst 1, 1) := by decide +kernel
theorem d_MO_rule_165 : decode b_MO_rule 165 = .ok (.isub, 1) := by decide +kernel
theorem d_MO_rule_166 : decode b_MO_rule 166 = .ok (.ireturn, 1) := by decide +kernel
theorem d_MO_differ_0 : decode b_MO_differ 0 = .ok (.aload_n 0, 1) := by decide +kernel
theorem d_MO_differ_1 : decode b_MO_differ 1 = .ok (.iload_n 3, 1) := by decide +kernel
theorem d_MO_differ_2 : decode b_MO_differ 2 = .ok (.bipush (-15), 2) := by decide +kernel
theorem d_MO_differ_4 : decode b_MO_differ 4 = .ok (.bipush 15, 2) := by decide +kernel
theorem d_MO_differ_6 : decode b_MO_differ 6 = .ok (.invokevirtual 58, 3) := by decide +kernel
theorem d_MO_differ_9 : decode b_MO_differ 9 = .ok (.ifCond .eq 15, 3) := by decide +kernel
theorem d_MO_differ_12 : decode b_MO_differ 12 = .ok (.aload_n 0, 1) := by decide +kernel
theorem d_MO_differ_13 : decode b_MO_differ 13 = .ok (.iconst 0, 1) := by decide +kernel
theorem d_MO_differ_14 : decode b_MO_differ 14 = .ok (.iload_n 1, 1) := by decide +kernel
theorem d_MO_differ_15 : decode b_MO_differ 15 = .ok (.iload_n 2, 1) := by decide +kernel
theorem d_MO_differ_16 : decode b_MO_differ 16 = .ok (.iconst (-1), 1) := by decide +kernel
theorem d_MO_differ_17 : decode b_MO_differ 17 = .ok (.iload_n 3, 1) := by decide +kernel
theorem d_MO_differ_18 : decode b_MO_differ 18 = .ok (.invokevirtual 65, 3) := by decide +kernel
theorem d_MO_differ_21 : decode b_MO_differ 21 = .ok (.goto 4, 3) := by decide +kernel
theorem d_MO_differ_24 : decode b_MO_differ 24 = .ok (.iconst (-1), 1) := by decide +kernel
theorem d_MO_differ_25 : decode b_MO_differ 25 = .ok (.ireturn, 1) := by decide +kernel
theorem d_MO_exceed_0 : decode b_MO_exceed 0 = .ok (.aload_n 0, 1) := by decide +kernel
theorem d_MO_exceed_1 : decode b_MO_exceed 1 = .ok (.iload_n 3, 1) := by decide +kernel
theorem d_MO_exceed_2 : decode b_MO_exceed 2 = .ok (.bipush (-15), 2) := by decide +kernel
theorem d_MO_exceed_4 : decode b_MO_exceed 4 = .ok (.bipush 15, 2) := by decide +kernel
theorem d_MO_exceed_6 : decode b_MO_exceed 6 = .ok (.invokevirtual 58, 3) := by decide +kernel
theorem d_MO_exceed_9 : decode b_MO_exceed 9 = .ok (.ifCond .eq 15, 3) := by decide +kernel
theorem d_MO_exceed_12 : decode b_MO_exceed 12 = .ok (.aload_n 0, 1) := by decide +kernel
theorem d_MO_exceed_13 : decode b_MO_exceed 13 = .ok (.iconst 1, 1) := by decide +kernel
theorem d_MO_exceed_14 : decode b_MO_exceed 14 = .ok (.iload_n 1, 1) := by decide +kernel
theorem d_MO_exceed_15 : decode b_MO_exceed 15 = .ok (.iload_n 2, 1) := by decide +kernel
theorem d_MO_exceed_16 : decode b_MO_exceed 16 = .ok (.iconst (-1), 1) := by decide +kernel
theorem d_MO_exceed_17 : decode b_MO_exceed 17 = .ok (.iload_n 3, 1) := by decide +kernel
theorem d_MO_exceed_18 : decode b_MO_exceed 18 = .ok (.invokevirtual 65, 3) := by decide +kernel
theorem d_MO_exceed_21 : decode b_MO_exceed 21 = .ok (.goto 4, 3) := by decide +kernel
theorem d_MO_exceed_24 : decode b_MO_exceed 24 = .ok (.iconst (-1), 1) := by decide +kernel
theorem d_MO_exceed_25 : decode b_MO_exceed 25 = .ok (.ireturn, 1) := by decide +kernel
theorem d_MO_total_0 : decode b_MO_total 0 = .ok (.aload_n 0, 1) := by decide +kernel
theorem d_MO_total_1 : decode b_MO_total 1 = .ok (.iload 4, 2) := by decide +kernel
theorem d_MO_total_3 : decode b_MO_total 3 = .ok (.iconst 0, 1) := by decide +kernel
theorem d_MO_total_4 : decode b_MO_total 4 = .ok (.bipush 45, 2) := by decide +kernel
theorem d_MO_total_6 : decode b_MO_total 6 = .ok (.invokevirtual 58, 3) := by decide +kernel
theorem d_MO_total_9 : decode b_MO_total 9 = .ok (.ifCond .eq 16, 3) := by decide +kernel
theorem d_MO_total_12 : decode b_MO_total 12 = .ok (.aload_n 0, 1) := by decide +kernel
theorem d_MO_total_13 : decode b_MO_total 13 = .ok (.iconst 2, 1) := by decide +kernel
theorem d_MO_total_14 : decode b_MO_total 14 = .ok (.iload_n 1, 1) := by decide +kernel
theorem d_MO_total_15 : decode b_MO_total 15 = .ok (.iload_n 2, 1) := by decide +kernel
theorem d_MO_total_16 : decode b_MO_total 16 = .ok (.iload_n 3, 1) := by decide +kernel
theorem d_MO_total_17 : decode b_MO_total 17 = .ok (.iload 4, 2) := by decide +kernel
theorem d_MO_total_19 : decode b_MO_total 19 = .ok (.invokevirtual 65, 3) := by decide +kernel
theorem d_MO_total_22 : decode b_MO_total 22 = .ok (.goto 4, 3) := by decide +kernel
theorem d_MO_total_25 : decode b_MO_total 25 = .ok (.iconst (-1), 1) := by decide +kernel
theorem d_MO_total_26 : decode b_MO_total 26 = .ok (.ireturn, 1) := by decide +kernel
theorem d_MO_listed_0 : decode b_MO_listed 0 = .ok (.aload_n 0, 1) := by decide +kernel
theorem d_MO_listed_1 : decode b_MO_listed 1 = .ok (.iload_n 1, 1) := by decide +kernel
theorem d_MO_listed_2 : decode b_MO_listed 2 = .ok (.iconst 0, 1) := by decide +kernel
theorem d_MO_listed_3 : decode b_MO_listed 3 = .ok (.iconst 3, 1) := by decide +kernel
theorem d_MO_listed_4 : decode b_MO_listed 4 = .ok (.invokevirtual 58, 3) := by decide +kernel
theorem d_MO_listed_7 : decode b_MO_listed 7 = .ok (.ifCond .eq 16, 3) := by decide +kernel
theorem d_MO_listed_10 : decode b_MO_listed 10 = .ok (.aload_n 0, 1) := by decide +kernel
theorem d_MO_listed_11 : decode b_MO_listed 11 = .ok (.iconst 3, 1) := by decide +kernel
theorem d_MO_listed_12 : decode b_MO_listed 12 = .ok (.iload_n 2, 1) := by decide +kernel
theorem d_MO_listed_13 : decode b_MO_listed 13 = .ok (.iload_n 3, 1) := by decide +kernel
theorem d_MO_listed_14 : decode b_MO_listed 14 = .ok (.iload 4, 2) := by decide +kernel
theorem d_MO_listed_16 : decode b_MO_listed 16 = .ok (.iload_n 1, 1) := by decide +kernel
theorem d_MO_listed_17 : decode b_MO_listed 17 = .ok (.invokevirtual 65, 3) := by decide +kernel
theorem d_MO_listed_20 : decode b_MO_listed 20 = .ok (.goto 4, 3) := by decide +kernel
theorem d_MO_listed_23 : decode b_MO_listed 23 = .ok (.iconst (-1), 1) := by decide +kernel
theorem d_MO_listed_24 : decode b_MO_listed 24 = .ok (.ireturn, 1) := by decide +kernel
theorem d_MO_remove_0 : decode b_MO_remove 0 = .ok (.aload_n 0, 1) := by decide +kernel
theorem d_MO_remove_1 : decode b_MO_remove 1 = .ok (.getfield 46, 3) := by decide +kernel
theorem d_MO_remove_4 : decode b_MO_remove 4 = .ok (.ifCond .ne 29, 3) := by decide +kernel
theorem d_MO_remove_7 : decode b_MO_remove 7 = .ok (.aload_n 0, 1) := by decide +kernel
theorem d_MO_remove_8 : decode b_MO_remove 8 = .ok (.iload_n 1, 1) := by decide +kernel
theorem d_MO_remove_9 : decode b_MO_remove 9 = .ok (.iconst 0, 1) := by decide +kernel
theorem d_MO_remove_10 : decode b_MO_remove 10 = .ok (.aload_n 0, 1) := by decide +kernel
theorem d_MO_remove_11 : decode b_MO_remove 11 = .ok (.getfield 54, 3) := by decide +kernel
theorem d_MO_remove_14 : decode b_MO_remove 14 = .ok (.iconst 1, 1) := by decide +kernel
theorem d_MO_remove_15 : decode b_MO_remove 15 = .ok (.isub, 1) := by decide +kernel
theorem d_MO_remove_16 : decode b_MO_remove 16 = .ok (.invokevirtual 58, 3) := by decide +kernel
theorem d_MO_remove_19 : decode b_MO_remove 19 = .ok (.ifCond .eq 14, 3) := by decide +kernel
theorem d_MO_remove_22 : decode b_MO_remove 22 = .ok (.aload_n 0, 1) := by decide +kernel
theorem d_MO_remove_23 : decode b_MO_remove 23 = .ok (.iload_n 2, 1) := by decide +kernel
theorem d_MO_remove_24 : decode b_MO_remove 24 = .ok (.iconst 0, 1) := by decide +kernel
theorem d_MO_remove_25 : decode b_MO_remove 25 = .ok (.bipush 15, 2) := by decide +kernel
theorem d_MO_remove_27 : decode b_MO_remove 27 = .ok (.invokevirtual 58, 3) := by decide +kernel
theorem d_MO_remove_30 : decode b_MO_remove 30 = .ok (.ifCond .ne 5, 3) := by decide +kernel
theorem d_MO_remove_33 : decode b_MO_remove 33 = .ok (.iconst 0, 1) := by decide +kernel
theorem d_MO_remove_34 : decode b_MO_remove 34 = .ok (.ireturn, 1) := by decide +kernel
theorem d_MO_remove_35 : decode b_MO_remove 35 = .ok (.aload_n 0, 1) := by decide +kernel
theorem d_MO_remove_36 : decode b_MO_remove 36 = .ok (.getfield 7, 3) := by decide +kernel
theorem d_MO_remove_39 : decode b_MO_remove 39 = .ok (.iload_n 1, 1) := by decide +kernel
theorem d_MO_remove_40 : decode b_MO_remove 40 = .ok (.iaload, 1) := by decide +kernel
theorem d_MO_remove_41 : decode b_MO_remove 41 = .ok (.iconst 1, 1) := by decide +kernel
theorem d_MO_remove_42 : decode b_MO_remove 42 = .ok (.iload_n 2, 1) := by decide +kernel
theorem d_MO_remove_43 : decode b_MO_remove 43 = .ok (.ishl, 1) := by decide +kernel
theorem d_MO_remove_44 : decode b_MO_remove 44 = .ok (.iconst (-1), 1) := by decide +kernel
theorem d_MO_remove_45 : decode b_MO_remove 45 = .ok (.ixor, 1) := by decide +kernel
theorem d_MO_remove_46 : decode b_MO_remove 46 = .ok (.iand, 1) := by decide +kernel
theorem d_MO_remove_47 : decode b_MO_remove 47 = .ok (.istore_n 3, 1) := by decide +kernel
theorem d_MO_remove_48 : decode b_MO_remove 48 = .ok (.iload_n 3, 1) := by decide +kernel
theorem d_MO_remove_49 : decode b_MO_remove 49 = .ok (.aload_n 0, 1) := by decide +kernel
theorem d_MO_remove_50 : decode b_MO_remove 50 = .ok (.getfield 7, 3) := by decide +kernel
theorem d_MO_remove_53 : decode b_MO_remove 53 = .ok (.iload_n 1, 1) := by decide +kernel
theorem d_MO_remove_54 : decode b_MO_remove 54 = .ok (.iaload, 1) := by decide +kernel
theorem d_MO_remove_55 : decode b_MO_remove 55 = .ok (.if_icmp .eq 7, 3) := by decide +kernel
theorem d_MO_remove_58 : decode b_MO_remove 58 = .ok (.iload_n 3, 1) := by decide +kernel
theorem d_MO_remove_59 : decode b_MO_remove 59 = .ok (.ifCond .ne 5, 3) := by decide +kernel
theorem d_MO_remove_62 : decode b_MO_remove 62 = .ok (.iconst 0, 1) := by decide +kernel
theorem d_MO_remove_63 : decode b_MO_remove 63 = .ok (.ireturn, 1) := by decide +kernel
theorem d_MO_remove_64 : decode b_MO_remove 64 = .ok (.aload_n 0, 1) := by decide +kernel
theorem d_MO_remove_65 : decode b_MO_remove 65 = .ok (.getfield 7, 3) := by decide +kernel
theorem d_MO_remove_68 : decode b_MO_remove 68 = .ok (.iload_n 1, 1) := by decide +kernel
theorem d_MO_remove_69 : decode b_MO_remove 69 = .ok (.iload_n 3, 1) := by decide +kernel
theorem d_MO_remove_70 : decode b_MO_remove 70 = .ok (.iastore, 1) := by decide +kernel
theorem d_MO_remove_71 : decode b_MO_remove 71 = .ok (.iconst 1, 1) := by decide +kernel
theorem d_MO_remove_72 : decode b_MO_remove 72 = .ok (.ireturn, 1) := by decide +kernel
theorem d_MO_has_0 : decode b_MO_has 0 = .ok (.aload_n 0, 1) := by decide +kernel
theorem d_MO_has_1 : decode b_MO_has 1 = .ok (.getfield 7, 3) := by decide +kernel
theorem d_MO_has_4 : decode b_MO_has 4 = .ok (.iload_n 1, 1) := by decide +kernel
theorem d_MO_has_5 : decode b_MO_has 5 = .ok (.iaload, 1) := by decide +kernel
theorem d_MO_has_6 : decode b_MO_has 6 = .ok (.iload_n 2, 1) := by decide +kernel
theorem d_MO_has_7 : decode b_MO_has 7 = .ok (.ishr, 1) := by decide +kernel
theorem d_MO_has_8 : decode b_MO_has 8 = .ok (.iconst 1, 1) := by decide +kernel
theorem d_MO_has_9 : decode b_MO_has 9 = .ok (.iand, 1) := by decide +kernel
theorem d_MO_has_10 : decode b_MO_has 10 = .ok (.iconst 1, 1) := by decide +kernel
theorem d_MO_has_11 : decode b_MO_has 11 = .ok (.if_icmp .ne 7, 3) := by decide +kernel
theorem d_MO_has_14 : decode b_MO_has 14 = .ok (.iconst 1, 1) := by decide +kernel
theorem d_MO_has_15 : decode b_MO_has 15 = .ok (.goto 4, 3) := by decide +kernel
theorem d_MO_has_18 : decode b_MO_has 18 = .ok (.iconst 0, 1) := by decide +kernel
theorem d_MO_has_19 : decode b_MO_has 19 = .ok (.ireturn, 1) := by decide +kernel
theorem d_MO_matches_0 : decode b_MO_matches 0 = .ok (.aload_n 0, 1) := by decide +kernel
theorem d_MO_matches_1 : decode b_MO_matches 1 = .ok (.getfield 25, 3) := by decide +kernel
theorem d_MO_matches_4 : decode b_MO_matches 4 = .ok (.iload_n 1, 1) := by decide +kernel
theorem d_MO_matches_5 : decode b_MO_matches 5 = .ok (.iaload, 1) := by decide +kernel
theorem d_MO_matches_6 : decode b_MO_matches 6 = .ok (.iconst (-1), 1) := by decide +kernel
theorem d_MO_matches_7 : decode b_MO_matches 7 = .ok (.if_icmp .eq 13, 3) := by decide +kernel
theorem d_MO_matches_10 : decode b_MO_matches 10 = .ok (.aload_n 0, 1) := by decide +kernel
theorem d_MO_matches_11 : decode b_MO_matches 11 = .ok (.getfield 25, 3) := by decide +kernel
theorem d_MO_matches_14 : decode b_MO_matches 14 = .ok (.iload_n 1, 1) := by decide +kernel
theorem d_MO_matches_15 : decode b_MO_matches 15 = .ok (.iaload, 1) := by decide +kernel
theorem d_MO_matches_16 : decode b_MO_matches 16 = .ok (.iload_n 2, 1) := by decide +kernel
theorem d_MO_matches_17 : decode b_MO_matches 17 = .ok (.if_icmp .ne 7, 3) := by decide +kernel
theorem d_MO_matches_20 : decode b_MO_matches 20 = .ok (.iconst 1, 1) := by decide +kernel
theorem d_MO_matches_21 : decode b_MO_matches 21 = .ok (.goto 4, 3) := by decide +kernel
theorem d_MO_matches_24 : decode b_MO_matches 24 = .ok (.iconst 0, 1) := by decide +kernel
theorem d_MO_matches_25 : decode b_MO_matches 25 = .ok (.ireturn, 1) := by decide +kernel
theorem d_MO_met_0 : decode b_MO_met 0 = .ok (.aload_n 0, 1) := by decide +kernel
theorem d_MO_met_1 : decode b_MO_met 1 = .ok (.getfield 13, 3) := by decide +kernel
theorem d_MO_met_4 : decode b_MO_met 4 = .ok (.iload_n 1, 1) := by decide +kernel
theorem d_MO_met_5 : decode b_MO_met 5 = .ok (.iaload, 1) := by decide +kernel
theorem d_MO_met_6 : decode b_MO_met 6 = .ok (.ifCond .ne 21, 3) := by decide +kernel
theorem d_MO_met_9 : decode b_MO_met 9 = .ok (.iload_n 2, 1) := by decide +kernel
theorem d_MO_met_10 : decode b_MO_met 10 = .ok (.iload_n 3, 1) := by decide +kernel
theorem d_MO_met_11 : decode b_MO_met 11 = .ok (.aload_n 0, 1) := by decide +kernel
theorem d_MO_met_12 : decode b_MO_met 12 = .ok (.getfield 19, 3) := by decide +kernel
theorem d_MO_met_15 : decode b_MO_met 15 = .ok (.iload_n 1, 1) := by decide +kernel
theorem d_MO_met_16 : decode b_MO_met 16 = .ok (.iaload, 1) := by decide +kernel
theorem d_MO_met_17 : decode b_MO_met 17 = .ok (.iadd, 1) := by decide +kernel
theorem d_MO_met_18 : decode b_MO_met 18 = .ok (.if_icmp .eq 7, 3) := by decide +kernel
theorem d_MO_met_21 : decode b_MO_met 21 = .ok (.iconst 1, 1) := by decide +kernel
theorem d_MO_met_22 : decode b_MO_met 22 = .ok (.goto 4, 3) := by decide +kernel
theorem d_MO_met_25 : decode b_MO_met 25 = .ok (.iconst 0, 1) := by decide +kernel
theorem d_MO_met_26 : decode b_MO_met 26 = .ok (.ireturn, 1) := by decide +kernel
theorem d_MO_met_27 : decode b_MO_met 27 = .ok (.aload_n 0, 1) := by decide +kernel
theorem d_MO_met_28 : decode b_MO_met 28 = .ok (.getfield 13, 3) := by decide +kernel
theorem d_MO_met_31 : decode b_MO_met 31 = .ok (.iload_n 1, 1) := by decide +kernel
theorem d_MO_met_32 : decode b_MO_met 32 = .ok (.iaload, 1) := by decide +kernel
theorem d_MO_met_33 : decode b_MO_met 33 = .ok (.iconst 1, 1) := by decide +kernel
theorem d_MO_met_34 : decode b_MO_met 34 = .ok (.if_icmp .ne 21, 3) := by decide +kernel
theorem d_MO_met_37 : decode b_MO_met 37 = .ok (.iload_n 2, 1) := by decide +kernel
theorem d_MO_met_38 : decode b_MO_met 38 = .ok (.iload_n 3, 1) := by decide +kernel
theorem d_MO_met_39 : decode b_MO_met 39 = .ok (.aload_n 0, 1) := by decide +kernel
theorem d_MO_met_40 : decode b_MO_met 40 = .ok (.getfield 19, 3) := by decide +kernel
theorem d_MO_met_43 : decode b_MO_met 43 = .ok (.iload_n 1, 1) := by decide +kernel
theorem d_MO_met_44 : decode b_MO_met 44 = .ok (.iaload, 1) := by decide +kernel
theorem d_MO_met_45 : decode b_MO_met 45 = .ok (.iadd, 1) := by decide +kernel
theorem d_MO_met_46 : decode b_MO_met 46 = .ok (.if_icmp .lt 7, 3) := by decide +kernel
theorem d_MO_met_49 : decode b_MO_met 49 = .ok (.iconst 1, 1) := by decide +kernel
theorem d_MO_met_50 : decode b_MO_met 50 = .ok (.goto 4, 3) := by decide +kernel
theorem d_MO_met_53 : decode b_MO_met 53 = .ok (.iconst 0, 1) := by decide +kernel
theorem d_MO_met_54 : decode b_MO_met 54 = .ok (.ireturn, 1) := by decide +kernel
theorem d_MO_met_55 : decode b_MO_met 55 = .ok (.aload_n 0, 1) := by decide +kernel
theorem d_MO_met_56 : decode b_MO_met 56 = .ok (.getfield 13, 3) := by decide +kernel
theorem d_MO_met_59 : decode b_MO_met 59 = .ok (.iload_n 1, 1) := by decide +kernel
theorem d_MO_met_60 : decode b_MO_met 60 = .ok (.iaload, 1) := by decide +kernel
theorem d_MO_met_61 : decode b_MO_met 61 = .ok (.iconst 2, 1) := by decide +kernel
theorem d_MO_met_62 : decode b_MO_met 62 = .ok (.if_icmp .ne 24, 3) := by decide +kernel
theorem d_MO_met_65 : decode b_MO_met 65 = .ok (.iload_n 2, 1) := by decide +kernel
theorem d_MO_met_66 : decode b_MO_met 66 = .ok (.iload_n 3, 1) := by decide +kernel
theorem d_MO_met_67 : decode b_MO_met 67 = .ok (.iadd, 1) := by decide +kernel
theorem d_MO_met_68 : decode b_MO_met 68 = .ok (.iload 4, 2) := by decide +kernel
theorem d_MO_met_70 : decode b_MO_met 70 = .ok (.iadd, 1) := by decide +kernel
theorem d_MO_met_71 : decode b_MO_met 71 = .ok (.aload_n 0, 1) := by decide +kernel
theorem d_MO_met_72 : decode b_MO_met 72 = .ok (.getfield 19, 3) := by decide +kernel
theorem d_MO_met_75 : decode b_MO_met 75 = .ok (.iload_n 1, 1) := by decide +kernel
theorem d_MO_met_76 : decode b_MO_met 76 = .ok (.iaload, 1) := by decide +kernel
theorem d_MO_met_77 : decode b_MO_met 77 = .ok (.if_icmp .ne 7, 3) := by decide +kernel
theorem d_MO_met_80 : decode b_MO_met 80 = .ok (.iconst 1, 1) := by decide +kernel
theorem d_MO_met_81 : decode b_MO_met 81 = .ok (.goto 4, 3) := by decide +kernel
theorem d_MO_met_84 : decode b_MO_met 84 = .ok (.iconst 0, 1) := by decide +kernel
theorem d_MO_met_85 : decode b_MO_met 85 = .ok (.ireturn, 1) := by decide +kernel
theorem d_MO_met_86 : decode b_MO_met 86 = .ok (.bipush 36, 2) := by decide +kernel
theorem d_MO_met_88 : decode b_MO_met 88 = .ok (.aload_n 0, 1) := by decide +kernel
theorem d_MO_met_89 : decode b_MO_met 89 = .ok (.getfield 19, 3) := by decide +kernel
theorem d_MO_met_92 : decode b_MO_met 92 = .ok (.iload_n 1, 1) := by decide +kernel
theorem d_MO_met_93 : decode b_MO_met 93 = .ok (.iaload, 1) := by decide +kernel
theorem d_MO_met_94 : decode b_MO_met 94 = .ok (.imul, 1) := by decide +kernel
theorem d_MO_met_95 : decode b_MO_met 95 = .ok (.istore 5, 2) := by decide +kernel
theorem d_MO_met_97 : decode b_MO_met 97 = .ok (.iconst 0, 1) := by decide +kernel
theorem d_MO_met_98 : decode b_MO_met 98 = .ok (.istore 6, 2) := by decide +kernel
theorem d_MO_met_100 : decode b_MO_met 100 = .ok (.iload 6, 2) := by decide +kernel
theorem d_MO_met_102 : decode b_MO_met 102 = .ok (.aload_n 0, 1) := by decide +kernel
theorem d_MO_met_103 : decode b_MO_met 103 = .ok (.getfield 22, 3) := by decide +kernel
theorem d_MO_met_106 : decode b_MO_met 106 = .ok (.aload_n 0, 1) := by decide +kernel
theorem d_MO_met_107 : decode b_MO_met 107 = .ok (.getfield 19, 3) := by decide +kernel
theorem d_MO_met_110 : decode b_MO_met 110 = .ok (.iload_n 1, 1) := by decide +kernel
theorem d_MO_met_111 : decode b_MO_met 111 = .ok (.iaload, 1) := by decide +kernel
theorem d_MO_met_112 : decode b_MO_met 112 = .ok (.iaload, 1) := by decide +kernel
theorem d_MO_met_113 : decode b_MO_met 113 = .ok (.if_icmp .ge 55, 3) := by decide +kernel
theorem d_MO_met_116 : decode b_MO_met 116 = .ok (.iload 5, 2) := by decide +kernel
theorem d_MO_met_118 : decode b_MO_met 118 = .ok (.iconst 3, 1) := by decide +kernel
theorem d_MO_met_119 : decode b_MO_met 119 = .ok (.iload 6, 2) := by decide +kernel
theorem d_MO_met_121 : decode b_MO_met 121 = .ok (.imul, 1) := by decide +kernel
theorem d_MO_met_122 : decode b_MO_met 122 = .ok (.iadd, 1) := by decide +kernel
theorem d_MO_met_123 : decode b_MO_met 123 = .ok (.istore 7, 2) := by decide +kernel
theorem d_MO_met_125 : decode b_MO_met 125 = .ok (.aload_n 0, 1) := by decide +kernel
theorem d_MO_met_126 : decode b_MO_met 126 = .ok (.iload 7, 2) := by decide +kernel
theorem d_MO_met_128 : decode b_MO_met 128 = .ok (.iload_n 2, 1) := by decide +kernel
theorem d_MO_met_129 : decode b_MO_met 129 = .ok (.invokevirtual 69, 3) := by decide +kernel
theorem d_MO_met_132 : decode b_MO_met 132 = .ok (.ifCond .eq 30, 3) := by decide +kernel
theorem d_MO_met_135 : decode b_MO_met 135 = .ok (.aload_n 0, 1) := by decide +kernel
theorem d_MO_met_136 : decode b_MO_met 136 = .ok (.iload 7, 2) := by decide +kernel
theorem d_MO_met_138 : decode b_MO_met 138 = .ok (.iconst 1, 1) := by decide +kernel
theorem d_MO_met_139 : decode b_MO_met 139 = .ok (.iadd, 1) := by decide +kernel
theorem d_MO_met_140 : decode b_MO_met 140 = .ok (.iload_n 3, 1) := by decide +kernel
theorem d_MO_met_141 : decode b_MO_met 141 = .ok (.invokevirtual 69, 3) := by decide +kernel
theorem d_MO_met_144 : decode b_MO_met 144 = .ok (.ifCond .eq 18, 3) := by decide +kernel
theorem d_MO_met_147 : decode b_MO_met 147 = .ok (.aload_n 0, 1) := by decide +kernel
theorem d_MO_met_148 : decode b_MO_met 148 = .ok (.iload 7, 2) := by decide +kernel
theorem d_MO_met_150 : decode b_MO_met 150 = .ok (.iconst 2, 1) := by decide +kernel
theorem d_MO_met_151 : decode b_MO_met 151 = .ok (.iadd, 1) := by decide +kernel
theorem d_MO_met_152 : decode b_MO_met 152 = .ok (.iload 4, 2) := by decide +kernel
theorem d_MO_met_154 : decode b_MO_met 154 = .ok (.invokevirtual 69, 3) := by decide +kernel
theorem d_MO_met_157 : decode b_MO_met 157 = .ok (.ifCond .eq 5, 3) := by decide +kernel
theorem d_MO_met_160 : decode b_MO_met 160 = .ok (.iconst 1, 1) := by decide +kernel
theorem d_MO_met_161 : decode b_MO_met 161 = .ok (.ireturn, 1) := by decide +kernel
theorem d_MO_met_162 : decode b_MO_met 162 = .ok (.iinc 6 1, 3) := by decide +kernel
theorem d_MO_met_165 : decode b_MO_met 165 = .ok (.goto (-65), 3) := by decide +kernel
theorem d_MO_met_168 : decode b_MO_met 168 = .ok (.iconst 0, 1) := by decide +kernel
theorem d_MO_met_169 : decode b_MO_met 169 = .ok (.ireturn, 1) := by decide +kernel
theorem d_MO_may_0 : decode b_MO_may 0 = .ok (.iload_n 2, 1) := by decide +kernel
theorem d_MO_may_1 : decode b_MO_may 1 = .ok (.iload 4, 2) := by decide +kernel
theorem d_MO_may_3 : decode b_MO_may 3 = .ok (.if_icmp .ne 15, 3) := by decide +kernel
theorem d_MO_may_6 : decode b_MO_may 6 = .ok (.iload_n 3, 1) := by decide +kernel
theorem d_MO_may_7 : decode b_MO_may 7 = .ok (.iload 5, 2) := by decide +kernel
theorem d_MO_may_9 : decode b_MO_may 9 = .ok (.if_icmp .ne 7, 3) := by decide +kernel
theorem d_MO_may_12 : decode b_MO_may 12 = .ok (.iconst 1, 1) := by decide +kernel
theorem d_MO_may_13 : decode b_MO_may 13 = .ok (.goto 4, 3) := by decide +kernel
theorem d_MO_may_16 : decode b_MO_may 16 = .ok (.iconst 0, 1) := by decide +kernel
theorem d_MO_may_17 : decode b_MO_may 17 = .ok (.ireturn, 1) := by decide +kernel
theorem d_MO_may_18 : decode b_MO_may 18 = .ok (.aload_n 0, 1) := by decide +kernel
theorem d_MO_may_19 : decode b_MO_may 19 = .ok (.getfield 16, 3) := by decide +kernel
theorem d_MO_may_22 : decode b_MO_may 22 = .ok (.iconst 3, 1) := by decide +kernel
theorem d_MO_may_23 : decode b_MO_may 23 = .ok (.iload_n 1, 1) := by decide +kernel
theorem d_MO_may_24 : decode b_MO_may 24 = .ok (.imul, 1) := by decide +kernel
theorem d_MO_may_25 : decode b_MO_may 25 = .ok (.iload_n 2, 1) := by decide +kernel
theorem d_MO_may_26 : decode b_MO_may 26 = .ok (.iadd, 1) := by decide +kernel
theorem d_MO_may_27 : decode b_MO_may 27 = .ok (.iaload, 1) := by decide +kernel
theorem d_MO_may_28 : decode b_MO_may 28 = .ok (.istore 6, 2) := by decide +kernel
theorem d_MO_may_30 : decode b_MO_may 30 = .ok (.iload 6, 2) := by decide +kernel
theorem d_MO_may_32 : decode b_MO_may 32 = .ok (.ifCond .ge 15, 3) := by decide +kernel
theorem d_MO_may_35 : decode b_MO_may 35 = .ok (.iload_n 3, 1) := by decide +kernel
theorem d_MO_may_36 : decode b_MO_may 36 = .ok (.ifCond .ne 7, 3) := by decide +kernel
theorem d_MO_may_39 : decode b_MO_may 39 = .ok (.iconst 1, 1) := by decide +kernel
theorem d_MO_may_40 : decode b_MO_may 40 = .ok (.goto 14, 3) := by decide +kernel
theorem d_MO_may_43 : decode b_MO_may 43 = .ok (.iconst 0, 1) := by decide +kernel
theorem d_MO_may_44 : decode b_MO_may 44 = .ok (.goto 10, 3) := by decide +kernel
theorem d_MO_may_47 : decode b_MO_may 47 = .ok (.aload_n 0, 1) := by decide +kernel
theorem d_MO_may_48 : decode b_MO_may 48 = .ok (.iload 6, 2) := by decide +kernel
theorem d_MO_may_50 : decode b_MO_may 50 = .ok (.iload_n 3, 1) := by decide +kernel
theorem d_MO_may_51 : decode b_MO_may 51 = .ok (.invokevirtual 73, 3) := by decide +kernel
theorem d_MO_may_54 : decode b_MO_may 54 = .ok (.ireturn, 1) := by decide +kernel
theorem d_MO_ways_0 : decode b_MO_ways 0 = .ok (.iconst 0, 1) := by decide +kernel
theorem d_MO_ways_1 : decode b_MO_ways 1 = .ok (.istore 5, 2) := by decide +kernel
theorem d_MO_ways_3 : decode b_MO_ways 3 = .ok (.iconst 0, 1) := by decide +kernel
theorem d_MO_ways_4 : decode b_MO_ways 4 = .ok (.istore 6, 2) := by decide +kernel
theorem d_MO_ways_6 : decode b_MO_ways 6 = .ok (.iload 6, 2) := by decide +kernel
theorem d_MO_ways_8 : decode b_MO_ways 8 = .ok (.bipush 16, 2) := by decide +kernel
theorem d_MO_ways_10 : decode b_MO_ways 10 = .ok (.if_icmp .ge 123, 3) := by decide +kernel
theorem d_MO_ways_13 : decode b_MO_ways 13 = .ok (.iconst 0, 1) := by decide +kernel
theorem d_MO_ways_14 : decode b_MO_ways 14 = .ok (.istore 7, 2) := by decide +kernel
theorem d_MO_ways_16 : decode b_MO_ways 16 = .ok (.iload 7, 2) := by decide +kernel
theorem d_MO_ways_18 : decode b_MO_ways 18 = .ok (.bipush 16, 2) := by decide +kernel
theorem d_MO_ways_20 : decode b_MO_ways 20 = .ok (.if_icmp .ge 107, 3) := by decide +kernel
theorem d_MO_ways_23 : decode b_MO_ways 23 = .ok (.aload_n 0, 1) := by decide +kernel
theorem d_MO_ways_24 : decode b_MO_ways 24 = .ok (.iload_n 1, 1) := by decide +kernel
theorem d_MO_ways_25 : decode b_MO_ways 25 = .ok (.iconst 0, 1) := by decide +kernel
theorem d_MO_ways_26 : decode b_MO_ways 26 = .ok (.iload 6, 2) := by decide +kernel
theorem d_MO_ways_28 : decode b_MO_ways 28 = .ok (.iload_n 2, 1) := by decide +kernel
theorem d_MO_ways_29 : decode b_MO_ways 29 = .ok (.iload_n 3, 1) := by decide +kernel
theorem d_MO_ways_30 : decode b_MO_ways 30 = .ok (.invokevirtual 76, 3) := by decide +kernel
theorem d_MO_ways_33 : decode b_MO_ways 33 = .ok (.ifCond .eq 94, 3) := by decide +kernel
theorem d_MO_ways_36 : decode b_MO_ways 36 = .ok (.iconst 0, 1) := by decide +kernel
theorem d_MO_ways_37 : decode b_MO_ways 37 = .ok (.istore 8, 2) := by decide +kernel
theorem d_MO_ways_39 : decode b_MO_ways 39 = .ok (.iload 8, 2) := by decide +kernel
theorem d_MO_ways_41 : decode b_MO_ways 41 = .ok (.bipush 16, 2) := by decide +kernel
theorem d_MO_ways_43 : decode b_MO_ways 43 = .ok (.if_icmp .ge 78, 3) := by decide +kernel
theorem d_MO_ways_46 : decode b_MO_ways 46 = .ok (.aload_n 0, 1) := by decide +kernel
theorem d_MO_ways_47 : decode b_MO_ways 47 = .ok (.iload_n 1, 1) := by decide +kernel
theorem d_MO_ways_48 : decode b_MO_ways 48 = .ok (.iconst 1, 1) := by decide +kernel
theorem d_MO_ways_49 : decode b_MO_ways 49 = .ok (.iload 7, 2) := by decide +kernel
theorem d_MO_ways_51 : decode b_MO_ways 51 = .ok (.iload_n 2, 1) := by decide +kernel
theorem d_MO_ways_52 : decode b_MO_ways 52 = .ok (.iload_n 3, 1) := by decide +kernel
theorem d_MO_ways_53 : decode b_MO_ways 53 = .ok (.invokevirtual 76, 3) := by decide +kernel
theorem d_MO_ways_56 : decode b_MO_ways 56 = .ok (.ifCond .eq 65, 3) := by decide +kernel
theorem d_MO_ways_59 : decode b_MO_ways 59 = .ok (.iload 5, 2) := by decide +kernel
theorem d_MO_ways_61 : decode b_MO_ways 61 = .ok (.iload 4, 2) := by decide +kernel
theorem d_MO_ways_63 : decode b_MO_ways 63 = .ok (.if_icmp .ge 34, 3) := by decide +kernel
theorem d_MO_ways_66 : decode b_MO_ways 66 = .ok (.aload_n 0, 1) := by decide +kernel
theorem d_MO_ways_67 : decode b_MO_ways 67 = .ok (.iload_n 1, 1) := by decide +kernel
theorem d_MO_ways_68 : decode b_MO_ways 68 = .ok (.iconst 2, 1) := by decide +kernel
theorem d_MO_ways_69 : decode b_MO_ways 69 = .ok (.iload 8, 2) := by decide +kernel
theorem d_MO_ways_71 : decode b_MO_ways 71 = .ok (.iload_n 2, 1) := by decide +kernel
theorem d_MO_ways_72 : decode b_MO_ways 72 = .ok (.iload_n 3, 1) := by decide +kernel
theorem d_MO_ways_73 : decode b_MO_ways 73 = .ok (.invokevirtual 76, 3) := by decide +kernel
theorem d_MO_ways_76 : decode b_MO_ways 76 = .ok (.ifCond .eq 21, 3) := by decide +kernel
theorem d_MO_ways_79 : decode b_MO_ways 79 = .ok (.aload_n 0, 1) := by decide +kernel
theorem d_MO_ways_80 : decode b_MO_ways 80 = .ok (.iload_n 1, 1) := by decide +kernel
theorem d_MO_ways_81 : decode b_MO_ways 81 = .ok (.iload 6, 2) := by decide +kernel
theorem d_MO_ways_83 : decode b_MO_ways 83 = .ok (.iload 7, 2) := by decide +kernel
theorem d_MO_ways_85 : decode b_MO_ways 85 = .ok (.iload 8, 2) := by decide +kernel
theorem d_MO_ways_87 : decode b_MO_ways 87 = .ok (.invokevirtual 80, 3) := by decide +kernel
theorem d_MO_ways_90 : decode b_MO_ways 90 = .ok (.ifCond .eq 7, 3) := by decide +kernel
theorem d_MO_ways_93 : decode b_MO_ways 93 = .ok (.iconst 1, 1) := by decide +kernel
theorem d_MO_ways_94 : decode b_MO_ways 94 = .ok (.goto 4, 3) := by decide +kernel
theorem d_MO_ways_97 : decode b_MO_ways 97 = .ok (.iconst 0, 1) := by decide +kernel
theorem d_MO_ways_98 : decode b_MO_ways 98 = .ok (.istore 9, 2) := by decide +kernel
theorem d_MO_ways_100 : decode b_MO_ways 100 = .ok (.iload 5, 2) := by decide +kernel
theorem d_MO_ways_102 : decode b_MO_ways 102 = .ok (.iload 9, 2) := by decide +kernel
theorem d_MO_ways_104 : decode b_MO_ways 104 = .ok (.ifCond .eq 7, 3) := by decide +kernel
theorem d_MO_ways_107 : decode b_MO_ways 107 = .ok (.iconst 1, 1) := by decide +kernel
theorem d_MO_ways_108 : decode b_MO_ways 108 = .ok (.goto 4, 3) := by decide +kernel
theorem d_MO_ways_111 : decode b_MO_ways 111 = .ok (.iconst 0, 1) := by decide +kernel
theorem d_MO_ways_112 : decode b_MO_ways 112 = .ok (.iadd, 1) := by decide +kernel
theorem d_MO_ways_113 : decode b_MO_ways 113 = .ok (.istore 5, 2) := by decide +kernel
theorem d_MO_ways_115 : decode b_MO_ways 115 = .ok (.iinc 8 1, 3) := by decide +kernel
theorem d_MO_ways_118 : decode b_MO_ways 118 = .ok (.goto (-79), 3) := by decide +kernel
theorem d_MO_ways_121 : decode b_MO_ways 121 = .ok (.iinc 7 1, 3) := by decide +kernel
theorem d_MO_ways_124 : decode b_MO_ways 124 = .ok (.goto (-108), 3) := by decide +kernel
theorem d_MO_ways_127 : decode b_MO_ways 127 = .ok (.iinc 6 1, 3) := by decide +kernel
theorem d_MO_ways_130 : decode b_MO_ways 130 = .ok (.goto (-124), 3) := by decide +kernel
theorem d_MO_ways_133 : decode b_MO_ways 133 = .ok (.iload 5, 2) := by decide +kernel
theorem d_MO_ways_135 : decode b_MO_ways 135 = .ok (.ireturn, 1) := by decide +kernel
theorem d_MO_narrow_0 : decode b_MO_narrow 0 = .ok (.aload_n 0, 1) := by decide +kernel
theorem d_MO_narrow_1 : decode b_MO_narrow 1 = .ok (.getfield 16, 3) := by decide +kernel
theorem d_MO_narrow_4 : decode b_MO_narrow 4 = .ok (.iconst 3, 1) := by decide +kernel
theorem d_MO_narrow_5 : decode b_MO_narrow 5 = .ok (.iload_n 1, 1) := by decide +kernel
theorem d_MO_narrow_6 : decode b_MO_narrow 6 = .ok (.imul, 1) := by decide +kernel
theorem d_MO_narrow_7 : decode b_MO_narrow 7 = .ok (.iload_n 2, 1) := by decide +kernel
theorem d_MO_narrow_8 : decode b_MO_narrow 8 = .ok (.iadd, 1) := by decide +kernel
theorem d_MO_narrow_9 : decode b_MO_narrow 9 = .ok (.iaload, 1) := by decide +kernel
theorem d_MO_narrow_10 : decode b_MO_narrow 10 = .ok (.istore_n 3, 1) := by decide +kernel
theorem d_MO_narrow_11 : decode b_MO_narrow 11 = .ok (.iconst 0, 1) := by decide +kernel
theorem d_MO_narrow_12 : decode b_MO_narrow 12 = .ok (.istore 4, 2) := by decide +kernel
theorem d_MO_narrow_14 : decode b_MO_narrow 14 = .ok (.iconst 0, 1) := by decide +kernel
theorem d_MO_narrow_15 : decode b_MO_narrow 15 = .ok (.istore 5, 2) := by decide +kernel
theorem d_MO_narrow_17 : decode b_MO_narrow 17 = .ok (.iload 5, 2) := by decide +kernel
theorem d_MO_narrow_19 : decode b_MO_narrow 19 = .ok (.bipush 16, 2) := by decide +kernel
theorem d_MO_narrow_21 : decode b_MO_narrow 21 = .ok (.if_icmp .ge 48, 3) := by decide +kernel
theorem d_MO_narrow_24 : decode b_MO_narrow 24 = .ok (.iload_n 3, 1) := by decide +kernel
theorem d_MO_narrow_25 : decode b_MO_narrow 25 = .ok (.ifCond .lt 44, 3) := by decide +kernel
theorem d_MO_narrow_28 : decode b_MO_narrow 28 = .ok (.iload 4, 2) := by decide +kernel
theorem d_MO_narrow_30 : decode b_MO_narrow 30 = .ok (.aload_n 0, 1) := by decide +kernel
theorem d_MO_narrow_31 : decode b_MO_narrow 31 = .ok (.iload_n 3, 1) := by decide +kernel
theorem d_MO_narrow_32 : decode b_MO_narrow 32 = .ok (.iload 5, 2) := by decide +kernel
theorem d_MO_narrow_34 : decode b_MO_narrow 34 = .ok (.invokevirtual 73, 3) := by decide +kernel
theorem d_MO_narrow_37 : decode b_MO_narrow 37 = .ok (.ifCond .eq 22, 3) := by decide +kernel
theorem d_MO_narrow_40 : decode b_MO_narrow 40 = .ok (.aload_n 0, 1) := by decide +kernel
theorem d_MO_narrow_41 : decode b_MO_narrow 41 = .ok (.iload_n 1, 1) := by decide +kernel
theorem d_MO_narrow_42 : decode b_MO_narrow 42 = .ok (.iload_n 2, 1) := by decide +kernel
theorem d_MO_narrow_43 : decode b_MO_narrow 43 = .ok (.iload 5, 2) := by decide +kernel
theorem d_MO_narrow_45 : decode b_MO_narrow 45 = .ok (.iconst 1, 1) := by decide +kernel
theorem d_MO_narrow_46 : decode b_MO_narrow 46 = .ok (.invokevirtual 84, 3) := by decide +kernel
theorem d_MO_narrow_49 : decode b_MO_narrow 49 = .ok (.ifCond .le 10, 3) := by decide +kernel
theorem d_MO_narrow_52 : decode b_MO_narrow 52 = .ok (.iconst 1, 1) := by decide +kernel
theorem d_MO_narrow_53 : decode b_MO_narrow 53 = .ok (.iload 5, 2) := by decide +kernel
theorem d_MO_narrow_55 : decode b_MO_narrow 55 = .ok (.ishl, 1) := by decide +kernel
theorem d_MO_narrow_56 : decode b_MO_narrow 56 = .ok (.goto 4, 3) := by decide +kernel
theorem d_MO_narrow_59 : decode b_MO_narrow 59 = .ok (.iconst 0, 1) := by decide +kernel
theorem d_MO_narrow_60 : decode b_MO_narrow 60 = .ok (.ior, 1) := by decide +kernel
theorem d_MO_narrow_61 : decode b_MO_narrow 61 = .ok (.istore 4, 2) := by decide +kernel
theorem d_MO_narrow_63 : decode b_MO_narrow 63 = .ok (.iinc 5 1, 3) := by decide +kernel
theorem d_MO_narrow_66 : decode b_MO_narrow 66 = .ok (.goto (-49), 3) := by decide +kernel
theorem d_MO_narrow_69 : decode b_MO_narrow 69 = .ok (.iload_n 3, 1) := by decide +kernel
theorem d_MO_narrow_70 : decode b_MO_narrow 70 = .ok (.ifCond .lt 14, 3) := by decide +kernel
theorem d_MO_narrow_73 : decode b_MO_narrow 73 = .ok (.iload 4, 2) := by decide +kernel
theorem d_MO_narrow_75 : decode b_MO_narrow 75 = .ok (.aload_n 0, 1) := by decide +kernel
theorem d_MO_narrow_76 : decode b_MO_narrow 76 = .ok (.getfield 7, 3) := by decide +kernel
theorem d_MO_narrow_79 : decode b_MO_narrow 79 = .ok (.iload_n 3, 1) := by decide +kernel
theorem d_MO_narrow_80 : decode b_MO_narrow 80 = .ok (.iaload, 1) := by decide +kernel
theorem d_MO_narrow_81 : decode b_MO_narrow 81 = .ok (.if_icmp .ne 5, 3) := by decide +kernel
theorem d_MO_narrow_84 : decode b_MO_narrow 84 = .ok (.iconst 0, 1) := by decide +kernel
theorem d_MO_narrow_85 : decode b_MO_narrow 85 = .ok (.ireturn, 1) := by decide +kernel
theorem d_MO_narrow_86 : decode b_MO_narrow 86 = .ok (.aload_n 0, 1) := by decide +kernel
theorem d_MO_narrow_87 : decode b_MO_narrow 87 = .ok (.getfield 7, 3) := by decide +kernel
theorem d_MO_narrow_90 : decode b_MO_narrow 90 = .ok (.iload_n 3, 1) := by decide +kernel
theorem d_MO_narrow_91 : decode b_MO_narrow 91 = .ok (.iload 4, 2) := by decide +kernel
theorem d_MO_narrow_93 : decode b_MO_narrow 93 = .ok (.iastore, 1) := by decide +kernel
theorem d_MO_narrow_94 : decode b_MO_narrow 94 = .ok (.iconst 1, 1) := by decide +kernel
theorem d_MO_narrow_95 : decode b_MO_narrow 95 = .ok (.ireturn, 1) := by decide +kernel
theorem d_MO_empty_0 : decode b_MO_empty 0 = .ok (.iconst 0, 1) := by decide +kernel
theorem d_MO_empty_1 : decode b_MO_empty 1 = .ok (.istore_n 1, 1) := by decide +kernel
theorem d_MO_empty_2 : decode b_MO_empty 2 = .ok (.iconst 0, 1) := by decide +kernel
theorem d_MO_empty_3 : decode b_MO_empty 3 = .ok (.istore_n 2, 1) := by decide +kernel
theorem d_MO_empty_4 : decode b_MO_empty 4 = .ok (.iload_n 2, 1) := by decide +kernel
theorem d_MO_empty_5 : decode b_MO_empty 5 = .ok (.aload_n 0, 1) := by decide +kernel
theorem d_MO_empty_6 : decode b_MO_empty 6 = .ok (.getfield 54, 3) := by decide +kernel
theorem d_MO_empty_9 : decode b_MO_empty 9 = .ok (.if_icmp .ge 28, 3) := by decide +kernel
theorem d_MO_empty_12 : decode b_MO_empty 12 = .ok (.iload_n 1, 1) := by decide +kernel
theorem d_MO_empty_13 : decode b_MO_empty 13 = .ok (.ifCond .ne 12, 3) := by decide +kernel
theorem d_MO_empty_16 : decode b_MO_empty 16 = .ok (.aload_n 0, 1) := by decide +kernel
theorem d_MO_empty_17 : decode b_MO_empty 17 = .ok (.getfield 7, 3) := by decide +kernel
theorem d_MO_empty_20 : decode b_MO_empty 20 = .ok (.iload_n 2, 1) := by decide +kernel
theorem d_MO_empty_21 : decode b_MO_empty 21 = .ok (.iaload, 1) := by decide +kernel
theorem d_MO_empty_22 : decode b_MO_empty 22 = .ok (.ifCond .ne 7, 3) := by decide +kernel
theorem d_MO_empty_25 : decode b_MO_empty 25 = .ok (.iconst 1, 1) := by decide +kernel
theorem d_MO_empty_26 : decode b_MO_empty 26 = .ok (.goto 4, 3) := by decide +kernel
theorem d_MO_empty_29 : decode b_MO_empty 29 = .ok (.iconst 0, 1) := by decide +kernel
theorem d_MO_empty_30 : decode b_MO_empty 30 = .ok (.istore_n 1, 1) := by decide +kernel
theorem d_MO_empty_31 : decode b_MO_empty 31 = .ok (.iinc 2 1, 3) := by decide +kernel
theorem d_MO_empty_34 : decode b_MO_empty 34 = .ok (.goto (-30), 3) := by decide +kernel
theorem d_MO_empty_37 : decode b_MO_empty 37 = .ok (.iload_n 1, 1) := by decide +kernel
theorem d_MO_empty_38 : decode b_MO_empty 38 = .ok (.ireturn, 1) := by decide +kernel
theorem d_MO_closing_0 : decode b_MO_closing 0 = .ok (.iconst 1, 1) := by decide +kernel
theorem d_MO_closing_1 : decode b_MO_closing 1 = .ok (.istore_n 1, 1) := by decide +kernel
theorem d_MO_closing_2 : decode b_MO_closing 2 = .ok (.iconst 0, 1) := by decide +kernel
theorem d_MO_closing_3 : decode b_MO_closing 3 = .ok (.istore_n 2, 1) := by decide +kernel
theorem d_MO_closing_4 : decode b_MO_closing 4 = .ok (.iload_n 2, 1) := by decide +kernel
theorem d_MO_closing_5 : decode b_MO_closing 5 = .ok (.sipush 200, 3) := by decide +kernel
theorem d_MO_closing_8 : decode b_MO_closing 8 = .ok (.if_icmp .ge 77, 3) := by decide +kernel
theorem d_MO_closing_11 : decode b_MO_closing 11 = .ok (.iload_n 1, 1) := by decide +kernel
theorem d_MO_closing_12 : decode b_MO_closing 12 = .ok (.ifCond .eq 73, 3) := by decide +kernel
theorem d_MO_closing_15 : decode b_MO_closing 15 = .ok (.aload_n 0, 1) := by decide +kernel
theorem d_MO_closing_16 : decode b_MO_closing 16 = .ok (.invokevirtual 88, 3) := by decide +kernel
theorem d_MO_closing_19 : decode b_MO_closing 19 = .ok (.ifCond .ne 66, 3) := by decide +kernel
theorem d_MO_closing_22 : decode b_MO_closing 22 = .ok (.iconst 0, 1) := by decide +kernel
theorem d_MO_closing_23 : decode b_MO_closing 23 = .ok (.istore_n 1, 1) := by decide +kernel
theorem d_MO_closing_24 : decode b_MO_closing 24 = .ok (.iconst 0, 1) := by decide +kernel
theorem d_MO_closing_25 : decode b_MO_closing 25 = .ok (.istore_n 3, 1) := by decide +kernel
theorem d_MO_closing_26 : decode b_MO_closing 26 = .ok (.iload_n 3, 1) := by decide +kernel
theorem d_MO_closing_27 : decode b_MO_closing 27 = .ok (.aload_n 0, 1) := by decide +kernel
theorem d_MO_closing_28 : decode b_MO_closing 28 = .ok (.getfield 62, 3) := by decide +kernel
theorem d_MO_closing_31 : decode b_MO_closing 31 = .ok (.if_icmp .ge 48, 3) := by decide +kernel
theorem d_MO_closing_34 : decode b_MO_closing 34 = .ok (.iconst 0, 1) := by decide +kernel
theorem d_MO_closing_35 : decode b_MO_closing 35 = .ok (.istore 4, 2) := by decide +kernel
theorem d_MO_closing_37 : decode b_MO_closing 37 = .ok (.iload 4, 2) := by decide +kernel
theorem d_MO_closing_39 : decode b_MO_closing 39 = .ok (.iconst 3, 1) := by decide +kernel
theorem d_MO_closing_40 : decode b_MO_closing 40 = .ok (.if_icmp .ge 33, 3) := by decide +kernel
theorem d_MO_closing_43 : decode b_MO_closing 43 = .ok (.aload_n 0, 1) := by decide +kernel
theorem d_MO_closing_44 : decode b_MO_closing 44 = .ok (.iload_n 3, 1) := by decide +kernel
theorem d_MO_closing_45 : decode b_MO_closing 45 = .ok (.iload 4, 2) := by decide +kernel
theorem d_MO_closing_47 : decode b_MO_closing 47 = .ok (.invokevirtual 92, 3) := by decide +kernel
theorem d_MO_closing_50 : decode b_MO_closing 50 = .ok (.istore 5, 2) := by decide +kernel
theorem d_MO_closing_52 : decode b_MO_closing 52 = .ok (.iload_n 1, 1) := by decide +kernel
theorem d_MO_closing_53 : decode b_MO_closing 53 = .ok (.ifCond .ne 8, 3) := by decide +kernel
theorem d_MO_closing_56 : decode b_MO_closing 56 = .ok (.iload 5, 2) := by decide +kernel
theorem d_MO_closing_58 : decode b_MO_closing 58 = .ok (.ifCond .eq 7, 3) := by decide +kernel
theorem d_MO_closing_61 : decode b_MO_closing 61 = .ok (.iconst 1, 1) := by decide +kernel
theorem d_MO_closing_62 : decode b_MO_closing 62 = .ok (.goto 4, 3) := by decide +kernel
theorem d_MO_closing_65 : decode b_MO_closing 65 = .ok (.iconst 0, 1) := by decide +kernel
theorem d_MO_closing_66 : decode b_MO_closing 66 = .ok (.istore_n 1, 1) := by decide +kernel
theorem d_MO_closing_67 : decode b_MO_closing 67 = .ok (.iinc 4 1, 3) := by decide +kernel
theorem d_MO_closing_70 : decode b_MO_closing 70 = .ok (.goto (-33), 3) := by decide +kernel
theorem d_MO_closing_73 : decode b_MO_closing 73 = .ok (.iinc 3 1, 3) := by decide +kernel
theorem d_MO_closing_76 : decode b_MO_closing 76 = .ok (.goto (-50), 3) := by decide +kernel
theorem d_MO_closing_79 : decode b_MO_closing 79 = .ok (.iinc 2 1, 3) := by decide +kernel
theorem d_MO_closing_82 : decode b_MO_closing 82 = .ok (.goto (-78), 3) := by decide +kernel
theorem d_MO_closing_85 : decode b_MO_closing 85 = .ok (.aload_n 0, 1) := by decide +kernel
theorem d_MO_closing_86 : decode b_MO_closing 86 = .ok (.invokevirtual 88, 3) := by decide +kernel
theorem d_MO_closing_89 : decode b_MO_closing 89 = .ok (.ifCond .ne 7, 3) := by decide +kernel
theorem d_MO_closing_92 : decode b_MO_closing 92 = .ok (.iconst 1, 1) := by decide +kernel
theorem d_MO_closing_93 : decode b_MO_closing 93 = .ok (.goto 4, 3) := by decide +kernel
theorem d_MO_closing_96 : decode b_MO_closing 96 = .ok (.iconst 0, 1) := by decide +kernel
theorem d_MO_closing_97 : decode b_MO_closing 97 = .ok (.ireturn, 1) := by decide +kernel
theorem d_MO_many_0 : decode b_MO_many 0 = .ok (.iconst 0, 1) := by decide +kernel
theorem d_MO_many_1 : decode b_MO_many 1 = .ok (.istore_n 2, 1) := by decide +kernel
theorem d_MO_many_2 : decode b_MO_many 2 = .ok (.iconst 0, 1) := by decide +kernel
theorem d_MO_many_3 : decode b_MO_many 3 = .ok (.istore_n 3, 1) := by decide +kernel
theorem d_MO_many_4 : decode b_MO_many 4 = .ok (.iload_n 3, 1) := by decide +kernel
theorem d_MO_many_5 : decode b_MO_many 5 = .ok (.bipush 16, 2) := by decide +kernel
theorem d_MO_many_7 : decode b_MO_many 7 = .ok (.if_icmp .ge 17, 3) := by decide +kernel
theorem d_MO_many_10 : decode b_MO_many 10 = .ok (.iload_n 2, 1) := by decide +kernel
theorem d_MO_many_11 : decode b_MO_many 11 = .ok (.iload_n 1, 1) := by decide +kernel
theorem d_MO_many_12 : decode b_MO_many 12 = .ok (.iload_n 3, 1) := by decide +kernel
theorem d_MO_many_13 : decode b_MO_many 13 = .ok (.ishr, 1) := by decide +kernel
theorem d_MO_many_14 : decode b_MO_many 14 = .ok (.iconst 1, 1) := by decide +kernel
theorem d_MO_many_15 : decode b_MO_many 15 = .ok (.iand, 1) := by decide +kernel
theorem d_MO_many_16 : decode b_MO_many 16 = .ok (.iadd, 1) := by decide +kernel
theorem d_MO_many_17 : decode b_MO_many 17 = .ok (.istore_n 2, 1) := by decide +kernel
theorem d_MO_many_18 : decode b_MO_many 18 = .ok (.iinc 3 1, 3) := by decide +kernel
theorem d_MO_many_21 : decode b_MO_many 21 = .ok (.goto (-17), 3) := by decide +kernel
theorem d_MO_many_24 : decode b_MO_many 24 = .ok (.iload_n 2, 1) := by decide +kernel
theorem d_MO_many_25 : decode b_MO_many 25 = .ok (.ireturn, 1) := by decide +kernel
theorem d_MO_close_0 : decode b_MO_close 0 = .ok (.aload_n 0, 1) := by decide +kernel
theorem d_MO_close_1 : decode b_MO_close 1 = .ok (.getfield 46, 3) := by decide +kernel
theorem d_MO_close_4 : decode b_MO_close 4 = .ok (.ifCond .eq 5, 3) := by decide +kernel
theorem d_MO_close_7 : decode b_MO_close 7 = .ok (.iconst (-1), 1) := by decide +kernel
theorem d_MO_close_8 : decode b_MO_close 8 = .ok (.ireturn, 1) := by decide +kernel
theorem d_MO_close_9 : decode b_MO_close 9 = .ok (.iconst 0, 1) := by decide +kernel
theorem d_MO_close_10 : decode b_MO_close 10 = .ok (.istore_n 1, 1) := by decide +kernel
theorem d_MO_close_11 : decode b_MO_close 11 = .ok (.iconst 0, 1) := by decide +kernel
theorem d_MO_close_12 : decode b_MO_close 12 = .ok (.istore_n 2, 1) := by decide +kernel
theorem d_MO_close_13 : decode b_MO_close 13 = .ok (.iload_n 2, 1) := by decide +kernel
theorem d_MO_close_14 : decode b_MO_close 14 = .ok (.aload_n 0, 1) := by decide +kernel
theorem d_MO_close_15 : decode b_MO_close 15 = .ok (.getfield 54, 3) := by decide +kernel
theorem d_MO_close_18 : decode b_MO_close 18 = .ok (.if_icmp .ge 34, 3) := by decide +kernel
theorem d_MO_close_21 : decode b_MO_close 21 = .ok (.aload_n 0, 1) := by decide +kernel
theorem d_MO_close_22 : decode b_MO_close 22 = .ok (.getfield 37, 3) := by decide +kernel
theorem d_MO_close_25 : decode b_MO_close 25 = .ok (.iload_n 2, 1) := by decide +kernel
theorem d_MO_close_26 : decode b_MO_close 26 = .ok (.aload_n 0, 1) := by decide +kernel
theorem d_MO_close_27 : decode b_MO_close 27 = .ok (.getfield 7, 3) := by decide +kernel
theorem d_MO_close_30 : decode b_MO_close 30 = .ok (.iload_n 2, 1) := by decide +kernel
theorem d_MO_close_31 : decode b_MO_close 31 = .ok (.iaload, 1) := by decide +kernel
theorem d_MO_close_32 : decode b_MO_close 32 = .ok (.iastore, 1) := by decide +kernel
theorem d_MO_close_33 : decode b_MO_close 33 = .ok (.iload_n 1, 1) := by decide +kernel
theorem d_MO_close_34 : decode b_MO_close 34 = .ok (.aload_n 0, 1) := by decide +kernel
theorem d_MO_close_35 : decode b_MO_close 35 = .ok (.aload_n 0, 1) := by decide +kernel
theorem d_MO_close_36 : decode b_MO_close 36 = .ok (.getfield 7, 3) := by decide +kernel
theorem d_MO_close_39 : decode b_MO_close 39 = .ok (.iload_n 2, 1) := by decide +kernel
theorem d_MO_close_40 : decode b_MO_close 40 = .ok (.iaload, 1) := by decide +kernel
theorem d_MO_close_41 : decode b_MO_close 41 = .ok (.invokevirtual 95, 3) := by decide +kernel
theorem d_MO_close_44 : decode b_MO_close 44 = .ok (.iadd, 1) := by decide +kernel
theorem d_MO_close_45 : decode b_MO_close 45 = .ok (.istore_n 1, 1) := by decide +kernel
theorem d_MO_close_46 : decode b_MO_close 46 = .ok (.iinc 2 1, 3) := by decide +kernel
theorem d_MO_close_49 : decode b_MO_close 49 = .ok (.goto (-36), 3) := by decide +kernel
theorem d_MO_close_52 : decode b_MO_close 52 = .ok (.aload_n 0, 1) := by decide +kernel
theorem d_MO_close_53 : decode b_MO_close 53 = .ok (.invokevirtual 99, 3) := by decide +kernel
theorem d_MO_close_56 : decode b_MO_close 56 = .ok (.istore_n 2, 1) := by decide +kernel
theorem d_MO_close_57 : decode b_MO_close 57 = .ok (.iconst 0, 1) := by decide +kernel
theorem d_MO_close_58 : decode b_MO_close 58 = .ok (.istore_n 3, 1) := by decide +kernel
theorem d_MO_close_59 : decode b_MO_close 59 = .ok (.iload_n 3, 1) := by decide +kernel
theorem d_MO_close_60 : decode b_MO_close 60 = .ok (.aload_n 0, 1) := by decide +kernel
theorem d_MO_close_61 : decode b_MO_close 61 = .ok (.getfield 54, 3) := by decide +kernel
theorem d_MO_close_64 : decode b_MO_close 64 = .ok (.if_icmp .ge 47, 3) := by decide +kernel
theorem d_MO_close_67 : decode b_MO_close 67 = .ok (.aload_n 0, 1) := by decide +kernel
theorem d_MO_close_68 : decode b_MO_close 68 = .ok (.getfield 7, 3) := by decide +kernel
theorem d_MO_close_71 : decode b_MO_close 71 = .ok (.iload_n 3, 1) := by decide +kernel
theorem d_MO_close_72 : decode b_MO_close 72 = .ok (.iload_n 2, 1) := by decide +kernel
theorem d_MO_close_73 : decode b_MO_close 73 = .ok (.ifCond .eq 12, 3) := by decide +kernel
theorem d_MO_close_76 : decode b_MO_close 76 = .ok (.aload_n 0, 1) := by decide +kernel
theorem d_MO_close_77 : decode b_MO_close 77 = .ok (.getfield 7, 3) := by decide +kernel
theorem d_MO_close_80 : decode b_MO_close 80 = .ok (.iload_n 3, 1) := by decide +kernel
theorem d_MO_close_81 : decode b_MO_close 81 = .ok (.iaload, 1) := by decide +kernel
theorem d_MO_close_82 : decode b_MO_close 82 = .ok (.goto 9, 3) := by decide +kernel
theorem d_MO_close_85 : decode b_MO_close 85 = .ok (.aload_n 0, 1) := by decide +kernel
theorem d_MO_close_86 : decode b_MO_close 86 = .ok (.getfield 37, 3) := by decide +kernel
theorem d_MO_close_89 : decode b_MO_close 89 = .ok (.iload_n 3, 1) := by decide +kernel
theorem d_MO_close_90 : decode b_MO_close 90 = .ok (.iaload, 1) := by decide +kernel
theorem d_MO_close_91 : decode b_MO_close 91 = .ok (.iastore, 1) := by decide +kernel
theorem d_MO_close_92 : decode b_MO_close 92 = .ok (.iload_n 1, 1) := by decide +kernel
theorem d_MO_close_93 : decode b_MO_close 93 = .ok (.aload_n 0, 1) := by decide +kernel
theorem d_MO_close_94 : decode b_MO_close 94 = .ok (.aload_n 0, 1) := by decide +kernel
theorem d_MO_close_95 : decode b_MO_close 95 = .ok (.getfield 7, 3) := by decide +kernel
theorem d_MO_close_98 : decode b_MO_close 98 = .ok (.iload_n 3, 1) := by decide +kernel
theorem d_MO_close_99 : decode b_MO_close 99 = .ok (.iaload, 1) := by decide +kernel
theorem d_MO_close_100 : decode b_MO_close 100 = .ok (.invokevirtual 95, 3) := by decide +kernel
theorem d_MO_close_103 : decode b_MO_close 103 = .ok (.isub, 1) := by decide +kernel
theorem d_MO_close_104 : decode b_MO_close 104 = .ok (.istore_n 1, 1) := by decide +kernel
theorem d_MO_close_105 : decode b_MO_close 105 = .ok (.iinc 3 1, 3) := by decide +kernel
theorem d_MO_close_108 : decode b_MO_close 108 = .ok (.goto (-49), 3) := by decide +kernel
theorem d_MO_close_111 : decode b_MO_close 111 = .ok (.iload_n 2, 1) := by decide +kernel
theorem d_MO_close_112 : decode b_MO_close 112 = .ok (.ifCond .eq 7, 3) := by decide +kernel
theorem d_MO_close_115 : decode b_MO_close 115 = .ok (.iload_n 1, 1) := by decide +kernel
theorem d_MO_close_116 : decode b_MO_close 116 = .ok (.goto 4, 3) := by decide +kernel
theorem d_MO_close_119 : decode b_MO_close 119 = .ok (.iconst (-1), 1) := by decide +kernel
theorem d_MO_close_120 : decode b_MO_close 120 = .ok (.ireturn, 1) := by decide +kernel
theorem d_MO_push_0 : decode b_MO_push 0 = .ok (.aload_n 0, 1) := by decide +kernel
theorem d_MO_push_1 : decode b_MO_push 1 = .ok (.getfield 46, 3) := by decide +kernel
theorem d_MO_push_4 : decode b_MO_push 4 = .ok (.ifCond .ne 12, 3) := by decide +kernel
theorem d_MO_push_7 : decode b_MO_push 7 = .ok (.aload_n 0, 1) := by decide +kernel
theorem d_MO_push_8 : decode b_MO_push 8 = .ok (.getfield 50, 3) := by decide +kernel
theorem d_MO_push_11 : decode b_MO_push 11 = .ok (.bipush 10, 2) := by decide +kernel
theorem d_MO_push_13 : decode b_MO_push 13 = .ok (.if_icmp .ne 5, 3) := by decide +kernel
theorem d_MO_push_16 : decode b_MO_push 16 = .ok (.iconst (-1), 1) := by decide +kernel
theorem d_MO_push_17 : decode b_MO_push 17 = .ok (.ireturn, 1) := by decide +kernel
theorem d_MO_push_18 : decode b_MO_push 18 = .ok (.iconst 0, 1) := by decide +kernel
theorem d_MO_push_19 : decode b_MO_push 19 = .ok (.istore_n 1, 1) := by decide +kernel
theorem d_MO_push_20 : decode b_MO_push 20 = .ok (.iload_n 1, 1) := by decide +kernel
theorem d_MO_push_21 : decode b_MO_push 21 = .ok (.bipush 8, 2) := by decide +kernel
theorem d_MO_push_23 : decode b_MO_push 23 = .ok (.if_icmp .ge 29, 3) := by decide +kernel
theorem d_MO_push_26 : decode b_MO_push 26 = .ok (.aload_n 0, 1) := by decide +kernel
theorem d_MO_push_27 : decode b_MO_push 27 = .ok (.getfield 28, 3) := by decide +kernel
theorem d_MO_push_30 : decode b_MO_push 30 = .ok (.bipush 8, 2) := by decide +kernel
theorem d_MO_push_32 : decode b_MO_push 32 = .ok (.aload_n 0, 1) := by decide +kernel
theorem d_MO_push_33 : decode b_MO_push 33 = .ok (.getfield 50, 3) := by decide +kernel
theorem d_MO_push_36 : decode b_MO_push 36 = .ok (.imul, 1) := by decide +kernel
theorem d_MO_push_37 : decode b_MO_push 37 = .ok (.iload_n 1, 1) := by decide +kernel
theorem d_MO_push_38 : decode b_MO_push 38 = .ok (.iadd, 1) := by decide +kernel
theorem d_MO_push_39 : decode b_MO_push 39 = .ok (.aload_n 0, 1) := by decide +kernel
theorem d_MO_push_40 : decode b_MO_push 40 = .ok (.getfield 7, 3) := by decide +kernel
theorem d_MO_push_43 : decode b_MO_push 43 = .ok (.iload_n 1, 1) := by decide +kernel
theorem d_MO_push_44 : decode b_MO_push 44 = .ok (.iaload, 1) := by decide +kernel
theorem d_MO_push_45 : decode b_MO_push 45 = .ok (.iastore, 1) := by decide +kernel
theorem d_MO_push_46 : decode b_MO_push 46 = .ok (.iinc 1 1, 3) := by decide +kernel
theorem d_MO_push_49 : decode b_MO_push 49 = .ok (.goto (-29), 3) := by decide +kernel
theorem d_MO_push_52 : decode b_MO_push 52 = .ok (.aload_n 0, 1) := by decide +kernel
theorem d_MO_push_53 : decode b_MO_push 53 = .ok (.getfield 31, 3) := by decide +kernel
theorem d_MO_push_56 : decode b_MO_push 56 = .ok (.aload_n 0, 1) := by decide +kernel
theorem d_MO_push_57 : decode b_MO_push 57 = .ok (.getfield 50, 3) := by decide +kernel
theorem d_MO_push_60 : decode b_MO_push 60 = .ok (.aload_n 0, 1) := by decide +kernel
theorem d_MO_push_61 : decode b_MO_push 61 = .ok (.getfield 62, 3) := by decide +kernel
theorem d_MO_push_64 : decode b_MO_push 64 = .ok (.iastore, 1) := by decide +kernel
theorem d_MO_push_65 : decode b_MO_push 65 = .ok (.aload_n 0, 1) := by decide +kernel
theorem d_MO_push_66 : decode b_MO_push 66 = .ok (.dup, 1) := by decide +kernel
theorem d_MO_push_67 : decode b_MO_push 67 = .ok (.getfield 50, 3) := by decide +kernel
theorem d_MO_push_70 : decode b_MO_push 70 = .ok (.iconst 1, 1) := by decide +kernel
theorem d_MO_push_71 : decode b_MO_push 71 = .ok (.iadd, 1) := by decide +kernel
theorem d_MO_push_72 : decode b_MO_push 72 = .ok (.putfield 50, 3) := by decide +kernel
theorem d_MO_push_75 : decode b_MO_push 75 = .ok (.aload_n 0, 1) := by decide +kernel
theorem d_MO_push_76 : decode b_MO_push 76 = .ok (.getfield 50, 3) := by decide +kernel
theorem d_MO_push_79 : decode b_MO_push 79 = .ok (.ireturn, 1) := by decide +kernel
theorem d_MO_pop_0 : decode b_MO_pop 0 = .ok (.aload_n 0, 1) := by decide +kernel
theorem d_MO_pop_1 : decode b_MO_pop 1 = .ok (.getfield 46, 3) := by decide +kernel
theorem d_MO_pop_4 : decode b_MO_pop 4 = .ok (.ifCond .ne 10, 3) := by decide +kernel
theorem d_MO_pop_7 : decode b_MO_pop 7 = .ok (.aload_n 0, 1) := by decide +kernel
theorem d_MO_pop_8 : decode b_MO_pop 8 = .ok (.getfield 50, 3) := by decide +kernel
theorem d_MO_pop_11 : decode b_MO_pop 11 = .ok (.ifCond .ne 5, 3) := by decide +kernel
theorem d_MO_pop_14 : decode b_MO_pop 14 = .ok (.iconst (-1), 1) := by decide +kernel
theorem d_MO_pop_15 : decode b_MO_pop 15 = .ok (.ireturn, 1) := by decide +kernel
theorem d_MO_pop_16 : decode b_MO_pop 16 = .ok (.aload_n 0, 1) := by decide +kernel
theorem d_MO_pop_17 : decode b_MO_pop 17 = .ok (.dup, 1) := by decide +kernel
theorem d_MO_pop_18 : decode b_MO_pop 18 = .ok (.getfield 50, 3) := by decide +kernel
theorem d_MO_pop_21 : decode b_MO_pop 21 = .ok (.iconst 1, 1) := by decide +kernel
theorem d_MO_pop_22 : decode b_MO_pop 22 = .ok (.isub, 1) := by decide +kernel
theorem d_MO_pop_23 : decode b_MO_pop 23 = .ok (.putfield 50, 3) := by decide +kernel
theorem d_MO_pop_26 : decode b_MO_pop 26 = .ok (.iconst 0, 1) := by decide +kernel
theorem d_MO_pop_27 : decode b_MO_pop 27 = .ok (.istore_n 1, 1) := by decide +kernel
theorem d_MO_pop_28 : decode b_MO_pop 28 = .ok (.iload_n 1, 1) := by decide +kernel
theorem d_MO_pop_29 : decode b_MO_pop 29 = .ok (.bipush 8, 2) := by decide +kernel
theorem d_MO_pop_31 : decode b_MO_pop 31 = .ok (.if_icmp .ge 29, 3) := by decide +kernel
theorem d_MO_pop_34 : decode b_MO_pop 34 = .ok (.aload_n 0, 1) := by decide +kernel
theorem d_MO_pop_35 : decode b_MO_pop 35 = .ok (.getfield 7, 3) := by decide +kernel
theorem d_MO_pop_38 : decode b_MO_pop 38 = .ok (.iload_n 1, 1) := by decide +kernel
theorem d_MO_pop_39 : decode b_MO_pop 39 = .ok (.aload_n 0, 1) := by decide +kernel
theorem d_MO_pop_40 : decode b_MO_pop 40 = .ok (.getfield 28, 3) := by decide +kernel
theorem d_MO_pop_43 : decode b_MO_pop 43 = .ok (.bipush 8, 2) := by decide +kernel
theorem d_MO_pop_45 : decode b_MO_pop 45 = .ok (.aload_n 0, 1) := by decide +kernel
theorem d_MO_pop_46 : decode b_MO_pop 46 = .ok (.getfield 50, 3) := by decide +kernel
theorem d_MO_pop_49 : decode b_MO_pop 49 = .ok (.imul, 1) := by decide +kernel
theorem d_MO_pop_50 : decode b_MO_pop 50 = .ok (.iload_n 1, 1) := by decide +kernel
theorem d_MO_pop_51 : decode b_MO_pop 51 = .ok (.iadd, 1) := by decide +kernel
theorem d_MO_pop_52 : decode b_MO_pop 52 = .ok (.iaload, 1) := by decide +kernel
theorem d_MO_pop_53 : decode b_MO_pop 53 = .ok (.iastore, 1) := by decide +kernel
theorem d_MO_pop_54 : decode b_MO_pop 54 = .ok (.iinc 1 1, 3) := by decide +kernel
theorem d_MO_pop_57 : decode b_MO_pop 57 = .ok (.goto (-29), 3) := by decide +kernel
theorem d_MO_pop_60 : decode b_MO_pop 60 = .ok (.aload_n 0, 1) := by decide +kernel
theorem d_MO_pop_61 : decode b_MO_pop 61 = .ok (.aload_n 0, 1) := by decide +kernel
theorem d_MO_pop_62 : decode b_MO_pop 62 = .ok (.getfield 31, 3) := by decide +kernel
theorem d_MO_pop_65 : decode b_MO_pop 65 = .ok (.aload_n 0, 1) := by decide +kernel
theorem d_MO_pop_66 : decode b_MO_pop 66 = .ok (.getfield 50, 3) := by decide +kernel
theorem d_MO_pop_69 : decode b_MO_pop 69 = .ok (.iaload, 1) := by decide +kernel
theorem d_MO_pop_70 : decode b_MO_pop 70 = .ok (.putfield 62, 3) := by decide +kernel
theorem d_MO_pop_73 : decode b_MO_pop 73 = .ok (.aload_n 0, 1) := by decide +kernel
theorem d_MO_pop_74 : decode b_MO_pop 74 = .ok (.getfield 50, 3) := by decide +kernel
theorem d_MO_pop_77 : decode b_MO_pop 77 = .ok (.ireturn, 1) := by decide +kernel
theorem d_MO_search_0 : decode b_MO_search 0 = .ok (.aload_n 0, 1) := by decide +kernel
theorem d_MO_search_1 : decode b_MO_search 1 = .ok (.getfield 46, 3) := by decide +kernel
theorem d_MO_search_4 : decode b_MO_search 4 = .ok (.ifCond .eq 5, 3) := by decide +kernel
theorem d_MO_search_7 : decode b_MO_search 7 = .ok (.iconst 0, 1) := by decide +kernel
theorem d_MO_search_8 : decode b_MO_search 8 = .ok (.ireturn, 1) := by decide +kernel
theorem d_MO_search_9 : decode b_MO_search 9 = .ok (.iconst 0, 1) := by decide +kernel
theorem d_MO_search_10 : decode b_MO_search 10 = .ok (.istore_n 1, 1) := by decide +kernel
theorem d_MO_search_11 : decode b_MO_search 11 = .ok (.iload_n 1, 1) := by decide +kernel
theorem d_MO_search_12 : decode b_MO_search 12 = .ok (.bipush 8, 2) := by decide +kernel
theorem d_MO_search_14 : decode b_MO_search 14 = .ok (.if_icmp .ge 21, 3) := by decide +kernel
theorem d_MO_search_17 : decode b_MO_search 17 = .ok (.aload_n 0, 1) := by decide +kernel
theorem d_MO_search_18 : decode b_MO_search 18 = .ok (.getfield 34, 3) := by decide +kernel
theorem d_MO_search_21 : decode b_MO_search 21 = .ok (.iload_n 1, 1) := by decide +kernel
theorem d_MO_search_22 : decode b_MO_search 22 = .ok (.aload_n 0, 1) := by decide +kernel
theorem d_MO_search_23 : decode b_MO_search 23 = .ok (.getfield 7, 3) := by decide +kernel
theorem d_MO_search_26 : decode b_MO_search 26 = .ok (.iload_n 1, 1) := by decide +kernel
theorem d_MO_search_27 : decode b_MO_search 27 = .ok (.iaload, 1) := by decide +kernel
theorem d_MO_search_28 : decode b_MO_search 28 = .ok (.iastore, 1) := by decide +kernel
theorem d_MO_search_29 : decode b_MO_search 29 = .ok (.iinc 1 1, 3) := by decide +kernel
theorem d_MO_search_32 : decode b_MO_search 32 = .ok (.goto (-21), 3) := by decide +kernel
theorem d_MO_search_35 : decode b_MO_search 35 = .ok (.aload_n 0, 1) := by decide +kernel
theorem d_MO_search_36 : decode b_MO_search 36 = .ok (.iconst 1, 1) := by decide +kernel
theorem d_MO_search_37 : decode b_MO_search 37 = .ok (.putfield 46, 3) := by decide +kernel
theorem d_MO_search_40 : decode b_MO_search 40 = .ok (.aload_n 0, 1) := by decide +kernel
theorem d_MO_search_41 : decode b_MO_search 41 = .ok (.iconst 0, 1) := by decide +kernel
theorem d_MO_search_42 : decode b_MO_search 42 = .ok (.putfield 102, 3) := by decide +kernel
theorem d_MO_search_45 : decode b_MO_search 45 = .ok (.aload_n 0, 1) := by decide +kernel
theorem d_MO_search_46 : decode b_MO_search 46 = .ok (.iconst (-1), 1) := by decide +kernel
theorem d_MO_search_47 : decode b_MO_search 47 = .ok (.putfield 105, 3) := by decide +kernel
theorem d_MO_search_50 : decode b_MO_search 50 = .ok (.aload_n 0, 1) := by decide +kernel
theorem d_MO_search_51 : decode b_MO_search 51 = .ok (.iconst 0, 1) := by decide +kernel
theorem d_MO_search_52 : decode b_MO_search 52 = .ok (.putfield 108, 3) := by decide +kernel
theorem d_MO_search_55 : decode b_MO_search 55 = .ok (.aload_n 0, 1) := by decide +kernel
theorem d_MO_search_56 : decode b_MO_search 56 = .ok (.iconst 0, 1) := by decide +kernel
theorem d_MO_search_57 : decode b_MO_search 57 = .ok (.putfield 111, 3) := by decide +kernel
theorem d_MO_search_60 : decode b_MO_search 60 = .ok (.aload_n 0, 1) := by decide +kernel
theorem d_MO_search_61 : decode b_MO_search 61 = .ok (.iconst 0, 1) := by decide +kernel
theorem d_MO_search_62 : decode b_MO_search 62 = .ok (.putfield 114, 3) := by decide +kernel
theorem d_MO_search_65 : decode b_MO_search 65 = .ok (.iconst 1, 1) := by decide +kernel
theorem d_MO_search_66 : decode b_MO_search 66 = .ok (.ireturn, 1) := by decide +kernel
theorem d_MO_restore_0 : decode b_MO_restore 0 = .ok (.iconst 0, 1) := by decide +kernel
theorem d_MO_restore_1 : decode b_MO_restore 1 = .ok (.istore_n 1, 1) := by decide +kernel
theorem d_MO_restore_2 : decode b_MO_restore 2 = .ok (.iload_n 1, 1) := by decide +kernel
theorem d_MO_restore_3 : decode b_MO_restore 3 = .ok (.bipush 8, 2) := by decide +kernel
theorem d_MO_restore_5 : decode b_MO_restore 5 = .ok (.if_icmp .ge 21, 3) := by decide +kernel
theorem d_MO_restore_8 : decode b_MO_restore 8 = .ok (.aload_n 0, 1) := by decide +kernel
theorem d_MO_restore_9 : decode b_MO_restore 9 = .ok (.getfield 7, 3) := by decide +kernel
theorem d_MO_restore_12 : decode b_MO_restore 12 = .ok (.iload_n 1, 1) := by decide +kernel
theorem d_MO_restore_13 : decode b_MO_restore 13 = .ok (.aload_n 0, 1) := by decide +kernel
theorem d_MO_restore_14 : decode b_MO_restore 14 = .ok (.getfield 34, 3) := by decide +kernel
theorem d_MO_restore_17 : decode b_MO_restore 17 = .ok (.iload_n 1, 1) := by decide +kernel
theorem d_MO_restore_18 : decode b_MO_restore 18 = .ok (.iaload, 1) := by decide +kernel
theorem d_MO_restore_19 : decode b_MO_restore 19 = .ok (.iastore, 1) := by decide +kernel
theorem d_MO_restore_20 : decode b_MO_restore 20 = .ok (.iinc 1 1, 3) := by decide +kernel
theorem d_MO_restore_23 : decode b_MO_restore 23 = .ok (.goto (-21), 3) := by decide +kernel
theorem d_MO_restore_26 : decode b_MO_restore 26 = .ok (.return_, 1) := by decide +kernel
theorem d_MO_open_0 : decode b_MO_open 0 = .ok (.iconst 0, 1) := by decide +kernel
theorem d_MO_open_1 : decode b_MO_open 1 = .ok (.istore_n 3, 1) := by decide +kernel
theorem d_MO_open_2 : decode b_MO_open 2 = .ok (.iconst 0, 1) := by decide +kernel
theorem d_MO_open_3 : decode b_MO_open 3 = .ok (.istore 4, 2) := by decide +kernel
theorem d_MO_open_5 : decode b_MO_open 5 = .ok (.iconst 0, 1) := by decide +kernel
theorem d_MO_open_6 : decode b_MO_open 6 = .ok (.istore 5, 2) := by decide +kernel
theorem d_MO_open_8 : decode b_MO_open 8 = .ok (.iload 5, 2) := by decide +kernel
theorem d_MO_open_10 : decode b_MO_open 10 = .ok (.iconst 3, 1) := by decide +kernel
theorem d_MO_open_11 : decode b_MO_open 11 = .ok (.if_icmp .ge 76, 3) := by decide +kernel
theorem d_MO_open_14 : decode b_MO_open 14 = .ok (.aload_n 0, 1) := by decide +kernel
theorem d_MO_open_15 : decode b_MO_open 15 = .ok (.getfield 16, 3) := by decide +kernel
theorem d_MO_open_18 : decode b_MO_open 18 = .ok (.iconst 3, 1) := by decide +kernel
theorem d_MO_open_19 : decode b_MO_open 19 = .ok (.iload_n 1, 1) := by decide +kernel
theorem d_MO_open_20 : decode b_MO_open 20 = .ok (.imul, 1) := by decide +kernel
theorem d_MO_open_21 : decode b_MO_open 21 = .ok (.iload 5, 2) := by decide +kernel
theorem d_MO_open_23 : decode b_MO_open 23 = .ok (.iadd, 1) := by decide +kernel
theorem d_MO_open_24 : decode b_MO_open 24 = .ok (.iaload, 1) := by decide +kernel
theorem d_MO_open_25 : decode b_MO_open 25 = .ok (.istore 6, 2) := by decide +kernel
theorem d_MO_open_27 : decode b_MO_open 27 = .ok (.iload_n 3, 1) := by decide +kernel
theorem d_MO_open_28 : decode b_MO_open 28 = .ok (.ifCond .ne 9, 3) := by decide +kernel
theorem d_MO_open_31 : decode b_MO_open 31 = .ok (.iload 6, 2) := by decide +kernel
theorem d_MO_open_33 : decode b_MO_open 33 = .ok (.iload_n 2, 1) := by decide +kernel
theorem d_MO_open_34 : decode b_MO_open 34 = .ok (.if_icmp .ne 7, 3) := by decide +kernel
theorem d_MO_open_37 : decode b_MO_open 37 = .ok (.iconst 1, 1) := by decide +kernel
theorem d_MO_open_38 : decode b_MO_open 38 = .ok (.goto 4, 3) := by decide +kernel
theorem d_MO_open_41 : decode b_MO_open 41 = .ok (.iconst 0, 1) := by decide +kernel
theorem d_MO_open_42 : decode b_MO_open 42 = .ok (.istore_n 3, 1) := by decide +kernel
theorem d_MO_open_43 : decode b_MO_open 43 = .ok (.iload 4, 2) := by decide +kernel
theorem d_MO_open_45 : decode b_MO_open 45 = .ok (.ifCond .ne 29, 3) := by decide +kernel
theorem d_MO_open_48 : decode b_MO_open 48 = .ok (.iload 6, 2) := by decide +kernel
theorem d_MO_open_50 : decode b_MO_open 50 = .ok (.ifCond .lt 28, 3) := by decide +kernel
theorem d_MO_open_53 : decode b_MO_open 53 = .ok (.iload 6, 2) := by decide +kernel
theorem d_MO_open_55 : decode b_MO_open 55 = .ok (.iload_n 2, 1) := by decide +kernel
theorem d_MO_open_56 : decode b_MO_open 56 = .ok (.if_icmp .eq 22, 3) := by decide +kernel
theorem d_MO_open_59 : decode b_MO_open 59 = .ok (.aload_n 0, 1) := by decide +kernel
theorem d_MO_open_60 : decode b_MO_open 60 = .ok (.aload_n 0, 1) := by decide +kernel
theorem d_MO_open_61 : decode b_MO_open 61 = .ok (.getfield 7, 3) := by decide +kernel
theorem d_MO_open_64 : decode b_MO_open 64 = .ok (.iload 6, 2) := by decide +kernel
theorem d_MO_open_66 : decode b_MO_open 66 = .ok (.iaload, 1) := by decide +kernel
theorem d_MO_open_67 : decode b_MO_open 67 = .ok (.invokevirtual 95, 3) := by decide +kernel
theorem d_MO_open_70 : decode b_MO_open 70 = .ok (.iconst 1, 1) := by decide +kernel
theorem d_MO_open_71 : decode b_MO_open 71 = .ok (.if_icmp .le 7, 3) := by decide +kernel
theorem d_MO_open_74 : decode b_MO_open 74 = .ok (.iconst 1, 1) := by decide +kernel
theorem d_MO_open_75 : decode b_MO_open 75 = .ok (.goto 4, 3) := by decide +kernel
theorem d_MO_open_78 : decode b_MO_open 78 = .ok (.iconst 0, 1) := by decide +kernel
theorem d_MO_open_79 : decode b_MO_open 79 = .ok (.istore 4, 2) := by decide +kernel
theorem d_MO_open_81 : decode b_MO_open 81 = .ok (.iinc 5 1, 3) := by decide +kernel
theorem d_MO_open_84 : decode b_MO_open 84 = .ok (.goto (-76), 3) := by decide +kernel
theorem d_MO_open_87 : decode b_MO_open 87 = .ok (.iload_n 3, 1) := by decide +kernel
theorem d_MO_open_88 : decode b_MO_open 88 = .ok (.ifCond .eq 12, 3) := by decide +kernel
theorem d_MO_open_91 : decode b_MO_open 91 = .ok (.iload 4, 2) := by decide +kernel
theorem d_MO_open_93 : decode b_MO_open 93 = .ok (.ifCond .eq 7, 3) := by decide +kernel
theorem d_MO_open_96 : decode b_MO_open 96 = .ok (.iconst 1, 1) := by decide +kernel
theorem d_MO_open_97 : decode b_MO_open 97 = .ok (.goto 4, 3) := by decide +kernel
theorem d_MO_open_100 : decode b_MO_open 100 = .ok (.iconst 0, 1) := by decide +kernel
theorem d_MO_open_101 : decode b_MO_open 101 = .ok (.ireturn, 1) := by decide +kernel
theorem d_MO_branch_0 : decode b_MO_branch 0 = .ok (.iconst (-1), 1) := by decide +kernel
theorem d_MO_branch_1 : decode b_MO_branch 1 = .ok (.istore_n 1, 1) := by decide +kernel
theorem d_MO_branch_2 : decode b_MO_branch 2 = .ok (.iconst 0, 1) := by decide +kernel
theorem d_MO_branch_3 : decode b_MO_branch 3 = .ok (.istore_n 2, 1) := by decide +kernel
theorem d_MO_branch_4 : decode b_MO_branch 4 = .ok (.iconst 0, 1) := by decide +kernel
theorem d_MO_branch_5 : decode b_MO_branch 5 = .ok (.istore_n 3, 1) := by decide +kernel
theorem d_MO_branch_6 : decode b_MO_branch 6 = .ok (.iconst 0, 1) := by decide +kernel
theorem d_MO_branch_7 : decode b_MO_branch 7 = .ok (.istore 4, 2) := by decide +kernel
theorem d_MO_branch_9 : decode b_MO_branch 9 = .ok (.iload 4, 2) := by decide +kernel
theorem d_MO_branch_11 : decode b_MO_branch 11 = .ok (.aload_n 0, 1) := by decide +kernel
theorem d_MO_branch_12 : decode b_MO_branch 12 = .ok (.getfield 54, 3) := by decide +kernel
theorem d_MO_branch_15 : decode b_MO_branch 15 = .ok (.if_icmp .ge 94, 3) := by decide +kernel
theorem d_MO_branch_18 : decode b_MO_branch 18 = .ok (.aload_n 0, 1) := by decide +kernel
theorem d_MO_branch_19 : decode b_MO_branch 19 = .ok (.aload_n 0, 1) := by decide +kernel
theorem d_MO_branch_20 : decode b_MO_branch 20 = .ok (.getfield 7, 3) := by decide +kernel
theorem d_MO_branch_23 : decode b_MO_branch 23 = .ok (.iload 4, 2) := by decide +kernel
theorem d_MO_branch_25 : decode b_MO_branch 25 = .ok (.iaload, 1) := by decide +kernel
theorem d_MO_branch_26 : decode b_MO_branch 26 = .ok (.invokevirtual 95, 3) := by decide +kernel
theorem d_MO_branch_29 : decode b_MO_branch 29 = .ok (.istore 5, 2) := by decide +kernel
theorem d_MO_branch_31 : decode b_MO_branch 31 = .ok (.iconst 1, 1) := by decide +kernel
theorem d_MO_branch_32 : decode b_MO_branch 32 = .ok (.istore 6, 2) := by decide +kernel
theorem d_MO_branch_34 : decode b_MO_branch 34 = .ok (.iconst 0, 1) := by decide +kernel
theorem d_MO_branch_35 : decode b_MO_branch 35 = .ok (.istore 7, 2) := by decide +kernel
theorem d_MO_branch_37 : decode b_MO_branch 37 = .ok (.iload 7, 2) := by decide +kernel
theorem d_MO_branch_39 : decode b_MO_branch 39 = .ok (.aload_n 0, 1) := by decide +kernel
theorem d_MO_branch_40 : decode b_MO_branch 40 = .ok (.getfield 62, 3) := by decide +kernel
theorem d_MO_branch_43 : decode b_MO_branch 43 = .ok (.if_icmp .ge 30, 3) := by decide +kernel
theorem d_MO_branch_46 : decode b_MO_branch 46 = .ok (.iload 6, 2) := by decide +kernel
theorem d_MO_branch_48 : decode b_MO_branch 48 = .ok (.aload_n 0, 1) := by decide +kernel
theorem d_MO_branch_49 : decode b_MO_branch 49 = .ok (.iload 7, 2) := by decide +kernel
theorem d_MO_branch_51 : decode b_MO_branch 51 = .ok (.iload 4, 2) := by decide +kernel
theorem d_MO_branch_53 : decode b_MO_branch 53 = .ok (.invokevirtual 117, 3) := by decide +kernel
theorem d_MO_branch_56 : decode b_MO_branch 56 = .ok (.ifCond .eq 7, 3) := by decide +kernel
theorem d_MO_branch_59 : decode b_MO_branch 59 = .ok (.iconst 1, 1) := by decide +kernel
theorem d_MO_branch_60 : decode b_MO_branch 60 = .ok (.goto 4, 3) := by decide +kernel
theorem d_MO_branch_63 : decode b_MO_branch 63 = .ok (.iconst 0, 1) := by decide +kernel
theorem d_MO_branch_64 : decode b_MO_branch 64 = .ok (.iadd, 1) := by decide +kernel
theorem d_MO_branch_65 : decode b_MO_branch 65 = .ok (.istore 6, 2) := by decide +kernel
theorem d_MO_branch_67 : decode b_MO_branch 67 = .ok (.iinc 7 1, 3) := by decide +kernel
theorem d_MO_branch_70 : decode b_MO_branch 70 = .ok (.goto (-33), 3) := by decide +kernel
theorem d_MO_branch_73 : decode b_MO_branch 73 = .ok (.iload 5, 2) := by decide +kernel
theorem d_MO_branch_75 : decode b_MO_branch 75 = .ok (.iconst 1, 1) := by decide +kernel
theorem d_MO_branch_76 : decode b_MO_branch 76 = .ok (.if_icmp .le 27, 3) := by decide +kernel
theorem d_MO_branch_79 : decode b_MO_branch 79 = .ok (.iload_n 1, 1) := by decide +kernel
theorem d_MO_branch_80 : decode b_MO_branch 80 = .ok (.ifCond .lt 14, 3) := by decide +kernel
theorem d_MO_branch_83 : decode b_MO_branch 83 = .ok (.iload 5, 2) := by decide +kernel
theorem d_MO_branch_85 : decode b_MO_branch 85 = .ok (.iload_n 3, 1) := by decide +kernel
theorem d_MO_branch_86 : decode b_MO_branch 86 = .ok (.imul, 1) := by decide +kernel
theorem d_MO_branch_87 : decode b_MO_branch 87 = .ok (.iload_n 2, 1) := by decide +kernel
theorem d_MO_branch_88 : decode b_MO_branch 88 = .ok (.iload 6, 2) := by decide +kernel
theorem d_MO_branch_90 : decode b_MO_branch 90 = .ok (.imul, 1) := by decide +kernel
theorem d_MO_branch_91 : decode b_MO_branch 91 = .ok (.if_icmp .ge 12, 3) := by decide +kernel
theorem d_MO_branch_94 : decode b_MO_branch 94 = .ok (.iload 4, 2) := by decide +kernel
theorem d_MO_branch_96 : decode b_MO_branch 96 = .ok (.istore_n 1, 1) := by decide +kernel
theorem d_MO_branch_97 : decode b_MO_branch 97 = .ok (.iload 5, 2) := by decide +kernel
theorem d_MO_branch_99 : decode b_MO_branch 99 = .ok (.istore_n 2, 1) := by decide +kernel
theorem d_MO_branch_100 : decode b_MO_branch 100 = .ok (.iload 6, 2) := by decide +kernel
theorem d_MO_branch_102 : decode b_MO_branch 102 = .ok (.istore_n 3, 1) := by decide +kernel
theorem d_MO_branch_103 : decode b_MO_branch 103 = .ok (.iinc 4 1, 3) := by decide +kernel
theorem d_MO_branch_106 : decode b_MO_branch 106 = .ok (.goto (-97), 3) := by decide +kernel
theorem d_MO_branch_109 : decode b_MO_branch 109 = .ok (.iload_n 1, 1) := by decide +kernel
theorem d_MO_branch_110 : decode b_MO_branch 110 = .ok (.ireturn, 1) := by decide +kernel
theorem d_MO_node_0 : decode b_MO_node 0 = .ok (.aload_n 0, 1) := by decide +kernel
theorem d_MO_node_1 : decode b_MO_node 1 = .ok (.invokevirtual 120, 3) := by decide +kernel
theorem d_MO_node_4 : decode b_MO_node 4 = .ok (.iconst 0, 1) := by decide +kernel
theorem d_MO_node_5 : decode b_MO_node 5 = .ok (.istore_n 2, 1) := by decide +kernel
theorem d_MO_node_6 : decode b_MO_node 6 = .ok (.iload_n 2, 1) := by decide +kernel
theorem d_MO_node_7 : decode b_MO_node 7 = .ok (.iload_n 1, 1) := by decide +kernel
theorem d_MO_node_8 : decode b_MO_node 8 = .ok (.if_icmp .ge 31, 3) := by decide +kernel
theorem d_MO_node_11 : decode b_MO_node 11 = .ok (.aload_n 0, 1) := by decide +kernel
theorem d_MO_node_12 : decode b_MO_node 12 = .ok (.getfield 7, 3) := by decide +kernel
theorem d_MO_node_15 : decode b_MO_node 15 = .ok (.aload_n 0, 1) := by decide +kernel
theorem d_MO_node_16 : decode b_MO_node 16 = .ok (.getfield 40, 3) := by decide +kernel
theorem d_MO_node_19 : decode b_MO_node 19 = .ok (.iload_n 2, 1) := by decide +kernel
theorem d_MO_node_20 : decode b_MO_node 20 = .ok (.iaload, 1) := by decide +kernel
theorem d_MO_node_21 : decode b_MO_node 21 = .ok (.dup2, 1) := by decide +kernel
theorem d_MO_node_22 : decode b_MO_node 22 = .ok (.iaload, 1) := by decide +kernel
theorem d_MO_node_23 : decode b_MO_node 23 = .ok (.iconst 1, 1) := by decide +kernel
theorem d_MO_node_24 : decode b_MO_node 24 = .ok (.aload_n 0, 1) := by decide +kernel
theorem d_MO_node_25 : decode b_MO_node 25 = .ok (.getfield 43, 3) := by decide +kernel
theorem d_MO_node_28 : decode b_MO_node 28 = .ok (.iload_n 2, 1) := by decide +kernel
theorem d_MO_node_29 : decode b_MO_node 29 = .ok (.iaload, 1) := by decide +kernel
theorem d_MO_node_30 : decode b_MO_node 30 = .ok (.ishl, 1) := by decide +kernel
theorem d_MO_node_31 : decode b_MO_node 31 = .ok (.iand, 1) := by decide +kernel
theorem d_MO_node_32 : decode b_MO_node 32 = .ok (.iastore, 1) := by decide +kernel
theorem d_MO_node_33 : decode b_MO_node 33 = .ok (.iinc 2 1, 3) := by decide +kernel
theorem d_MO_node_36 : decode b_MO_node 36 = .ok (.goto (-30), 3) := by decide +kernel
theorem d_MO_node_39 : decode b_MO_node 39 = .ok (.aload_n 0, 1) := by decide +kernel
theorem d_MO_node_40 : decode b_MO_node 40 = .ok (.invokevirtual 99, 3) := by decide +kernel
theorem d_MO_node_43 : decode b_MO_node 43 = .ok (.ireturn, 1) := by decide +kernel
theorem d_MO_arrive_0 : decode b_MO_arrive 0 = .ok (.aload_n 0, 1) := by decide +kernel
theorem d_MO_arrive_1 : decode b_MO_arrive 1 = .ok (.getfield 43, 3) := by decide +kernel
theorem d_MO_arrive_4 : decode b_MO_arrive 4 = .ok (.aload_n 0, 1) := by decide +kernel
theorem d_MO_arrive_5 : decode b_MO_arrive 5 = .ok (.getfield 105, 3) := by decide +kernel
theorem d_MO_arrive_8 : decode b_MO_arrive 8 = .ok (.iconst (-1), 1) := by decide +kernel
theorem d_MO_arrive_9 : decode b_MO_arrive 9 = .ok (.iastore, 1) := by decide +kernel
theorem d_MO_arrive_10 : decode b_MO_arrive 10 = .ok (.aload_n 0, 1) := by decide +kernel
theorem d_MO_arrive_11 : decode b_MO_arrive 11 = .ok (.invokevirtual 123, 3) := by decide +kernel
theorem d_MO_arrive_14 : decode b_MO_arrive 14 = .ok (.istore_n 1, 1) := by decide +kernel
theorem d_MO_arrive_15 : decode b_MO_arrive 15 = .ok (.aload_n 0, 1) := by decide +kernel
theorem d_MO_arrive_16 : decode b_MO_arrive 16 = .ok (.getfield 40, 3) := by decide +kernel
theorem d_MO_arrive_19 : decode b_MO_arrive 19 = .ok (.aload_n 0, 1) := by decide +kernel
theorem d_MO_arrive_20 : decode b_MO_arrive 20 = .ok (.getfield 105, 3) := by decide +kernel
theorem d_MO_arrive_23 : decode b_MO_arrive 23 = .ok (.iload_n 1, 1) := by decide +kernel
theorem d_MO_arrive_24 : decode b_MO_arrive 24 = .ok (.iastore, 1) := by decide +kernel
theorem d_MO_arrive_25 : decode b_MO_arrive 25 = .ok (.aload_n 0, 1) := by decide +kernel
theorem d_MO_arrive_26 : decode b_MO_arrive 26 = .ok (.dup, 1) := by decide +kernel
theorem d_MO_arrive_27 : decode b_MO_arrive 27 = .ok (.getfield 114, 3) := by decide +kernel
theorem d_MO_arrive_30 : decode b_MO_arrive 30 = .ok (.iload_n 1, 1) := by decide +kernel
theorem d_MO_arrive_31 : decode b_MO_arrive 31 = .ok (.ifCond .ge 7, 3) := by decide +kernel
theorem d_MO_arrive_34 : decode b_MO_arrive 34 = .ok (.iconst 1, 1) := by decide +kernel
theorem d_MO_arrive_35 : decode b_MO_arrive 35 = .ok (.goto 4, 3) := by decide +kernel
theorem d_MO_arrive_38 : decode b_MO_arrive 38 = .ok (.iconst 0, 1) := by decide +kernel
theorem d_MO_arrive_39 : decode b_MO_arrive 39 = .ok (.iadd, 1) := by decide +kernel
theorem d_MO_arrive_40 : decode b_MO_arrive 40 = .ok (.putfield 114, 3) := by decide +kernel
theorem d_MO_arrive_43 : decode b_MO_arrive 43 = .ok (.iload_n 1, 1) := by decide +kernel
theorem d_MO_arrive_44 : decode b_MO_arrive 44 = .ok (.ifCond .ge 7, 3) := by decide +kernel
theorem d_MO_arrive_47 : decode b_MO_arrive 47 = .ok (.iconst 2, 1) := by decide +kernel
theorem d_MO_arrive_48 : decode b_MO_arrive 48 = .ok (.goto 4, 3) := by decide +kernel
theorem d_MO_arrive_51 : decode b_MO_arrive 51 = .ok (.iconst 1, 1) := by decide +kernel
theorem d_MO_arrive_52 : decode b_MO_arrive 52 = .ok (.ireturn, 1) := by decide +kernel
theorem d_MO_root_0 : decode b_MO_root 0 = .ok (.aload_n 0, 1) := by decide +kernel
theorem d_MO_root_1 : decode b_MO_root 1 = .ok (.iconst 1, 1) := by decide +kernel
theorem d_MO_root_2 : decode b_MO_root 2 = .ok (.putfield 102, 3) := by decide +kernel
theorem d_MO_root_5 : decode b_MO_root 5 = .ok (.aload_n 0, 1) := by decide +kernel
theorem d_MO_root_6 : decode b_MO_root 6 = .ok (.dup, 1) := by decide +kernel
theorem d_MO_root_7 : decode b_MO_root 7 = .ok (.getfield 108, 3) := by decide +kernel
theorem d_MO_root_10 : decode b_MO_root 10 = .ok (.iconst 1, 1) := by decide +kernel
theorem d_MO_root_11 : decode b_MO_root 11 = .ok (.iadd, 1) := by decide +kernel
theorem d_MO_root_12 : decode b_MO_root 12 = .ok (.putfield 108, 3) := by decide +kernel
theorem d_MO_root_15 : decode b_MO_root 15 = .ok (.aload_n 0, 1) := by decide +kernel
theorem d_MO_root_16 : decode b_MO_root 16 = .ok (.iconst 0, 1) := by decide +kernel
theorem d_MO_root_17 : decode b_MO_root 17 = .ok (.invokevirtual 127, 3) := by decide +kernel
theorem d_MO_root_20 : decode b_MO_root 20 = .ok (.ifCond .eq 13, 3) := by decide +kernel
theorem d_MO_root_23 : decode b_MO_root 23 = .ok (.aload_n 0, 1) := by decide +kernel
theorem d_MO_root_24 : decode b_MO_root 24 = .ok (.iconst 0, 1) := by decide +kernel
theorem d_MO_root_25 : decode b_MO_root 25 = .ok (.putfield 105, 3) := by decide +kernel
theorem d_MO_root_28 : decode b_MO_root 28 = .ok (.aload_n 0, 1) := by decide +kernel
theorem d_MO_root_29 : decode b_MO_root 29 = .ok (.invokevirtual 131, 3) := by decide +kernel
theorem d_MO_root_32 : decode b_MO_root 32 = .ok (.ireturn, 1) := by decide +kernel
theorem d_MO_root_33 : decode b_MO_root 33 = .ok (.aload_n 0, 1) := by decide +kernel
theorem d_MO_root_34 : decode b_MO_root 34 = .ok (.dup, 1) := by decide +kernel
theorem d_MO_root_35 : decode b_MO_root 35 = .ok (.getfield 111, 3) := by decide +kernel
theorem d_MO_root_38 : decode b_MO_root 38 = .ok (.iconst 1, 1) := by decide +kernel
theorem d_MO_root_39 : decode b_MO_root 39 = .ok (.iadd, 1) := by decide +kernel
theorem d_MO_root_40 : decode b_MO_root 40 = .ok (.putfield 111, 3) := by decide +kernel
theorem d_MO_root_43 : decode b_MO_root 43 = .ok (.aload_n 0, 1) := by decide +kernel
theorem d_MO_root_44 : decode b_MO_root 44 = .ok (.invokevirtual 120, 3) := by decide +kernel
theorem d_MO_root_47 : decode b_MO_root 47 = .ok (.iconst 1, 1) := by decide +kernel
theorem d_MO_root_48 : decode b_MO_root 48 = .ok (.ireturn, 1) := by decide +kernel
theorem d_MO_following_0 : decode b_MO_following 0 = .ok (.aload_n 0, 1) := by decide +kernel
theorem d_MO_following_1 : decode b_MO_following 1 = .ok (.aload_n 0, 1) := by decide +kernel
theorem d_MO_following_2 : decode b_MO_following 2 = .ok (.getfield 105, 3) := by decide +kernel
theorem d_MO_following_5 : decode b_MO_following 5 = .ok (.invokevirtual 127, 3) := by decide +kernel
theorem d_MO_following_8 : decode b_MO_following 8 = .ok (.istore_n 1, 1) := by decide +kernel
theorem d_MO_following_9 : decode b_MO_following 9 = .ok (.aload_n 0, 1) := by decide +kernel
theorem d_MO_following_10 : decode b_MO_following 10 = .ok (.getfield 43, 3) := by decide +kernel
theorem d_MO_following_13 : decode b_MO_following 13 = .ok (.aload_n 0, 1) := by decide +kernel
theorem d_MO_following_14 : decode b_MO_following 14 = .ok (.getfield 105, 3) := by decide +kernel
theorem d_MO_following_17 : decode b_MO_following 17 = .ok (.iaload, 1) := by decide +kernel
theorem d_MO_following_18 : decode b_MO_following 18 = .ok (.iconst 1, 1) := by decide +kernel
theorem d_MO_following_19 : decode b_MO_following 19 = .ok (.iadd, 1) := by decide +kernel
theorem d_MO_following_20 : decode b_MO_following 20 = .ok (.istore_n 2, 1) := by decide +kernel
theorem d_MO_following_21 : decode b_MO_following 21 = .ok (.iload_n 2, 1) := by decide +kernel
theorem d_MO_following_22 : decode b_MO_following 22 = .ok (.bipush 16, 2) := by decide +kernel
theorem d_MO_following_24 : decode b_MO_following 24 = .ok (.if_icmp .ge 42, 3) := by decide +kernel
theorem d_MO_following_27 : decode b_MO_following 27 = .ok (.iload_n 1, 1) := by decide +kernel
theorem d_MO_following_28 : decode b_MO_following 28 = .ok (.ifCond .eq 32, 3) := by decide +kernel
theorem d_MO_following_31 : decode b_MO_following 31 = .ok (.aload_n 0, 1) := by decide +kernel
theorem d_MO_following_32 : decode b_MO_following 32 = .ok (.getfield 40, 3) := by decide +kernel
theorem d_MO_following_35 : decode b_MO_following 35 = .ok (.aload_n 0, 1) := by decide +kernel
theorem d_MO_following_36 : decode b_MO_following 36 = .ok (.getfield 105, 3) := by decide +kernel
theorem d_MO_following_39 : decode b_MO_following 39 = .ok (.iaload, 1) := by decide +kernel
theorem d_MO_following_40 : decode b_MO_following 40 = .ok (.ifCond .lt 20, 3) := by decide +kernel
theorem d_MO_following_43 : decode b_MO_following 43 = .ok (.aload_n 0, 1) := by decide +kernel
theorem d_MO_following_44 : decode b_MO_following 44 = .ok (.aload_n 0, 1) := by decide +kernel
theorem d_MO_following_45 : decode b_MO_following 45 = .ok (.getfield 40, 3) := by decide +kernel
theorem d_MO_following_48 : decode b_MO_following 48 = .ok (.aload_n 0, 1) := by decide +kernel
theorem d_MO_following_49 : decode b_MO_following 49 = .ok (.getfield 105, 3) := by decide +kernel
theorem d_MO_following_52 : decode b_MO_following 52 = .ok (.iaload, 1) := by decide +kernel
theorem d_MO_following_53 : decode b_MO_following 53 = .ok (.iload_n 2, 1) := by decide +kernel
theorem d_MO_following_54 : decode b_MO_following 54 = .ok (.invokevirtual 73, 3) := by decide +kernel
theorem d_MO_following_57 : decode b_MO_following 57 = .ok (.ifCond .ne 9, 3) := by decide +kernel
theorem d_MO_following_60 : decode b_MO_following 60 = .ok (.iinc 2 1, 3) := by decide +kernel
theorem d_MO_following_63 : decode b_MO_following 63 = .ok (.goto (-42), 3) := by decide +kernel
theorem d_MO_following_66 : decode b_MO_following 66 = .ok (.iload_n 2, 1) := by decide +kernel
theorem d_MO_following_67 : decode b_MO_following 67 = .ok (.ireturn, 1) := by decide +kernel
theorem d_MO_visit_0 : decode b_MO_visit 0 = .ok (.aload_n 0, 1) := by decide +kernel
theorem d_MO_visit_1 : decode b_MO_visit 1 = .ok (.getfield 102, 3) := by decide +kernel
theorem d_MO_visit_4 : decode b_MO_visit 4 = .ok (.ifCond .ne 8, 3) := by decide +kernel
theorem d_MO_visit_7 : decode b_MO_visit 7 = .ok (.aload_n 0, 1) := by decide +kernel
theorem d_MO_visit_8 : decode b_MO_visit 8 = .ok (.invokevirtual 134, 3) := by decide +kernel
theorem d_MO_visit_11 : decode b_MO_visit 11 = .ok (.ireturn, 1) := by decide +kernel
theorem d_MO_visit_12 : decode b_MO_visit 12 = .ok (.bipush 16, 2) := by decide +kernel
theorem d_MO_visit_14 : decode b_MO_visit 14 = .ok (.istore_n 1, 1) := by decide +kernel
theorem d_MO_visit_15 : decode b_MO_visit 15 = .ok (.aload_n 0, 1) := by decide +kernel
theorem d_MO_visit_16 : decode b_MO_visit 16 = .ok (.getfield 105, 3) := by decide +kernel
theorem d_MO_visit_19 : decode b_MO_visit 19 = .ok (.ifCond .lt 37, 3) := by decide +kernel
theorem d_MO_visit_22 : decode b_MO_visit 22 = .ok (.iload_n 1, 1) := by decide +kernel
theorem d_MO_visit_23 : decode b_MO_visit 23 = .ok (.bipush 16, 2) := by decide +kernel
theorem d_MO_visit_25 : decode b_MO_visit 25 = .ok (.if_icmp .ne 31, 3) := by decide +kernel
theorem d_MO_visit_28 : decode b_MO_visit 28 = .ok (.aload_n 0, 1) := by decide +kernel
theorem d_MO_visit_29 : decode b_MO_visit 29 = .ok (.invokevirtual 137, 3) := by decide +kernel
theorem d_MO_visit_32 : decode b_MO_visit 32 = .ok (.istore_n 1, 1) := by decide +kernel
theorem d_MO_visit_33 : decode b_MO_visit 33 = .ok (.aload_n 0, 1) := by decide +kernel
theorem d_MO_visit_34 : decode b_MO_visit 34 = .ok (.dup, 1) := by decide +kernel
theorem d_MO_visit_35 : decode b_MO_visit 35 = .ok (.getfield 105, 3) := by decide +kernel
theorem d_MO_visit_38 : decode b_MO_visit 38 = .ok (.iload_n 1, 1) := by decide +kernel
theorem d_MO_visit_39 : decode b_MO_visit 39 = .ok (.bipush 16, 2) := by decide +kernel
theorem d_MO_visit_41 : decode b_MO_visit 41 = .ok (.if_icmp .ne 7, 3) := by decide +kernel
theorem d_MO_visit_44 : decode b_MO_visit 44 = .ok (.iconst 1, 1) := by decide +kernel
theorem d_MO_visit_45 : decode b_MO_visit 45 = .ok (.goto 4, 3) := by decide +kernel
theorem d_MO_visit_48 : decode b_MO_visit 48 = .ok (.iconst 0, 1) := by decide +kernel
theorem d_MO_visit_49 : decode b_MO_visit 49 = .ok (.isub, 1) := by decide +kernel
theorem d_MO_visit_50 : decode b_MO_visit 50 = .ok (.putfield 105, 3) := by decide +kernel
theorem d_MO_visit_53 : decode b_MO_visit 53 = .ok (.goto (-38), 3) := by decide +kernel
theorem d_MO_visit_56 : decode b_MO_visit 56 = .ok (.iload_n 1, 1) := by decide +kernel
theorem d_MO_visit_57 : decode b_MO_visit 57 = .ok (.bipush 16, 2) := by decide +kernel
theorem d_MO_visit_59 : decode b_MO_visit 59 = .ok (.if_icmp .ne 5, 3) := by decide +kernel
theorem d_MO_visit_62 : decode b_MO_visit 62 = .ok (.iconst 0, 1) := by decide +kernel
theorem d_MO_visit_63 : decode b_MO_visit 63 = .ok (.ireturn, 1) := by decide +kernel
theorem d_MO_visit_64 : decode b_MO_visit 64 = .ok (.aload_n 0, 1) := by decide +kernel
theorem d_MO_visit_65 : decode b_MO_visit 65 = .ok (.dup, 1) := by decide +kernel
theorem d_MO_visit_66 : decode b_MO_visit 66 = .ok (.getfield 108, 3) := by decide +kernel
theorem d_MO_visit_69 : decode b_MO_visit 69 = .ok (.iconst 1, 1) := by decide +kernel
theorem d_MO_visit_70 : decode b_MO_visit 70 = .ok (.iadd, 1) := by decide +kernel
theorem d_MO_visit_71 : decode b_MO_visit 71 = .ok (.putfield 108, 3) := by decide +kernel
theorem d_MO_visit_74 : decode b_MO_visit 74 = .ok (.aload_n 0, 1) := by decide +kernel
theorem d_MO_visit_75 : decode b_MO_visit 75 = .ok (.getfield 43, 3) := by decide +kernel
theorem d_MO_visit_78 : decode b_MO_visit 78 = .ok (.aload_n 0, 1) := by decide +kernel
theorem d_MO_visit_79 : decode b_MO_visit 79 = .ok (.getfield 105, 3) := by decide +kernel
theorem d_MO_visit_82 : decode b_MO_visit 82 = .ok (.iload_n 1, 1) := by decide +kernel
theorem d_MO_visit_83 : decode b_MO_visit 83 = .ok (.iastore, 1) := by decide +kernel
theorem d_MO_visit_84 : decode b_MO_visit 84 = .ok (.aload_n 0, 1) := by decide +kernel
theorem d_MO_visit_85 : decode b_MO_visit 85 = .ok (.aload_n 0, 1) := by decide +kernel
theorem d_MO_visit_86 : decode b_MO_visit 86 = .ok (.getfield 105, 3) := by decide +kernel
theorem d_MO_visit_89 : decode b_MO_visit 89 = .ok (.iconst 1, 1) := by decide +kernel
theorem d_MO_visit_90 : decode b_MO_visit 90 = .ok (.iadd, 1) := by decide +kernel
theorem d_MO_visit_91 : decode b_MO_visit 91 = .ok (.invokevirtual 127, 3) := by decide +kernel
theorem d_MO_visit_94 : decode b_MO_visit 94 = .ok (.ifCond .eq 18, 3) := by decide +kernel
theorem d_MO_visit_97 : decode b_MO_visit 97 = .ok (.aload_n 0, 1) := by decide +kernel
theorem d_MO_visit_98 : decode b_MO_visit 98 = .ok (.dup, 1) := by decide +kernel
theorem d_MO_visit_99 : decode b_MO_visit 99 = .ok (.getfield 105, 3) := by decide +kernel
theorem d_MO_visit_102 : decode b_MO_visit 102 = .ok (.iconst 1, 1) := by decide +kernel
theorem d_MO_visit_103 : decode b_MO_visit 103 = .ok (.iadd, 1) := by decide +kernel
theorem d_MO_visit_104 : decode b_MO_visit 104 = .ok (.putfield 105, 3) := by decide +kernel
theorem d_MO_visit_107 : decode b_MO_visit 107 = .ok (.aload_n 0, 1) := by decide +kernel
theorem d_MO_visit_108 : decode b_MO_visit 108 = .ok (.invokevirtual 131, 3) := by decide +kernel
theorem d_MO_visit_111 : decode b_MO_visit 111 = .ok (.ireturn, 1) := by decide +kernel
theorem d_MO_visit_112 : decode b_MO_visit 112 = .ok (.aload_n 0, 1) := by decide +kernel
theorem d_MO_visit_113 : decode b_MO_visit 113 = .ok (.dup, 1) := by decide +kernel
theorem d_MO_visit_114 : decode b_MO_visit 114 = .ok (.getfield 111, 3) := by decide +kernel
theorem d_MO_visit_117 : decode b_MO_visit 117 = .ok (.iconst 1, 1) := by decide +kernel
theorem d_MO_visit_118 : decode b_MO_visit 118 = .ok (.iadd, 1) := by decide +kernel
theorem d_MO_visit_119 : decode b_MO_visit 119 = .ok (.putfield 111, 3) := by decide +kernel
theorem d_MO_visit_122 : decode b_MO_visit 122 = .ok (.aload_n 0, 1) := by decide +kernel
theorem d_MO_visit_123 : decode b_MO_visit 123 = .ok (.aload_n 0, 1) := by decide +kernel
theorem d_MO_visit_124 : decode b_MO_visit 124 = .ok (.getfield 105, 3) := by decide +kernel
theorem d_MO_visit_127 : decode b_MO_visit 127 = .ok (.invokevirtual 127, 3) := by decide +kernel
theorem d_MO_visit_130 : decode b_MO_visit 130 = .ok (.pop, 1) := by decide +kernel
theorem d_MO_visit_131 : decode b_MO_visit 131 = .ok (.iconst 1, 1) := by decide +kernel
theorem d_MO_visit_132 : decode b_MO_visit 132 = .ok (.ireturn, 1) := by decide +kernel
theorem d_MO_advance_0 : decode b_MO_advance 0 = .ok (.aload_n 0, 1) := by decide +kernel
theorem d_MO_advance_1 : decode b_MO_advance 1 = .ok (.getfield 46, 3) := by decide +kernel
theorem d_MO_advance_4 : decode b_MO_advance 4 = .ok (.ifCond .eq 14, 3) := by decide +kernel
theorem d_MO_advance_7 : decode b_MO_advance 7 = .ok (.aload_n 0, 1) := by decide +kernel
theorem d_MO_advance_8 : decode b_MO_advance 8 = .ok (.iload_n 1, 1) := by decide +kernel
theorem d_MO_advance_9 : decode b_MO_advance 9 = .ok (.iconst 1, 1) := by decide +kernel
theorem d_MO_advance_10 : decode b_MO_advance 10 = .ok (.bipush 20, 2) := by decide +kernel
theorem d_MO_advance_12 : decode b_MO_advance 12 = .ok (.invokevirtual 58, 3) := by decide +kernel
theorem d_MO_advance_15 : decode b_MO_advance 15 = .ok (.ifCond .ne 5, 3) := by decide +kernel
theorem d_MO_advance_18 : decode b_MO_advance 18 = .ok (.iconst (-1), 1) := by decide +kernel
theorem d_MO_advance_19 : decode b_MO_advance 19 = .ok (.ireturn, 1) := by decide +kernel
theorem d_MO_advance_20 : decode b_MO_advance 20 = .ok (.iconst 1, 1) := by decide +kernel
theorem d_MO_advance_21 : decode b_MO_advance 21 = .ok (.istore_n 2, 1) := by decide +kernel
theorem d_MO_advance_22 : decode b_MO_advance 22 = .ok (.iconst 0, 1) := by decide +kernel
theorem d_MO_advance_23 : decode b_MO_advance 23 = .ok (.istore_n 3, 1) := by decide +kernel
theorem d_MO_advance_24 : decode b_MO_advance 24 = .ok (.iload_n 3, 1) := by decide +kernel
theorem d_MO_advance_25 : decode b_MO_advance 25 = .ok (.iload_n 1, 1) := by decide +kernel
theorem d_MO_advance_26 : decode b_MO_advance 26 = .ok (.if_icmp .ge 19, 3) := by decide +kernel
theorem d_MO_advance_29 : decode b_MO_advance 29 = .ok (.iload_n 2, 1) := by decide +kernel
theorem d_MO_advance_30 : decode b_MO_advance 30 = .ok (.iconst 1, 1) := by decide +kernel
theorem d_MO_advance_31 : decode b_MO_advance 31 = .ok (.if_icmp .ne 14, 3) := by decide +kernel
theorem d_MO_advance_34 : decode b_MO_advance 34 = .ok (.aload_n 0, 1) := by decide +kernel
theorem d_MO_advance_35 : decode b_MO_advance 35 = .ok (.invokevirtual 140, 3) := by decide +kernel
theorem d_MO_advance_38 : decode b_MO_advance 38 = .ok (.istore_n 2, 1) := by decide +kernel
theorem d_MO_advance_39 : decode b_MO_advance 39 = .ok (.iinc 3 1, 3) := by decide +kernel
theorem d_MO_advance_42 : decode b_MO_advance 42 = .ok (.goto (-18), 3) := by decide +kernel
theorem d_MO_advance_45 : decode b_MO_advance 45 = .ok (.iload_n 2, 1) := by decide +kernel
theorem d_MO_advance_46 : decode b_MO_advance 46 = .ok (.ifCond .ne 8, 3) := by decide +kernel
theorem d_MO_advance_49 : decode b_MO_advance 49 = .ok (.aload_n 0, 1) := by decide +kernel
theorem d_MO_advance_50 : decode b_MO_advance 50 = .ok (.invokevirtual 143, 3) := by decide +kernel
theorem d_MO_advance_53 : decode b_MO_advance 53 = .ok (.pop, 1) := by decide +kernel
theorem d_MO_advance_54 : decode b_MO_advance 54 = .ok (.iload_n 2, 1) := by decide +kernel
theorem d_MO_advance_55 : decode b_MO_advance 55 = .ok (.ireturn, 1) := by decide +kernel
theorem d_MO_stop_0 : decode b_MO_stop 0 = .ok (.aload_n 0, 1) := by decide +kernel
theorem d_MO_stop_1 : decode b_MO_stop 1 = .ok (.getfield 46, 3) := by decide +kernel
theorem d_MO_stop_4 : decode b_MO_stop 4 = .ok (.ifCond .ne 5, 3) := by decide +kernel
theorem d_MO_stop_7 : decode b_MO_stop 7 = .ok (.iconst 0, 1) := by decide +kernel
theorem d_MO_stop_8 : decode b_MO_stop 8 = .ok (.ireturn, 1) := by decide +kernel
theorem d_MO_stop_9 : decode b_MO_stop 9 = .ok (.aload_n 0, 1) := by decide +kernel
theorem d_MO_stop_10 : decode b_MO_stop 10 = .ok (.iconst 0, 1) := by decide +kernel
theorem d_MO_stop_11 : decode b_MO_stop 11 = .ok (.putfield 46, 3) := by decide +kernel
theorem d_MO_stop_14 : decode b_MO_stop 14 = .ok (.aload_n 0, 1) := by decide +kernel
theorem d_MO_stop_15 : decode b_MO_stop 15 = .ok (.invokevirtual 120, 3) := by decide +kernel
theorem d_MO_stop_18 : decode b_MO_stop 18 = .ok (.iconst 1, 1) := by decide +kernel
theorem d_MO_stop_19 : decode b_MO_stop 19 = .ok (.ireturn, 1) := by decide +kernel
theorem d_MO_domain_0 : decode b_MO_domain 0 = .ok (.aload_n 0, 1) := by decide +kernel
theorem d_MO_domain_1 : decode b_MO_domain 1 = .ok (.iload_n 1, 1) := by decide +kernel
theorem d_MO_domain_2 : decode b_MO_domain 2 = .ok (.iconst 0, 1) := by decide +kernel
theorem d_MO_domain_3 : decode b_MO_domain 3 = .ok (.aload_n 0, 1) := by decide +kernel
theorem d_MO_domain_4 : decode b_MO_domain 4 = .ok (.getfield 54, 3) := by decide +kernel
theorem d_MO_domain_7 : decode b_MO_domain 7 = .ok (.iconst 1, 1) := by decide +kernel
theorem d_MO_domain_8 : decode b_MO_domain 8 = .ok (.isub, 1) := by decide +kernel
theorem d_MO_domain_9 : decode b_MO_domain 9 = .ok (.invokevirtual 58, 3) := by decide +kernel
theorem d_MO_domain_12 : decode b_MO_domain 12 = .ok (.ifCond .eq 12, 3) := by decide +kernel
theorem d_MO_domain_15 : decode b_MO_domain 15 = .ok (.aload_n 0, 1) := by decide +kernel
theorem d_MO_domain_16 : decode b_MO_domain 16 = .ok (.getfield 7, 3) := by decide +kernel
theorem d_MO_domain_19 : decode b_MO_domain 19 = .ok (.iload_n 1, 1) := by decide +kernel
theorem d_MO_domain_20 : decode b_MO_domain 20 = .ok (.iaload, 1) := by decide +kernel
theorem d_MO_domain_21 : decode b_MO_domain 21 = .ok (.goto 4, 3) := by decide +kernel
theorem d_MO_domain_24 : decode b_MO_domain 24 = .ok (.iconst (-1), 1) := by decide +kernel
theorem d_MO_domain_25 : decode b_MO_domain 25 = .ok (.ireturn, 1) := by decide +kernel
theorem d_MO_supports_0 : decode b_MO_supports 0 = .ok (.aload_n 0, 1) := by decide +kernel
theorem d_MO_supports_1 : decode b_MO_supports 1 = .ok (.iload_n 1, 1) := by decide +kernel
theorem d_MO_supports_2 : decode b_MO_supports 2 = .ok (.iconst 0, 1) := by decide +kernel
theorem d_MO_supports_3 : decode b_MO_supports 3 = .ok (.aload_n 0, 1) := by decide +kernel
theorem d_MO_supports_4 : decode b_MO_supports 4 = .ok (.getfield 62, 3) := by decide +kernel
theorem d_MO_supports_7 : decode b_MO_supports 7 = .ok (.iconst 1, 1) := by decide +kernel
theorem d_MO_supports_8 : decode b_MO_supports 8 = .ok (.isub, 1) := by decide +kernel
theorem d_MO_supports_9 : decode b_MO_supports 9 = .ok (.invokevirtual 58, 3) := by decide +kernel
theorem d_MO_supports_12 : decode b_MO_supports 12 = .ok (.ifCond .eq 29, 3) := by decide +kernel
theorem d_MO_supports_15 : decode b_MO_supports 15 = .ok (.aload_n 0, 1) := by decide +kernel
theorem d_MO_supports_16 : decode b_MO_supports 16 = .ok (.iload_n 2, 1) := by decide +kernel
theorem d_MO_supports_17 : decode b_MO_supports 17 = .ok (.iconst 0, 1) := by decide +kernel
theorem d_MO_supports_18 : decode b_MO_supports 18 = .ok (.aload_n 0, 1) := by decide +kernel
theorem d_MO_supports_19 : decode b_MO_supports 19 = .ok (.getfield 54, 3) := by decide +kernel
theorem d_MO_supports_22 : decode b_MO_supports 22 = .ok (.iconst 1, 1) := by decide +kernel
theorem d_MO_supports_23 : decode b_MO_supports 23 = .ok (.isub, 1) := by decide +kernel
theorem d_MO_supports_24 : decode b_MO_supports 24 = .ok (.invokevirtual 58, 3) := by decide +kernel
theorem d_MO_supports_27 : decode b_MO_supports 27 = .ok (.ifCond .eq 14, 3) := by decide +kernel
theorem d_MO_supports_30 : decode b_MO_supports 30 = .ok (.aload_n 0, 1) := by decide +kernel
theorem d_MO_supports_31 : decode b_MO_supports 31 = .ok (.iload_n 3, 1) := by decide +kernel
theorem d_MO_supports_32 : decode b_MO_supports 32 = .ok (.iconst 0, 1) := by decide +kernel
theorem d_MO_supports_33 : decode b_MO_supports 33 = .ok (.bipush 15, 2) := by decide +kernel
theorem d_MO_supports_35 : decode b_MO_supports 35 = .ok (.invokevirtual 58, 3) := by decide +kernel
theorem d_MO_supports_38 : decode b_MO_supports 38 = .ok (.ifCond .ne 5, 3) := by decide +kernel
theorem d_MO_supports_41 : decode b_MO_supports 41 = .ok (.iconst (-1), 1) := by decide +kernel
theorem d_MO_supports_42 : decode b_MO_supports 42 = .ok (.ireturn, 1) := by decide +kernel
theorem d_MO_supports_43 : decode b_MO_supports 43 = .ok (.iconst 0, 1) := by decide +kernel
theorem d_MO_supports_44 : decode b_MO_supports 44 = .ok (.istore 4, 2) := by decide +kernel
theorem d_MO_supports_46 : decode b_MO_supports 46 = .ok (.iload 4, 2) := by decide +kernel
theorem d_MO_supports_48 : decode b_MO_supports 48 = .ok (.iconst 3, 1) := by decide +kernel
theorem d_MO_supports_49 : decode b_MO_supports 49 = .ok (.if_icmp .ge 36, 3) := by decide +kernel
theorem d_MO_supports_52 : decode b_MO_supports 52 = .ok (.aload_n 0, 1) := by decide +kernel
theorem d_MO_supports_53 : decode b_MO_supports 53 = .ok (.getfield 16, 3) := by decide +kernel
theorem d_MO_supports_56 : decode b_MO_supports 56 = .ok (.iconst 3, 1) := by decide +kernel
theorem d_MO_supports_57 : decode b_MO_supports 57 = .ok (.iload_n 1, 1) := by decide +kernel
theorem d_MO_supports_58 : decode b_MO_supports 58 = .ok (.imul, 1) := by decide +kernel
theorem d_MO_supports_59 : decode b_MO_supports 59 = .ok (.iload 4, 2) := by decide +kernel
theorem d_MO_supports_61 : decode b_MO_supports 61 = .ok (.iadd, 1) := by decide +kernel
theorem d_MO_supports_62 : decode b_MO_supports 62 = .ok (.iaload, 1) := by decide +kernel
theorem d_MO_supports_63 : decode b_MO_supports 63 = .ok (.iload_n 2, 1) := by decide +kernel
theorem d_MO_supports_64 : decode b_MO_supports 64 = .ok (.if_icmp .ne 15, 3) := by decide +kernel
theorem d_MO_supports_67 : decode b_MO_supports 67 = .ok (.aload_n 0, 1) := by decide +kernel
theorem d_MO_supports_68 : decode b_MO_supports 68 = .ok (.iload_n 1, 1) := by decide +kernel
theorem d_MO_supports_69 : decode b_MO_supports 69 = .ok (.iload 4, 2) := by decide +kernel
theorem d_MO_supports_71 : decode b_MO_supports 71 = .ok (.iload_n 3, 1) := by decide +kernel
theorem d_MO_supports_72 : decode b_MO_supports 72 = .ok (.sipush 256, 3) := by decide +kernel
theorem d_MO_supports_75 : decode b_MO_supports 75 = .ok (.invokevirtual 84, 3) := by decide +kernel
theorem d_MO_supports_78 : decode b_MO_supports 78 = .ok (.ireturn, 1) := by decide +kernel
theorem d_MO_supports_79 : decode b_MO_supports 79 = .ok (.iinc 4 1, 3) := by decide +kernel
theorem d_MO_supports_82 : decode b_MO_supports 82 = .ok (.goto (-36), 3) := by decide +kernel
theorem d_MO_supports_85 : decode b_MO_supports 85 = .ok (.iconst (-1), 1) := by decide +kernel
theorem d_MO_supports_86 : decode b_MO_supports 86 = .ok (.ireturn, 1) := by decide +kernel
theorem d_MO_rules_0 : decode b_MO_rules 0 = .ok (.aload_n 0, 1) := by decide +kernel
theorem d_MO_rules_1 : decode b_MO_rules 1 = .ok (.getfield 62, 3) := by decide +kernel
theorem d_MO_rules_4 : decode b_MO_rules 4 = .ok (.ireturn, 1) := by decide +kernel
theorem d_MO_depth_0 : decode b_MO_depth 0 = .ok (.aload_n 0, 1) := by decide +kernel
theorem d_MO_depth_1 : decode b_MO_depth 1 = .ok (.getfield 46, 3) := by decide +kernel
theorem d_MO_depth_4 : decode b_MO_depth 4 = .ok (.ifCond .eq 21, 3) := by decide +kernel
theorem d_MO_depth_7 : decode b_MO_depth 7 = .ok (.aload_n 0, 1) := by decide +kernel
theorem d_MO_depth_8 : decode b_MO_depth 8 = .ok (.getfield 105, 3) := by decide +kernel
theorem d_MO_depth_11 : decode b_MO_depth 11 = .ok (.ifCond .ge 7, 3) := by decide +kernel
theorem d_MO_depth_14 : decode b_MO_depth 14 = .ok (.iconst 0, 1) := by decide +kernel
theorem d_MO_depth_15 : decode b_MO_depth 15 = .ok (.goto 11, 3) := by decide +kernel
theorem d_MO_depth_18 : decode b_MO_depth 18 = .ok (.aload_n 0, 1) := by decide +kernel
theorem d_MO_depth_19 : decode b_MO_depth 19 = .ok (.getfield 105, 3) := by decide +kernel
theorem d_MO_depth_22 : decode b_MO_depth 22 = .ok (.goto 4, 3) := by decide +kernel
theorem d_MO_depth_25 : decode b_MO_depth 25 = .ok (.iconst (-1), 1) := by decide +kernel
theorem d_MO_depth_26 : decode b_MO_depth 26 = .ok (.ireturn, 1) := by decide +kernel
theorem d_MO_visits_0 : decode b_MO_visits 0 = .ok (.aload_n 0, 1) := by decide +kernel
theorem d_MO_visits_1 : decode b_MO_visits 1 = .ok (.getfield 108, 3) := by decide +kernel
theorem d_MO_visits_4 : decode b_MO_visits 4 = .ok (.ireturn, 1) := by decide +kernel
theorem d_MO_fails_0 : decode b_MO_fails 0 = .ok (.aload_n 0, 1) := by decide +kernel
theorem d_MO_fails_1 : decode b_MO_fails 1 = .ok (.getfield 111, 3) := by decide +kernel
theorem d_MO_fails_4 : decode b_MO_fails 4 = .ok (.ireturn, 1) := by decide +kernel
theorem d_MO_found_0 : decode b_MO_found 0 = .ok (.aload_n 0, 1) := by decide +kernel
theorem d_MO_found_1 : decode b_MO_found 1 = .ok (.getfield 114, 3) := by decide +kernel
theorem d_MO_found_4 : decode b_MO_found 4 = .ok (.ireturn, 1) := by decide +kernel
