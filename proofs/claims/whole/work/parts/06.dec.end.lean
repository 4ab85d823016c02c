/-! DECODE ROWS, by program -/
theorem nd_TK_init_0 : decode prog_1_method_1_code 0 = .ok (.aload_n 0, 1) := by decide +kernel
theorem nd_TK_init_1 : decode prog_1_method_1_code 1 = .ok (.invokespecial 1, 3) := by decide +kernel
theorem nd_TK_init_4 : decode prog_1_method_1_code 4 = .ok (.aload_n 0, 1) := by decide +kernel
theorem nd_TK_init_5 : decode prog_1_method_1_code 5 = .ok (.new 7, 3) := by decide +kernel
theorem nd_TK_init_8 : decode prog_1_method_1_code 8 = .ok (.dup, 1) := by decide +kernel
theorem nd_TK_init_9 : decode prog_1_method_1_code 9 = .ok (.invokespecial 9, 3) := by decide +kernel
theorem nd_TK_init_12 : decode prog_1_method_1_code 12 = .ok (.putfield 10, 3) := by decide +kernel
theorem nd_TK_init_15 : decode prog_1_method_1_code 15 = .ok (.aload_n 0, 1) := by decide +kernel
theorem nd_TK_init_16 : decode prog_1_method_1_code 16 = .ok (.getfield 10, 3) := by decide +kernel
theorem nd_TK_init_19 : decode prog_1_method_1_code 19 = .ok (.invokevirtual 16, 3) := by decide +kernel
theorem nd_TK_init_22 : decode prog_1_method_1_code 22 = .ok (.astore_n 1, 1) := by decide +kernel
theorem nd_TK_init_23 : decode prog_1_method_1_code 23 = .ok (.aload_n 0, 1) := by decide +kernel
theorem nd_TK_init_24 : decode prog_1_method_1_code 24 = .ok (.getfield 10, 3) := by decide +kernel
theorem nd_TK_init_27 : decode prog_1_method_1_code 27 = .ok (.invokevirtual 16, 3) := by decide +kernel
theorem nd_TK_init_30 : decode prog_1_method_1_code 30 = .ok (.astore_n 2, 1) := by decide +kernel
theorem nd_TK_init_31 : decode prog_1_method_1_code 31 = .ok (.aload_n 0, 1) := by decide +kernel
theorem nd_TK_init_32 : decode prog_1_method_1_code 32 = .ok (.getfield 10, 3) := by decide +kernel
theorem nd_TK_init_35 : decode prog_1_method_1_code 35 = .ok (.invokevirtual 16, 3) := by decide +kernel
theorem nd_TK_init_38 : decode prog_1_method_1_code 38 = .ok (.astore_n 3, 1) := by decide +kernel
theorem nd_TK_init_39 : decode prog_1_method_1_code 39 = .ok (.aload_n 0, 1) := by decide +kernel
theorem nd_TK_init_40 : decode prog_1_method_1_code 40 = .ok (.getfield 10, 3) := by decide +kernel
theorem nd_TK_init_43 : decode prog_1_method_1_code 43 = .ok (.aload_n 0, 1) := by decide +kernel
theorem nd_TK_init_44 : decode prog_1_method_1_code 44 = .ok (.getfield 10, 3) := by decide +kernel
theorem nd_TK_init_47 : decode prog_1_method_1_code 47 = .ok (.invokevirtual 16, 3) := by decide +kernel
theorem nd_TK_init_50 : decode prog_1_method_1_code 50 = .ok (.invokevirtual 20, 3) := by decide +kernel
theorem nd_TK_init_53 : decode prog_1_method_1_code 53 = .ok (.astore 4, 2) := by decide +kernel
theorem nd_TK_init_55 : decode prog_1_method_1_code 55 = .ok (.aload_n 0, 1) := by decide +kernel
theorem nd_TK_init_56 : decode prog_1_method_1_code 56 = .ok (.getfield 10, 3) := by decide +kernel
theorem nd_TK_init_59 : decode prog_1_method_1_code 59 = .ok (.aload_n 2, 1) := by decide +kernel
theorem nd_TK_init_60 : decode prog_1_method_1_code 60 = .ok (.invokevirtual 20, 3) := by decide +kernel
theorem nd_TK_init_63 : decode prog_1_method_1_code 63 = .ok (.astore 5, 2) := by decide +kernel
theorem nd_TK_init_65 : decode prog_1_method_1_code 65 = .ok (.aload_n 0, 1) := by decide +kernel
theorem nd_TK_init_66 : decode prog_1_method_1_code 66 = .ok (.getfield 10, 3) := by decide +kernel
theorem nd_TK_init_69 : decode prog_1_method_1_code 69 = .ok (.aload_n 3, 1) := by decide +kernel
theorem nd_TK_init_70 : decode prog_1_method_1_code 70 = .ok (.aload 5, 2) := by decide +kernel
theorem nd_TK_init_72 : decode prog_1_method_1_code 72 = .ok (.invokevirtual 24, 3) := by decide +kernel
theorem nd_TK_init_75 : decode prog_1_method_1_code 75 = .ok (.astore 6, 2) := by decide +kernel
theorem nd_TK_init_77 : decode prog_1_method_1_code 77 = .ok (.new 28, 3) := by decide +kernel
theorem nd_TK_init_80 : decode prog_1_method_1_code 80 = .ok (.dup, 1) := by decide +kernel
theorem nd_TK_init_81 : decode prog_1_method_1_code 81 = .ok (.aload 4, 2) := by decide +kernel
theorem nd_TK_init_83 : decode prog_1_method_1_code 83 = .ok (.aload_n 0, 1) := by decide +kernel
theorem nd_TK_init_84 : decode prog_1_method_1_code 84 = .ok (.getfield 10, 3) := by decide +kernel
theorem nd_TK_init_87 : decode prog_1_method_1_code 87 = .ok (.iconst 4, 1) := by decide +kernel
theorem nd_TK_init_88 : decode prog_1_method_1_code 88 = .ok (.aload_n 1, 1) := by decide +kernel
theorem nd_TK_init_89 : decode prog_1_method_1_code 89 = .ok (.aload 6, 2) := by decide +kernel
theorem nd_TK_init_91 : decode prog_1_method_1_code 91 = .ok (.invokevirtual 30, 3) := by decide +kernel
theorem nd_TK_init_94 : decode prog_1_method_1_code 94 = .ok (.aload_n 3, 1) := by decide +kernel
theorem nd_TK_init_95 : decode prog_1_method_1_code 95 = .ok (.invokespecial 34, 3) := by decide +kernel
theorem nd_TK_init_98 : decode prog_1_method_1_code 98 = .ok (.astore 7, 2) := by decide +kernel
theorem nd_TK_init_100 : decode prog_1_method_1_code 100 = .ok (.aload 7, 2) := by decide +kernel
theorem nd_TK_init_102 : decode prog_1_method_1_code 102 = .ok (.aload 5, 2) := by decide +kernel
theorem nd_TK_init_104 : decode prog_1_method_1_code 104 = .ok (.putfield 37, 3) := by decide +kernel
theorem nd_TK_init_107 : decode prog_1_method_1_code 107 = .ok (.aload 7, 2) := by decide +kernel
theorem nd_TK_init_109 : decode prog_1_method_1_code 109 = .ok (.aload_n 0, 1) := by decide +kernel
theorem nd_TK_init_110 : decode prog_1_method_1_code 110 = .ok (.getfield 10, 3) := by decide +kernel
theorem nd_TK_init_113 : decode prog_1_method_1_code 113 = .ok (.iconst 5, 1) := by decide +kernel
theorem nd_TK_init_114 : decode prog_1_method_1_code 114 = .ok (.aload_n 1, 1) := by decide +kernel
theorem nd_TK_init_115 : decode prog_1_method_1_code 115 = .ok (.aload 6, 2) := by decide +kernel
theorem nd_TK_init_117 : decode prog_1_method_1_code 117 = .ok (.invokevirtual 30, 3) := by decide +kernel
theorem nd_TK_init_120 : decode prog_1_method_1_code 120 = .ok (.putfield 41, 3) := by decide +kernel
theorem nd_TK_init_123 : decode prog_1_method_1_code 123 = .ok (.new 28, 3) := by decide +kernel
theorem nd_TK_init_126 : decode prog_1_method_1_code 126 = .ok (.dup, 1) := by decide +kernel
theorem nd_TK_init_127 : decode prog_1_method_1_code 127 = .ok (.aload 4, 2) := by decide +kernel
theorem nd_TK_init_129 : decode prog_1_method_1_code 129 = .ok (.aload_n 1, 1) := by decide +kernel
theorem nd_TK_init_130 : decode prog_1_method_1_code 130 = .ok (.aload_n 2, 1) := by decide +kernel
theorem nd_TK_init_131 : decode prog_1_method_1_code 131 = .ok (.invokespecial 34, 3) := by decide +kernel
theorem nd_TK_init_134 : decode prog_1_method_1_code 134 = .ok (.astore 8, 2) := by decide +kernel
theorem nd_TK_init_136 : decode prog_1_method_1_code 136 = .ok (.aload_n 0, 1) := by decide +kernel
theorem nd_TK_init_137 : decode prog_1_method_1_code 137 = .ok (.iconst 2, 1) := by decide +kernel
theorem nd_TK_init_138 : decode prog_1_method_1_code 138 = .ok (.anewarray 28, 3) := by decide +kernel
theorem nd_TK_init_141 : decode prog_1_method_1_code 141 = .ok (.dup, 1) := by decide +kernel
theorem nd_TK_init_142 : decode prog_1_method_1_code 142 = .ok (.iconst 0, 1) := by decide +kernel
theorem nd_TK_init_143 : decode prog_1_method_1_code 143 = .ok (.aload 7, 2) := by decide +kernel
theorem nd_TK_init_145 : decode prog_1_method_1_code 145 = .ok (.aastore, 1) := by decide +kernel
theorem nd_TK_init_146 : decode prog_1_method_1_code 146 = .ok (.dup, 1) := by decide +kernel
theorem nd_TK_init_147 : decode prog_1_method_1_code 147 = .ok (.iconst 1, 1) := by decide +kernel
theorem nd_TK_init_148 : decode prog_1_method_1_code 148 = .ok (.aload 8, 2) := by decide +kernel
theorem nd_TK_init_150 : decode prog_1_method_1_code 150 = .ok (.aastore, 1) := by decide +kernel
theorem nd_TK_init_151 : decode prog_1_method_1_code 151 = .ok (.putfield 44, 3) := by decide +kernel
theorem nd_TK_init_154 : decode prog_1_method_1_code 154 = .ok (.aload_n 0, 1) := by decide +kernel
theorem nd_TK_init_155 : decode prog_1_method_1_code 155 = .ok (.iconst 2, 1) := by decide +kernel
theorem nd_TK_init_156 : decode prog_1_method_1_code 156 = .ok (.anewarray 28, 3) := by decide +kernel
theorem nd_TK_init_159 : decode prog_1_method_1_code 159 = .ok (.dup, 1) := by decide +kernel
theorem nd_TK_init_160 : decode prog_1_method_1_code 160 = .ok (.iconst 0, 1) := by decide +kernel
theorem nd_TK_init_161 : decode prog_1_method_1_code 161 = .ok (.aload 7, 2) := by decide +kernel
theorem nd_TK_init_163 : decode prog_1_method_1_code 163 = .ok (.invokevirtual 48, 3) := by decide +kernel
theorem nd_TK_init_166 : decode prog_1_method_1_code 166 = .ok (.aastore, 1) := by decide +kernel
theorem nd_TK_init_167 : decode prog_1_method_1_code 167 = .ok (.dup, 1) := by decide +kernel
theorem nd_TK_init_168 : decode prog_1_method_1_code 168 = .ok (.iconst 1, 1) := by decide +kernel
theorem nd_TK_init_169 : decode prog_1_method_1_code 169 = .ok (.aload 8, 2) := by decide +kernel
theorem nd_TK_init_171 : decode prog_1_method_1_code 171 = .ok (.invokevirtual 48, 3) := by decide +kernel
theorem nd_TK_init_174 : decode prog_1_method_1_code 174 = .ok (.aastore, 1) := by decide +kernel
theorem nd_TK_init_175 : decode prog_1_method_1_code 175 = .ok (.putfield 52, 3) := by decide +kernel
theorem nd_TK_init_178 : decode prog_1_method_1_code 178 = .ok (.aload_n 0, 1) := by decide +kernel
theorem nd_TK_init_179 : decode prog_1_method_1_code 179 = .ok (.aload 8, 2) := by decide +kernel
theorem nd_TK_init_181 : decode prog_1_method_1_code 181 = .ok (.invokevirtual 48, 3) := by decide +kernel
theorem nd_TK_init_184 : decode prog_1_method_1_code 184 = .ok (.putfield 55, 3) := by decide +kernel
theorem nd_TK_init_187 : decode prog_1_method_1_code 187 = .ok (.aload_n 0, 1) := by decide +kernel
theorem nd_TK_init_188 : decode prog_1_method_1_code 188 = .ok (.new 59, 3) := by decide +kernel
theorem nd_TK_init_191 : decode prog_1_method_1_code 191 = .ok (.dup, 1) := by decide +kernel
theorem nd_TK_init_192 : decode prog_1_method_1_code 192 = .ok (.invokespecial 61, 3) := by decide +kernel
theorem nd_TK_init_195 : decode prog_1_method_1_code 195 = .ok (.putfield 62, 3) := by decide +kernel
theorem nd_TK_init_198 : decode prog_1_method_1_code 198 = .ok (.return_, 1) := by decide +kernel
theorem nd_EN_init_0 : decode prog_2_method_1_code 0 = .ok (.aload_n 0, 1) := by decide +kernel
theorem nd_EN_init_1 : decode prog_2_method_1_code 1 = .ok (.invokespecial 3, 3) := by decide +kernel
theorem nd_EN_init_4 : decode prog_2_method_1_code 4 = .ok (.aload_n 0, 1) := by decide +kernel
theorem nd_EN_init_5 : decode prog_2_method_1_code 5 = .ok (.bipush 8, 2) := by decide +kernel
theorem nd_EN_init_7 : decode prog_2_method_1_code 7 = .ok (.anewarray 9, 3) := by decide +kernel
theorem nd_EN_init_10 : decode prog_2_method_1_code 10 = .ok (.putfield 11, 3) := by decide +kernel
theorem nd_EN_init_13 : decode prog_2_method_1_code 13 = .ok (.aload_n 0, 1) := by decide +kernel
theorem nd_EN_init_14 : decode prog_2_method_1_code 14 = .ok (.aload_n 1, 1) := by decide +kernel
theorem nd_EN_init_15 : decode prog_2_method_1_code 15 = .ok (.putfield 17, 3) := by decide +kernel
theorem nd_EN_init_18 : decode prog_2_method_1_code 18 = .ok (.aload_n 0, 1) := by decide +kernel
theorem nd_EN_init_19 : decode prog_2_method_1_code 19 = .ok (.aload_n 2, 1) := by decide +kernel
theorem nd_EN_init_20 : decode prog_2_method_1_code 20 = .ok (.putfield 21, 3) := by decide +kernel
theorem nd_EN_init_23 : decode prog_2_method_1_code 23 = .ok (.aload_n 0, 1) := by decide +kernel
theorem nd_EN_init_24 : decode prog_2_method_1_code 24 = .ok (.aload_n 3, 1) := by decide +kernel
theorem nd_EN_init_25 : decode prog_2_method_1_code 25 = .ok (.putfield 24, 3) := by decide +kernel
theorem nd_EN_init_28 : decode prog_2_method_1_code 28 = .ok (.return_, 1) := by decide +kernel
theorem nd_EN_copied_0 : decode prog_2_method_2_code 0 = .ok (.new 12, 3) := by decide +kernel
theorem nd_EN_copied_3 : decode prog_2_method_2_code 3 = .ok (.dup, 1) := by decide +kernel
theorem nd_EN_copied_4 : decode prog_2_method_2_code 4 = .ok (.aload_n 0, 1) := by decide +kernel
theorem nd_EN_copied_5 : decode prog_2_method_2_code 5 = .ok (.getfield 17, 3) := by decide +kernel
theorem nd_EN_copied_8 : decode prog_2_method_2_code 8 = .ok (.aload_n 0, 1) := by decide +kernel
theorem nd_EN_copied_9 : decode prog_2_method_2_code 9 = .ok (.getfield 21, 3) := by decide +kernel
theorem nd_EN_copied_12 : decode prog_2_method_2_code 12 = .ok (.aload_n 0, 1) := by decide +kernel
theorem nd_EN_copied_13 : decode prog_2_method_2_code 13 = .ok (.getfield 24, 3) := by decide +kernel
theorem nd_EN_copied_16 : decode prog_2_method_2_code 16 = .ok (.invokespecial 27, 3) := by decide +kernel
theorem nd_EN_copied_19 : decode prog_2_method_2_code 19 = .ok (.astore_n 1, 1) := by decide +kernel
theorem nd_EN_copied_20 : decode prog_2_method_2_code 20 = .ok (.aload_n 1, 1) := by decide +kernel
theorem nd_EN_copied_21 : decode prog_2_method_2_code 21 = .ok (.aload_n 0, 1) := by decide +kernel
theorem nd_EN_copied_22 : decode prog_2_method_2_code 22 = .ok (.invokevirtual 30, 3) := by decide +kernel
theorem nd_EN_copied_25 : decode prog_2_method_2_code 25 = .ok (.aload_n 1, 1) := by decide +kernel
theorem nd_EN_copied_26 : decode prog_2_method_2_code 26 = .ok (.areturn, 1) := by decide +kernel
theorem nd_EN_become_0 : decode prog_2_method_3_code 0 = .ok (.aload_n 0, 1) := by decide +kernel
theorem nd_EN_become_1 : decode prog_2_method_3_code 1 = .ok (.aload_n 1, 1) := by decide +kernel
theorem nd_EN_become_2 : decode prog_2_method_3_code 2 = .ok (.getfield 17, 3) := by decide +kernel
theorem nd_EN_become_5 : decode prog_2_method_3_code 5 = .ok (.putfield 17, 3) := by decide +kernel
theorem nd_EN_become_8 : decode prog_2_method_3_code 8 = .ok (.aload_n 0, 1) := by decide +kernel
theorem nd_EN_become_9 : decode prog_2_method_3_code 9 = .ok (.aload_n 1, 1) := by decide +kernel
theorem nd_EN_become_10 : decode prog_2_method_3_code 10 = .ok (.getfield 21, 3) := by decide +kernel
theorem nd_EN_become_13 : decode prog_2_method_3_code 13 = .ok (.putfield 21, 3) := by decide +kernel
theorem nd_EN_become_16 : decode prog_2_method_3_code 16 = .ok (.aload_n 0, 1) := by decide +kernel
theorem nd_EN_become_17 : decode prog_2_method_3_code 17 = .ok (.aload_n 1, 1) := by decide +kernel
theorem nd_EN_become_18 : decode prog_2_method_3_code 18 = .ok (.getfield 24, 3) := by decide +kernel
theorem nd_EN_become_21 : decode prog_2_method_3_code 21 = .ok (.putfield 24, 3) := by decide +kernel
theorem nd_EN_become_24 : decode prog_2_method_3_code 24 = .ok (.aload_n 0, 1) := by decide +kernel
theorem nd_EN_become_25 : decode prog_2_method_3_code 25 = .ok (.aload_n 1, 1) := by decide +kernel
theorem nd_EN_become_26 : decode prog_2_method_3_code 26 = .ok (.getfield 34, 3) := by decide +kernel
theorem nd_EN_become_29 : decode prog_2_method_3_code 29 = .ok (.putfield 34, 3) := by decide +kernel
theorem nd_EN_become_32 : decode prog_2_method_3_code 32 = .ok (.aload_n 0, 1) := by decide +kernel
theorem nd_EN_become_33 : decode prog_2_method_3_code 33 = .ok (.aload_n 1, 1) := by decide +kernel
theorem nd_EN_become_34 : decode prog_2_method_3_code 34 = .ok (.getfield 37, 3) := by decide +kernel
theorem nd_EN_become_37 : decode prog_2_method_3_code 37 = .ok (.putfield 37, 3) := by decide +kernel
theorem nd_EN_become_40 : decode prog_2_method_3_code 40 = .ok (.aload_n 0, 1) := by decide +kernel
theorem nd_EN_become_41 : decode prog_2_method_3_code 41 = .ok (.aload_n 1, 1) := by decide +kernel
theorem nd_EN_become_42 : decode prog_2_method_3_code 42 = .ok (.getfield 40, 3) := by decide +kernel
theorem nd_EN_become_45 : decode prog_2_method_3_code 45 = .ok (.putfield 40, 3) := by decide +kernel
theorem nd_EN_become_48 : decode prog_2_method_3_code 48 = .ok (.aload_n 0, 1) := by decide +kernel
theorem nd_EN_become_49 : decode prog_2_method_3_code 49 = .ok (.aload_n 1, 1) := by decide +kernel
theorem nd_EN_become_50 : decode prog_2_method_3_code 50 = .ok (.getfield 44, 3) := by decide +kernel
theorem nd_EN_become_53 : decode prog_2_method_3_code 53 = .ok (.putfield 44, 3) := by decide +kernel
theorem nd_EN_become_56 : decode prog_2_method_3_code 56 = .ok (.aload_n 0, 1) := by decide +kernel
theorem nd_EN_become_57 : decode prog_2_method_3_code 57 = .ok (.aload_n 1, 1) := by decide +kernel
theorem nd_EN_become_58 : decode prog_2_method_3_code 58 = .ok (.getfield 47, 3) := by decide +kernel
theorem nd_EN_become_61 : decode prog_2_method_3_code 61 = .ok (.putfield 47, 3) := by decide +kernel
theorem nd_EN_become_64 : decode prog_2_method_3_code 64 = .ok (.aload_n 0, 1) := by decide +kernel
theorem nd_EN_become_65 : decode prog_2_method_3_code 65 = .ok (.aload_n 1, 1) := by decide +kernel
theorem nd_EN_become_66 : decode prog_2_method_3_code 66 = .ok (.getfield 50, 3) := by decide +kernel
theorem nd_EN_become_69 : decode prog_2_method_3_code 69 = .ok (.putfield 50, 3) := by decide +kernel
theorem nd_EN_become_72 : decode prog_2_method_3_code 72 = .ok (.iconst 0, 1) := by decide +kernel
theorem nd_EN_become_73 : decode prog_2_method_3_code 73 = .ok (.istore_n 2, 1) := by decide +kernel
theorem nd_EN_become_74 : decode prog_2_method_3_code 74 = .ok (.iload_n 2, 1) := by decide +kernel
theorem nd_EN_become_75 : decode prog_2_method_3_code 75 = .ok (.bipush 8, 2) := by decide +kernel
theorem nd_EN_become_77 : decode prog_2_method_3_code 77 = .ok (.if_icmp .ge 21, 3) := by decide +kernel
theorem nd_EN_become_80 : decode prog_2_method_3_code 80 = .ok (.aload_n 0, 1) := by decide +kernel
theorem nd_EN_become_81 : decode prog_2_method_3_code 81 = .ok (.getfield 11, 3) := by decide +kernel
theorem nd_EN_become_84 : decode prog_2_method_3_code 84 = .ok (.iload_n 2, 1) := by decide +kernel
theorem nd_EN_become_85 : decode prog_2_method_3_code 85 = .ok (.aload_n 1, 1) := by decide +kernel
theorem nd_EN_become_86 : decode prog_2_method_3_code 86 = .ok (.getfield 11, 3) := by decide +kernel
theorem nd_EN_become_89 : decode prog_2_method_3_code 89 = .ok (.iload_n 2, 1) := by decide +kernel
theorem nd_EN_become_90 : decode prog_2_method_3_code 90 = .ok (.aaload, 1) := by decide +kernel
theorem nd_EN_become_91 : decode prog_2_method_3_code 91 = .ok (.aastore, 1) := by decide +kernel
theorem nd_EN_become_92 : decode prog_2_method_3_code 92 = .ok (.iinc 2 1, 3) := by decide +kernel
theorem nd_EN_become_95 : decode prog_2_method_3_code 95 = .ok (.goto (-21), 3) := by decide +kernel
theorem nd_EN_become_98 : decode prog_2_method_3_code 98 = .ok (.aload_n 0, 1) := by decide +kernel
theorem nd_EN_become_99 : decode prog_2_method_3_code 99 = .ok (.aload_n 1, 1) := by decide +kernel
theorem nd_EN_become_100 : decode prog_2_method_3_code 100 = .ok (.getfield 53, 3) := by decide +kernel
theorem nd_EN_become_103 : decode prog_2_method_3_code 103 = .ok (.putfield 53, 3) := by decide +kernel
theorem nd_EN_become_106 : decode prog_2_method_3_code 106 = .ok (.return_, 1) := by decide +kernel
theorem nd_TK_send_0 : decode prog_1_method_2_code 0 = .ok (.aload_n 0, 1) := by decide +kernel
theorem nd_TK_send_1 : decode prog_1_method_2_code 1 = .ok (.getfield 44, 3) := by decide +kernel
theorem nd_TK_send_4 : decode prog_1_method_2_code 4 = .ok (.iload_n 1, 1) := by decide +kernel
theorem nd_TK_send_5 : decode prog_1_method_2_code 5 = .ok (.invokestatic 66, 3) := by decide +kernel
theorem nd_TK_send_8 : decode prog_1_method_2_code 8 = .ok (.astore_n 2, 1) := by decide +kernel
theorem nd_TK_send_9 : decode prog_1_method_2_code 9 = .ok (.aload_n 2, 1) := by decide +kernel
theorem nd_TK_send_10 : decode prog_1_method_2_code 10 = .ok (.ifnonnull 5, 3) := by decide +kernel
theorem nd_TK_send_13 : decode prog_1_method_2_code 13 = .ok (.iconst (-1), 1) := by decide +kernel
theorem nd_TK_send_14 : decode prog_1_method_2_code 14 = .ok (.ireturn, 1) := by decide +kernel
theorem nd_TK_send_15 : decode prog_1_method_2_code 15 = .ok (.aload_n 2, 1) := by decide +kernel
theorem nd_TK_send_16 : decode prog_1_method_2_code 16 = .ok (.getfield 37, 3) := by decide +kernel
theorem nd_TK_send_19 : decode prog_1_method_2_code 19 = .ok (.ifnonnull 6, 3) := by decide +kernel
theorem nd_TK_send_22 : decode prog_1_method_2_code 22 = .ok (.bipush (-5), 2) := by decide +kernel
theorem nd_TK_send_24 : decode prog_1_method_2_code 24 = .ok (.ireturn, 1) := by decide +kernel
theorem nd_TK_send_25 : decode prog_1_method_2_code 25 = .ok (.aload_n 0, 1) := by decide +kernel
theorem nd_TK_send_26 : decode prog_1_method_2_code 26 = .ok (.invokevirtual 70, 3) := by decide +kernel
theorem nd_TK_send_29 : decode prog_1_method_2_code 29 = .ok (.ifCond .ne 5, 3) := by decide +kernel
theorem nd_TK_send_32 : decode prog_1_method_2_code 32 = .ok (.iconst (-1), 1) := by decide +kernel
theorem nd_TK_send_33 : decode prog_1_method_2_code 33 = .ok (.ireturn, 1) := by decide +kernel
theorem nd_TK_send_34 : decode prog_1_method_2_code 34 = .ok (.aload_n 2, 1) := by decide +kernel
theorem nd_TK_send_35 : decode prog_1_method_2_code 35 = .ok (.getfield 41, 3) := by decide +kernel
theorem nd_TK_send_38 : decode prog_1_method_2_code 38 = .ok (.ifnonnull 11, 3) := by decide +kernel
theorem nd_TK_send_41 : decode prog_1_method_2_code 41 = .ok (.aload_n 2, 1) := by decide +kernel
theorem nd_TK_send_42 : decode prog_1_method_2_code 42 = .ok (.aload_n 0, 1) := by decide +kernel
theorem nd_TK_send_43 : decode prog_1_method_2_code 43 = .ok (.getfield 10, 3) := by decide +kernel
theorem nd_TK_send_46 : decode prog_1_method_2_code 46 = .ok (.invokevirtual 74, 3) := by decide +kernel
theorem nd_TK_send_49 : decode prog_1_method_2_code 49 = .ok (.aload_n 2, 1) := by decide +kernel
theorem nd_TK_send_50 : decode prog_1_method_2_code 50 = .ok (.iload_n 1, 1) := by decide +kernel
theorem nd_TK_send_51 : decode prog_1_method_2_code 51 = .ok (.aload_n 0, 1) := by decide +kernel
theorem nd_TK_send_52 : decode prog_1_method_2_code 52 = .ok (.getfield 10, 3) := by decide +kernel
theorem nd_TK_send_55 : decode prog_1_method_2_code 55 = .ok (.invokevirtual 16, 3) := by decide +kernel
theorem nd_TK_send_58 : decode prog_1_method_2_code 58 = .ok (.aload_n 0, 1) := by decide +kernel
theorem nd_TK_send_59 : decode prog_1_method_2_code 59 = .ok (.getfield 10, 3) := by decide +kernel
theorem nd_TK_send_62 : decode prog_1_method_2_code 62 = .ok (.invokevirtual 78, 3) := by decide +kernel
theorem nd_TK_send_65 : decode prog_1_method_2_code 65 = .ok (.astore_n 3, 1) := by decide +kernel
theorem nd_TK_send_66 : decode prog_1_method_2_code 66 = .ok (.aload_n 0, 1) := by decide +kernel
theorem nd_TK_send_67 : decode prog_1_method_2_code 67 = .ok (.getfield 62, 3) := by decide +kernel
theorem nd_TK_send_70 : decode prog_1_method_2_code 70 = .ok (.aload_n 3, 1) := by decide +kernel
theorem nd_TK_send_71 : decode prog_1_method_2_code 71 = .ok (.invokevirtual 82, 3) := by decide +kernel
theorem nd_TK_send_74 : decode prog_1_method_2_code 74 = .ok (.pop, 1) := by decide +kernel
theorem nd_TK_send_75 : decode prog_1_method_2_code 75 = .ok (.aload_n 0, 1) := by decide +kernel
theorem nd_TK_send_76 : decode prog_1_method_2_code 76 = .ok (.aload_n 3, 1) := by decide +kernel
theorem nd_TK_send_77 : decode prog_1_method_2_code 77 = .ok (.aload_n 2, 1) := by decide +kernel
theorem nd_TK_send_78 : decode prog_1_method_2_code 78 = .ok (.getfield 86, 3) := by decide +kernel
theorem nd_TK_send_81 : decode prog_1_method_2_code 81 = .ok (.invokevirtual 89, 3) := by decide +kernel
theorem nd_TK_send_84 : decode prog_1_method_2_code 84 = .ok (.aload_n 0, 1) := by decide +kernel
theorem nd_TK_send_85 : decode prog_1_method_2_code 85 = .ok (.getfield 62, 3) := by decide +kernel
theorem nd_TK_send_88 : decode prog_1_method_2_code 88 = .ok (.invokevirtual 93, 3) := by decide +kernel
theorem nd_TK_send_91 : decode prog_1_method_2_code 91 = .ok (.iconst 1, 1) := by decide +kernel
theorem nd_TK_send_92 : decode prog_1_method_2_code 92 = .ok (.isub, 1) := by decide +kernel
theorem nd_TK_send_93 : decode prog_1_method_2_code 93 = .ok (.ireturn, 1) := by decide +kernel
theorem nd_TK_endAt_0 : decode prog_1_method_13_code 0 = .ok (.iload_n 1, 1) := by decide +kernel
theorem nd_TK_endAt_1 : decode prog_1_method_13_code 1 = .ok (.ifCond .lt 15, 3) := by decide +kernel
theorem nd_TK_endAt_4 : decode prog_1_method_13_code 4 = .ok (.iload_n 1, 1) := by decide +kernel
theorem nd_TK_endAt_5 : decode prog_1_method_13_code 5 = .ok (.aload_n 0, 1) := by decide +kernel
theorem nd_TK_endAt_6 : decode prog_1_method_13_code 6 = .ok (.arraylength, 1) := by decide +kernel
theorem nd_TK_endAt_7 : decode prog_1_method_13_code 7 = .ok (.if_icmp .ge 9, 3) := by decide +kernel
theorem nd_TK_endAt_10 : decode prog_1_method_13_code 10 = .ok (.aload_n 0, 1) := by decide +kernel
theorem nd_TK_endAt_11 : decode prog_1_method_13_code 11 = .ok (.iload_n 1, 1) := by decide +kernel
theorem nd_TK_endAt_12 : decode prog_1_method_13_code 12 = .ok (.aaload, 1) := by decide +kernel
theorem nd_TK_endAt_13 : decode prog_1_method_13_code 13 = .ok (.goto 4, 3) := by decide +kernel
theorem nd_TK_endAt_16 : decode prog_1_method_13_code 16 = .ok (.aconst_null, 1) := by decide +kernel
theorem nd_TK_endAt_17 : decode prog_1_method_13_code 17 = .ok (.areturn, 1) := by decide +kernel
theorem nd_TK_mayMakeMore_0 : decode prog_1_method_16_code 0 = .ok (.aload_n 0, 1) := by decide +kernel
theorem nd_TK_mayMakeMore_1 : decode prog_1_method_16_code 1 = .ok (.getfield 175, 3) := by decide +kernel
theorem nd_TK_mayMakeMore_4 : decode prog_1_method_16_code 4 = .ok (.sipush 512, 3) := by decide +kernel
theorem nd_TK_mayMakeMore_7 : decode prog_1_method_16_code 7 = .ok (.if_icmp .lt 5, 3) := by decide +kernel
theorem nd_TK_mayMakeMore_10 : decode prog_1_method_16_code 10 = .ok (.iconst 0, 1) := by decide +kernel
theorem nd_TK_mayMakeMore_11 : decode prog_1_method_16_code 11 = .ok (.ireturn, 1) := by decide +kernel
theorem nd_TK_mayMakeMore_12 : decode prog_1_method_16_code 12 = .ok (.aload_n 0, 1) := by decide +kernel
theorem nd_TK_mayMakeMore_13 : decode prog_1_method_16_code 13 = .ok (.dup, 1) := by decide +kernel
theorem nd_TK_mayMakeMore_14 : decode prog_1_method_16_code 14 = .ok (.getfield 175, 3) := by decide +kernel
theorem nd_TK_mayMakeMore_17 : decode prog_1_method_16_code 17 = .ok (.iconst 1, 1) := by decide +kernel
theorem nd_TK_mayMakeMore_18 : decode prog_1_method_16_code 18 = .ok (.iadd, 1) := by decide +kernel
theorem nd_TK_mayMakeMore_19 : decode prog_1_method_16_code 19 = .ok (.putfield 175, 3) := by decide +kernel
theorem nd_TK_mayMakeMore_22 : decode prog_1_method_16_code 22 = .ok (.iconst 1, 1) := by decide +kernel
theorem nd_TK_mayMakeMore_23 : decode prog_1_method_16_code 23 = .ok (.ireturn, 1) := by decide +kernel
theorem nd_EN_turnSending_0 : decode prog_2_method_4_code 0 = .ok (.aload_n 0, 1) := by decide +kernel
theorem nd_EN_turnSending_1 : decode prog_2_method_4_code 1 = .ok (.aload_n 0, 1) := by decide +kernel
theorem nd_EN_turnSending_2 : decode prog_2_method_4_code 2 = .ok (.getfield 40, 3) := by decide +kernel
theorem nd_EN_turnSending_5 : decode prog_2_method_4_code 5 = .ok (.putfield 44, 3) := by decide +kernel
theorem nd_EN_turnSending_8 : decode prog_2_method_4_code 8 = .ok (.aload_n 0, 1) := by decide +kernel
theorem nd_EN_turnSending_9 : decode prog_2_method_4_code 9 = .ok (.iconst 0, 1) := by decide +kernel
theorem nd_EN_turnSending_10 : decode prog_2_method_4_code 10 = .ok (.putfield 40, 3) := by decide +kernel
theorem nd_EN_turnSending_13 : decode prog_2_method_4_code 13 = .ok (.aload_n 0, 1) := by decide +kernel
theorem nd_EN_turnSending_14 : decode prog_2_method_4_code 14 = .ok (.aload_n 1, 1) := by decide +kernel
theorem nd_EN_turnSending_15 : decode prog_2_method_4_code 15 = .ok (.invokevirtual 56, 3) := by decide +kernel
theorem nd_EN_turnSending_18 : decode prog_2_method_4_code 18 = .ok (.putfield 24, 3) := by decide +kernel
theorem nd_EN_turnSending_21 : decode prog_2_method_4_code 21 = .ok (.aload_n 1, 1) := by decide +kernel
theorem nd_EN_turnSending_22 : decode prog_2_method_4_code 22 = .ok (.aload_n 0, 1) := by decide +kernel
theorem nd_EN_turnSending_23 : decode prog_2_method_4_code 23 = .ok (.getfield 24, 3) := by decide +kernel
theorem nd_EN_turnSending_26 : decode prog_2_method_4_code 26 = .ok (.aload_n 0, 1) := by decide +kernel
theorem nd_EN_turnSending_27 : decode prog_2_method_4_code 27 = .ok (.getfield 34, 3) := by decide +kernel
theorem nd_EN_turnSending_30 : decode prog_2_method_4_code 30 = .ok (.invokevirtual 62, 3) := by decide +kernel
theorem nd_EN_turnSending_33 : decode prog_2_method_4_code 33 = .ok (.astore_n 2, 1) := by decide +kernel
theorem nd_EN_turnSending_34 : decode prog_2_method_4_code 34 = .ok (.aload_n 0, 1) := by decide +kernel
theorem nd_EN_turnSending_35 : decode prog_2_method_4_code 35 = .ok (.aload_n 1, 1) := by decide +kernel
theorem nd_EN_turnSending_36 : decode prog_2_method_4_code 36 = .ok (.iconst 5, 1) := by decide +kernel
theorem nd_EN_turnSending_37 : decode prog_2_method_4_code 37 = .ok (.aload_n 0, 1) := by decide +kernel
theorem nd_EN_turnSending_38 : decode prog_2_method_4_code 38 = .ok (.getfield 21, 3) := by decide +kernel
theorem nd_EN_turnSending_41 : decode prog_2_method_4_code 41 = .ok (.aload_n 2, 1) := by decide +kernel
theorem nd_EN_turnSending_42 : decode prog_2_method_4_code 42 = .ok (.invokevirtual 66, 3) := by decide +kernel
theorem nd_EN_turnSending_45 : decode prog_2_method_4_code 45 = .ok (.putfield 37, 3) := by decide +kernel
theorem nd_EN_turnSending_48 : decode prog_2_method_4_code 48 = .ok (.aload_n 0, 1) := by decide +kernel
theorem nd_EN_turnSending_49 : decode prog_2_method_4_code 49 = .ok (.aload_n 1, 1) := by decide +kernel
theorem nd_EN_turnSending_50 : decode prog_2_method_4_code 50 = .ok (.iconst 4, 1) := by decide +kernel
theorem nd_EN_turnSending_51 : decode prog_2_method_4_code 51 = .ok (.aload_n 0, 1) := by decide +kernel
theorem nd_EN_turnSending_52 : decode prog_2_method_4_code 52 = .ok (.getfield 21, 3) := by decide +kernel
theorem nd_EN_turnSending_55 : decode prog_2_method_4_code 55 = .ok (.aload_n 2, 1) := by decide +kernel
theorem nd_EN_turnSending_56 : decode prog_2_method_4_code 56 = .ok (.invokevirtual 66, 3) := by decide +kernel
theorem nd_EN_turnSending_59 : decode prog_2_method_4_code 59 = .ok (.putfield 21, 3) := by decide +kernel
theorem nd_EN_turnSending_62 : decode prog_2_method_4_code 62 = .ok (.return_, 1) := by decide +kernel
theorem nd_EN_sealedWire_0 : decode prog_2_method_5_code 0 = .ok (.aload_n 3, 1) := by decide +kernel
theorem nd_EN_sealedWire_1 : decode prog_2_method_5_code 1 = .ok (.bipush 6, 2) := by decide +kernel
theorem nd_EN_sealedWire_3 : decode prog_2_method_5_code 3 = .ok (.aload_n 0, 1) := by decide +kernel
theorem nd_EN_sealedWire_4 : decode prog_2_method_5_code 4 = .ok (.getfield 37, 3) := by decide +kernel
theorem nd_EN_sealedWire_7 : decode prog_2_method_5_code 7 = .ok (.aconst_null, 1) := by decide +kernel
theorem nd_EN_sealedWire_8 : decode prog_2_method_5_code 8 = .ok (.invokevirtual 66, 3) := by decide +kernel
theorem nd_EN_sealedWire_11 : decode prog_2_method_5_code 11 = .ok (.astore 4, 2) := by decide +kernel
theorem nd_EN_sealedWire_13 : decode prog_2_method_5_code 13 = .ok (.new 70, 3) := by decide +kernel
theorem nd_EN_sealedWire_16 : decode prog_2_method_5_code 16 = .ok (.dup, 1) := by decide +kernel
theorem nd_EN_sealedWire_17 : decode prog_2_method_5_code 17 = .ok (.iload_n 1, 1) := by decide +kernel
theorem nd_EN_sealedWire_18 : decode prog_2_method_5_code 18 = .ok (.aload_n 0, 1) := by decide +kernel
theorem nd_EN_sealedWire_19 : decode prog_2_method_5_code 19 = .ok (.getfield 40, 3) := by decide +kernel
theorem nd_EN_sealedWire_22 : decode prog_2_method_5_code 22 = .ok (.aload_n 0, 1) := by decide +kernel
theorem nd_EN_sealedWire_23 : decode prog_2_method_5_code 23 = .ok (.getfield 44, 3) := by decide +kernel
theorem nd_EN_sealedWire_26 : decode prog_2_method_5_code 26 = .ok (.aload_n 3, 1) := by decide +kernel
theorem nd_EN_sealedWire_27 : decode prog_2_method_5_code 27 = .ok (.aload_n 0, 1) := by decide +kernel
theorem nd_EN_sealedWire_28 : decode prog_2_method_5_code 28 = .ok (.getfield 24, 3) := by decide +kernel
theorem nd_EN_sealedWire_31 : decode prog_2_method_5_code 31 = .ok (.invokevirtual 72, 3) := by decide +kernel
theorem nd_EN_sealedWire_34 : decode prog_2_method_5_code 34 = .ok (.aload 4, 2) := by decide +kernel
theorem nd_EN_sealedWire_36 : decode prog_2_method_5_code 36 = .ok (.aload_n 2, 1) := by decide +kernel
theorem nd_EN_sealedWire_37 : decode prog_2_method_5_code 37 = .ok (.invokespecial 76, 3) := by decide +kernel
theorem nd_EN_sealedWire_40 : decode prog_2_method_5_code 40 = .ok (.astore 5, 2) := by decide +kernel
theorem nd_EN_sealedWire_42 : decode prog_2_method_5_code 42 = .ok (.aload_n 0, 1) := by decide +kernel
theorem nd_EN_sealedWire_43 : decode prog_2_method_5_code 43 = .ok (.aload_n 3, 1) := by decide +kernel
theorem nd_EN_sealedWire_44 : decode prog_2_method_5_code 44 = .ok (.bipush 7, 2) := by decide +kernel
theorem nd_EN_sealedWire_46 : decode prog_2_method_5_code 46 = .ok (.aload_n 0, 1) := by decide +kernel
theorem nd_EN_sealedWire_47 : decode prog_2_method_5_code 47 = .ok (.getfield 37, 3) := by decide +kernel
theorem nd_EN_sealedWire_50 : decode prog_2_method_5_code 50 = .ok (.aconst_null, 1) := by decide +kernel
theorem nd_EN_sealedWire_51 : decode prog_2_method_5_code 51 = .ok (.invokevirtual 66, 3) := by decide +kernel
theorem nd_EN_sealedWire_54 : decode prog_2_method_5_code 54 = .ok (.putfield 37, 3) := by decide +kernel
theorem nd_EN_sealedWire_57 : decode prog_2_method_5_code 57 = .ok (.aload_n 0, 1) := by decide +kernel
theorem nd_EN_sealedWire_58 : decode prog_2_method_5_code 58 = .ok (.dup, 1) := by decide +kernel
theorem nd_EN_sealedWire_59 : decode prog_2_method_5_code 59 = .ok (.getfield 40, 3) := by decide +kernel
theorem nd_EN_sealedWire_62 : decode prog_2_method_5_code 62 = .ok (.iconst 1, 1) := by decide +kernel
theorem nd_EN_sealedWire_63 : decode prog_2_method_5_code 63 = .ok (.iadd, 1) := by decide +kernel
theorem nd_EN_sealedWire_64 : decode prog_2_method_5_code 64 = .ok (.putfield 40, 3) := by decide +kernel
theorem nd_EN_sealedWire_67 : decode prog_2_method_5_code 67 = .ok (.aload 5, 2) := by decide +kernel
theorem nd_EN_sealedWire_69 : decode prog_2_method_5_code 69 = .ok (.areturn, 1) := by decide +kernel
theorem nd_TK_giveWire_0 : decode prog_1_method_17_code 0 = .ok (.aload_n 0, 1) := by decide +kernel
theorem nd_TK_giveWire_1 : decode prog_1_method_17_code 1 = .ok (.getfield 10, 3) := by decide +kernel
theorem nd_TK_giveWire_4 : decode prog_1_method_17_code 4 = .ok (.aload_n 2, 1) := by decide +kernel
theorem nd_TK_giveWire_5 : decode prog_1_method_17_code 5 = .ok (.invokevirtual 118, 3) := by decide +kernel
theorem nd_TK_giveWire_8 : decode prog_1_method_17_code 8 = .ok (.pop, 1) := by decide +kernel
theorem nd_TK_giveWire_9 : decode prog_1_method_17_code 9 = .ok (.aload_n 0, 1) := by decide +kernel
theorem nd_TK_giveWire_10 : decode prog_1_method_17_code 10 = .ok (.getfield 10, 3) := by decide +kernel
theorem nd_TK_giveWire_13 : decode prog_1_method_17_code 13 = .ok (.aload_n 1, 1) := by decide +kernel
theorem nd_TK_giveWire_14 : decode prog_1_method_17_code 14 = .ok (.getfield 178, 3) := by decide +kernel
theorem nd_TK_giveWire_17 : decode prog_1_method_17_code 17 = .ok (.invokevirtual 118, 3) := by decide +kernel
theorem nd_TK_giveWire_20 : decode prog_1_method_17_code 20 = .ok (.pop, 1) := by decide +kernel
theorem nd_TK_giveWire_21 : decode prog_1_method_17_code 21 = .ok (.aload_n 0, 1) := by decide +kernel
theorem nd_TK_giveWire_22 : decode prog_1_method_17_code 22 = .ok (.getfield 10, 3) := by decide +kernel
theorem nd_TK_giveWire_25 : decode prog_1_method_17_code 25 = .ok (.aload_n 0, 1) := by decide +kernel
theorem nd_TK_giveWire_26 : decode prog_1_method_17_code 26 = .ok (.getfield 10, 3) := by decide +kernel
theorem nd_TK_giveWire_29 : decode prog_1_method_17_code 29 = .ok (.iconst 3, 1) := by decide +kernel
theorem nd_TK_giveWire_30 : decode prog_1_method_17_code 30 = .ok (.aload_n 1, 1) := by decide +kernel
theorem nd_TK_giveWire_31 : decode prog_1_method_17_code 31 = .ok (.getfield 115, 3) := by decide +kernel
theorem nd_TK_giveWire_34 : decode prog_1_method_17_code 34 = .ok (.aload_n 1, 1) := by decide +kernel
theorem nd_TK_giveWire_35 : decode prog_1_method_17_code 35 = .ok (.getfield 144, 3) := by decide +kernel
theorem nd_TK_giveWire_38 : decode prog_1_method_17_code 38 = .ok (.invokevirtual 30, 3) := by decide +kernel
theorem nd_TK_giveWire_41 : decode prog_1_method_17_code 41 = .ok (.invokevirtual 118, 3) := by decide +kernel
theorem nd_TK_giveWire_44 : decode prog_1_method_17_code 44 = .ok (.pop, 1) := by decide +kernel
theorem nd_TK_giveWire_45 : decode prog_1_method_17_code 45 = .ok (.return_, 1) := by decide +kernel
theorem nd_TK_take_0 : decode prog_1_method_3_code 0 = .ok (.aload_n 0, 1) := by decide +kernel
theorem nd_TK_take_1 : decode prog_1_method_3_code 1 = .ok (.getfield 44, 3) := by decide +kernel
theorem nd_TK_take_4 : decode prog_1_method_3_code 4 = .ok (.iload_n 1, 1) := by decide +kernel
theorem nd_TK_take_5 : decode prog_1_method_3_code 5 = .ok (.invokestatic 66, 3) := by decide +kernel
theorem nd_TK_take_8 : decode prog_1_method_3_code 8 = .ok (.astore_n 3, 1) := by decide +kernel
theorem nd_TK_take_9 : decode prog_1_method_3_code 9 = .ok (.aload_n 0, 1) := by decide +kernel
theorem nd_TK_take_10 : decode prog_1_method_3_code 10 = .ok (.iload_n 2, 1) := by decide +kernel
theorem nd_TK_take_11 : decode prog_1_method_3_code 11 = .ok (.invokevirtual 97, 3) := by decide +kernel
theorem nd_TK_take_14 : decode prog_1_method_3_code 14 = .ok (.astore 4, 2) := by decide +kernel
theorem nd_TK_take_16 : decode prog_1_method_3_code 16 = .ok (.aload_n 3, 1) := by decide +kernel
theorem nd_TK_take_17 : decode prog_1_method_3_code 17 = .ok (.ifnull 8, 3) := by decide +kernel
theorem nd_TK_take_20 : decode prog_1_method_3_code 20 = .ok (.aload 4, 2) := by decide +kernel
theorem nd_TK_take_22 : decode prog_1_method_3_code 22 = .ok (.ifnonnull 5, 3) := by decide +kernel
theorem nd_TK_take_25 : decode prog_1_method_3_code 25 = .ok (.iconst (-1), 1) := by decide +kernel
theorem nd_TK_take_26 : decode prog_1_method_3_code 26 = .ok (.ireturn, 1) := by decide +kernel
theorem nd_TK_take_27 : decode prog_1_method_3_code 27 = .ok (.aload 4, 2) := by decide +kernel
theorem nd_TK_take_29 : decode prog_1_method_3_code 29 = .ok (.getfield 101, 3) := by decide +kernel
theorem nd_TK_take_32 : decode prog_1_method_3_code 32 = .ok (.iload_n 1, 1) := by decide +kernel
theorem nd_TK_take_33 : decode prog_1_method_3_code 33 = .ok (.if_icmp .ne 6, 3) := by decide +kernel
theorem nd_TK_take_36 : decode prog_1_method_3_code 36 = .ok (.bipush (-11), 2) := by decide +kernel
theorem nd_TK_take_38 : decode prog_1_method_3_code 38 = .ok (.ireturn, 1) := by decide +kernel
theorem nd_TK_take_39 : decode prog_1_method_3_code 39 = .ok (.aload_n 0, 1) := by decide +kernel
theorem nd_TK_take_40 : decode prog_1_method_3_code 40 = .ok (.invokevirtual 70, 3) := by decide +kernel
theorem nd_TK_take_43 : decode prog_1_method_3_code 43 = .ok (.ifCond .ne 5, 3) := by decide +kernel
theorem nd_TK_take_46 : decode prog_1_method_3_code 46 = .ok (.iconst (-1), 1) := by decide +kernel
theorem nd_TK_take_47 : decode prog_1_method_3_code 47 = .ok (.ireturn, 1) := by decide +kernel
theorem nd_TK_take_48 : decode prog_1_method_3_code 48 = .ok (.aload_n 0, 1) := by decide +kernel
theorem nd_TK_take_49 : decode prog_1_method_3_code 49 = .ok (.getfield 55, 3) := by decide +kernel
theorem nd_TK_take_52 : decode prog_1_method_3_code 52 = .ok (.aload_n 3, 1) := by decide +kernel
theorem nd_TK_take_53 : decode prog_1_method_3_code 53 = .ok (.invokevirtual 107, 3) := by decide +kernel
theorem nd_TK_take_56 : decode prog_1_method_3_code 56 = .ok (.aload_n 0, 1) := by decide +kernel
theorem nd_TK_take_57 : decode prog_1_method_3_code 57 = .ok (.getfield 55, 3) := by decide +kernel
theorem nd_TK_take_60 : decode prog_1_method_3_code 60 = .ok (.aload 4, 2) := by decide +kernel
theorem nd_TK_take_62 : decode prog_1_method_3_code 62 = .ok (.aload_n 0, 1) := by decide +kernel
theorem nd_TK_take_63 : decode prog_1_method_3_code 63 = .ok (.getfield 10, 3) := by decide +kernel
theorem nd_TK_take_66 : decode prog_1_method_3_code 66 = .ok (.invokevirtual 111, 3) := by decide +kernel
theorem nd_TK_take_69 : decode prog_1_method_3_code 69 = .ok (.astore 5, 2) := by decide +kernel
theorem nd_TK_take_71 : decode prog_1_method_3_code 71 = .ok (.aload 5, 2) := by decide +kernel
theorem nd_TK_take_73 : decode prog_1_method_3_code 73 = .ok (.ifnonnull 6, 3) := by decide +kernel
theorem nd_TK_take_76 : decode prog_1_method_3_code 76 = .ok (.bipush (-13), 2) := by decide +kernel
theorem nd_TK_take_78 : decode prog_1_method_3_code 78 = .ok (.ireturn, 1) := by decide +kernel
theorem nd_TK_take_79 : decode prog_1_method_3_code 79 = .ok (.aload 5, 2) := by decide +kernel
theorem nd_TK_take_81 : decode prog_1_method_3_code 81 = .ok (.aload 4, 2) := by decide +kernel
theorem nd_TK_take_83 : decode prog_1_method_3_code 83 = .ok (.getfield 115, 3) := by decide +kernel
theorem nd_TK_take_86 : decode prog_1_method_3_code 86 = .ok (.if_acmp .eq 6, 3) := by decide +kernel
theorem nd_TK_take_89 : decode prog_1_method_3_code 89 = .ok (.bipush (-14), 2) := by decide +kernel
theorem nd_TK_take_91 : decode prog_1_method_3_code 91 = .ok (.ireturn, 1) := by decide +kernel
theorem nd_TK_take_92 : decode prog_1_method_3_code 92 = .ok (.aload_n 3, 1) := by decide +kernel
theorem nd_TK_take_93 : decode prog_1_method_3_code 93 = .ok (.aload_n 0, 1) := by decide +kernel
theorem nd_TK_take_94 : decode prog_1_method_3_code 94 = .ok (.getfield 55, 3) := by decide +kernel
theorem nd_TK_take_97 : decode prog_1_method_3_code 97 = .ok (.invokevirtual 107, 3) := by decide +kernel
theorem nd_TK_take_100 : decode prog_1_method_3_code 100 = .ok (.iconst 1, 1) := by decide +kernel
theorem nd_TK_take_101 : decode prog_1_method_3_code 101 = .ok (.ireturn, 1) := by decide +kernel
theorem nd_TK_wireAt_0 : decode prog_1_method_14_code 0 = .ok (.iload_n 1, 1) := by decide +kernel
theorem nd_TK_wireAt_1 : decode prog_1_method_14_code 1 = .ok (.ifCond .lt 28, 3) := by decide +kernel
theorem nd_TK_wireAt_4 : decode prog_1_method_14_code 4 = .ok (.iload_n 1, 1) := by decide +kernel
theorem nd_TK_wireAt_5 : decode prog_1_method_14_code 5 = .ok (.aload_n 0, 1) := by decide +kernel
theorem nd_TK_wireAt_6 : decode prog_1_method_14_code 6 = .ok (.getfield 62, 3) := by decide +kernel
theorem nd_TK_wireAt_9 : decode prog_1_method_14_code 9 = .ok (.invokevirtual 93, 3) := by decide +kernel
theorem nd_TK_wireAt_12 : decode prog_1_method_14_code 12 = .ok (.if_icmp .ge 17, 3) := by decide +kernel
theorem nd_TK_wireAt_15 : decode prog_1_method_14_code 15 = .ok (.aload_n 0, 1) := by decide +kernel
theorem nd_TK_wireAt_16 : decode prog_1_method_14_code 16 = .ok (.getfield 62, 3) := by decide +kernel
theorem nd_TK_wireAt_19 : decode prog_1_method_14_code 19 = .ok (.iload_n 1, 1) := by decide +kernel
theorem nd_TK_wireAt_20 : decode prog_1_method_14_code 20 = .ok (.invokevirtual 171, 3) := by decide +kernel
theorem nd_TK_wireAt_23 : decode prog_1_method_14_code 23 = .ok (.checkcast 102, 3) := by decide +kernel
theorem nd_TK_wireAt_26 : decode prog_1_method_14_code 26 = .ok (.goto 4, 3) := by decide +kernel
theorem nd_TK_wireAt_29 : decode prog_1_method_14_code 29 = .ok (.aconst_null, 1) := by decide +kernel
theorem nd_TK_wireAt_30 : decode prog_1_method_14_code 30 = .ok (.areturn, 1) := by decide +kernel
theorem nd_EN_keyFor_0 : decode prog_2_method_6_code 0 = .ok (.aload_n 0, 1) := by decide +kernel
theorem nd_EN_keyFor_1 : decode prog_2_method_6_code 1 = .ok (.aload_n 1, 1) := by decide +kernel
theorem nd_EN_keyFor_2 : decode prog_2_method_6_code 2 = .ok (.getfield 79, 3) := by decide +kernel
theorem nd_EN_keyFor_5 : decode prog_2_method_6_code 5 = .ok (.aload_n 1, 1) := by decide +kernel
theorem nd_EN_keyFor_6 : decode prog_2_method_6_code 6 = .ok (.getfield 82, 3) := by decide +kernel
theorem nd_EN_keyFor_9 : decode prog_2_method_6_code 9 = .ok (.invokevirtual 85, 3) := by decide +kernel
theorem nd_EN_keyFor_12 : decode prog_2_method_6_code 12 = .ok (.astore_n 3, 1) := by decide +kernel
theorem nd_EN_keyFor_13 : decode prog_2_method_6_code 13 = .ok (.aload_n 3, 1) := by decide +kernel
theorem nd_EN_keyFor_14 : decode prog_2_method_6_code 14 = .ok (.ifnull 5, 3) := by decide +kernel
theorem nd_EN_keyFor_17 : decode prog_2_method_6_code 17 = .ok (.aload_n 3, 1) := by decide +kernel
theorem nd_EN_keyFor_18 : decode prog_2_method_6_code 18 = .ok (.areturn, 1) := by decide +kernel
theorem nd_EN_keyFor_19 : decode prog_2_method_6_code 19 = .ok (.aload_n 1, 1) := by decide +kernel
theorem nd_EN_keyFor_20 : decode prog_2_method_6_code 20 = .ok (.getfield 79, 3) := by decide +kernel
theorem nd_EN_keyFor_23 : decode prog_2_method_6_code 23 = .ok (.aload_n 0, 1) := by decide +kernel
theorem nd_EN_keyFor_24 : decode prog_2_method_6_code 24 = .ok (.getfield 34, 3) := by decide +kernel
theorem nd_EN_keyFor_27 : decode prog_2_method_6_code 27 = .ok (.if_acmp .ne 10, 3) := by decide +kernel
theorem nd_EN_keyFor_30 : decode prog_2_method_6_code 30 = .ok (.aload_n 0, 1) := by decide +kernel
theorem nd_EN_keyFor_31 : decode prog_2_method_6_code 31 = .ok (.getfield 47, 3) := by decide +kernel
theorem nd_EN_keyFor_34 : decode prog_2_method_6_code 34 = .ok (.ifnonnull 44, 3) := by decide +kernel
theorem nd_EN_keyFor_37 : decode prog_2_method_6_code 37 = .ok (.aload_n 0, 1) := by decide +kernel
theorem nd_EN_keyFor_38 : decode prog_2_method_6_code 38 = .ok (.getfield 47, 3) := by decide +kernel
theorem nd_EN_keyFor_41 : decode prog_2_method_6_code 41 = .ok (.ifnull 28, 3) := by decide +kernel
theorem nd_EN_keyFor_44 : decode prog_2_method_6_code 44 = .ok (.aload_n 1, 1) := by decide +kernel
theorem nd_EN_keyFor_45 : decode prog_2_method_6_code 45 = .ok (.getfield 89, 3) := by decide +kernel
theorem nd_EN_keyFor_48 : decode prog_2_method_6_code 48 = .ok (.aload_n 0, 1) := by decide +kernel
theorem nd_EN_keyFor_49 : decode prog_2_method_6_code 49 = .ok (.getfield 50, 3) := by decide +kernel
theorem nd_EN_keyFor_52 : decode prog_2_method_6_code 52 = .ok (.if_icmp .le 17, 3) := by decide +kernel
theorem nd_EN_keyFor_55 : decode prog_2_method_6_code 55 = .ok (.aload_n 0, 1) := by decide +kernel
theorem nd_EN_keyFor_56 : decode prog_2_method_6_code 56 = .ok (.aload_n 1, 1) := by decide +kernel
theorem nd_EN_keyFor_57 : decode prog_2_method_6_code 57 = .ok (.getfield 89, 3) := by decide +kernel
theorem nd_EN_keyFor_60 : decode prog_2_method_6_code 60 = .ok (.aload_n 2, 1) := by decide +kernel
theorem nd_EN_keyFor_61 : decode prog_2_method_6_code 61 = .ok (.invokevirtual 90, 3) := by decide +kernel
theorem nd_EN_keyFor_64 : decode prog_2_method_6_code 64 = .ok (.ifCond .ne 5, 3) := by decide +kernel
theorem nd_EN_keyFor_67 : decode prog_2_method_6_code 67 = .ok (.aconst_null, 1) := by decide +kernel
theorem nd_EN_keyFor_68 : decode prog_2_method_6_code 68 = .ok (.areturn, 1) := by decide +kernel
theorem nd_EN_keyFor_69 : decode prog_2_method_6_code 69 = .ok (.aload_n 0, 1) := by decide +kernel
theorem nd_EN_keyFor_70 : decode prog_2_method_6_code 70 = .ok (.aload_n 1, 1) := by decide +kernel
theorem nd_EN_keyFor_71 : decode prog_2_method_6_code 71 = .ok (.getfield 79, 3) := by decide +kernel
theorem nd_EN_keyFor_74 : decode prog_2_method_6_code 74 = .ok (.aload_n 2, 1) := by decide +kernel
theorem nd_EN_keyFor_75 : decode prog_2_method_6_code 75 = .ok (.invokevirtual 94, 3) := by decide +kernel
theorem nd_EN_keyFor_78 : decode prog_2_method_6_code 78 = .ok (.aload_n 1, 1) := by decide +kernel
theorem nd_EN_keyFor_79 : decode prog_2_method_6_code 79 = .ok (.getfield 82, 3) := by decide +kernel
theorem nd_EN_keyFor_82 : decode prog_2_method_6_code 82 = .ok (.aload_n 0, 1) := by decide +kernel
theorem nd_EN_keyFor_83 : decode prog_2_method_6_code 83 = .ok (.getfield 50, 3) := by decide +kernel
theorem nd_EN_keyFor_86 : decode prog_2_method_6_code 86 = .ok (.if_icmp .lt 15, 3) := by decide +kernel
theorem nd_EN_keyFor_89 : decode prog_2_method_6_code 89 = .ok (.aload_n 0, 1) := by decide +kernel
theorem nd_EN_keyFor_90 : decode prog_2_method_6_code 90 = .ok (.aload_n 1, 1) := by decide +kernel
theorem nd_EN_keyFor_91 : decode prog_2_method_6_code 91 = .ok (.getfield 82, 3) := by decide +kernel
theorem nd_EN_keyFor_94 : decode prog_2_method_6_code 94 = .ok (.aload_n 2, 1) := by decide +kernel
theorem nd_EN_keyFor_95 : decode prog_2_method_6_code 95 = .ok (.invokevirtual 90, 3) := by decide +kernel
theorem nd_EN_keyFor_98 : decode prog_2_method_6_code 98 = .ok (.ifCond .ne 5, 3) := by decide +kernel
theorem nd_EN_keyFor_101 : decode prog_2_method_6_code 101 = .ok (.aconst_null, 1) := by decide +kernel
theorem nd_EN_keyFor_102 : decode prog_2_method_6_code 102 = .ok (.areturn, 1) := by decide +kernel
theorem nd_EN_keyFor_103 : decode prog_2_method_6_code 103 = .ok (.aload_n 0, 1) := by decide +kernel
theorem nd_EN_keyFor_104 : decode prog_2_method_6_code 104 = .ok (.aload_n 2, 1) := by decide +kernel
theorem nd_EN_keyFor_105 : decode prog_2_method_6_code 105 = .ok (.invokevirtual 98, 3) := by decide +kernel
theorem nd_EN_keyFor_108 : decode prog_2_method_6_code 108 = .ok (.areturn, 1) := by decide +kernel
theorem nd_EN_pulledLeftKey_0 : decode prog_2_method_11_code 0 = .ok (.iconst 0, 1) := by decide +kernel
theorem nd_EN_pulledLeftKey_1 : decode prog_2_method_11_code 1 = .ok (.istore_n 3, 1) := by decide +kernel
theorem nd_EN_pulledLeftKey_2 : decode prog_2_method_11_code 2 = .ok (.iload_n 3, 1) := by decide +kernel
theorem nd_EN_pulledLeftKey_3 : decode prog_2_method_11_code 3 = .ok (.aload_n 0, 1) := by decide +kernel
theorem nd_EN_pulledLeftKey_4 : decode prog_2_method_11_code 4 = .ok (.getfield 53, 3) := by decide +kernel
theorem nd_EN_pulledLeftKey_7 : decode prog_2_method_11_code 7 = .ok (.if_icmp .ge 51, 3) := by decide +kernel
theorem nd_EN_pulledLeftKey_10 : decode prog_2_method_11_code 10 = .ok (.aload_n 0, 1) := by decide +kernel
theorem nd_EN_pulledLeftKey_11 : decode prog_2_method_11_code 11 = .ok (.getfield 11, 3) := by decide +kernel
theorem nd_EN_pulledLeftKey_14 : decode prog_2_method_11_code 14 = .ok (.iload_n 3, 1) := by decide +kernel
theorem nd_EN_pulledLeftKey_15 : decode prog_2_method_11_code 15 = .ok (.aaload, 1) := by decide +kernel
theorem nd_EN_pulledLeftKey_16 : decode prog_2_method_11_code 16 = .ok (.astore 4, 2) := by decide +kernel
theorem nd_EN_pulledLeftKey_18 : decode prog_2_method_11_code 18 = .ok (.aload 4, 2) := by decide +kernel
theorem nd_EN_pulledLeftKey_20 : decode prog_2_method_11_code 20 = .ok (.ifnull 32, 3) := by decide +kernel
theorem nd_EN_pulledLeftKey_23 : decode prog_2_method_11_code 23 = .ok (.aload 4, 2) := by decide +kernel
theorem nd_EN_pulledLeftKey_25 : decode prog_2_method_11_code 25 = .ok (.getfield 113, 3) := by decide +kernel
theorem nd_EN_pulledLeftKey_28 : decode prog_2_method_11_code 28 = .ok (.aload_n 1, 1) := by decide +kernel
theorem nd_EN_pulledLeftKey_29 : decode prog_2_method_11_code 29 = .ok (.if_acmp .ne 23, 3) := by decide +kernel
theorem nd_EN_pulledLeftKey_32 : decode prog_2_method_11_code 32 = .ok (.aload 4, 2) := by decide +kernel
theorem nd_EN_pulledLeftKey_34 : decode prog_2_method_11_code 34 = .ok (.getfield 114, 3) := by decide +kernel
theorem nd_EN_pulledLeftKey_37 : decode prog_2_method_11_code 37 = .ok (.iload_n 2, 1) := by decide +kernel
theorem nd_EN_pulledLeftKey_38 : decode prog_2_method_11_code 38 = .ok (.if_icmp .ne 14, 3) := by decide +kernel
theorem nd_EN_pulledLeftKey_41 : decode prog_2_method_11_code 41 = .ok (.aload_n 0, 1) := by decide +kernel
theorem nd_EN_pulledLeftKey_42 : decode prog_2_method_11_code 42 = .ok (.iload_n 3, 1) := by decide +kernel
theorem nd_EN_pulledLeftKey_43 : decode prog_2_method_11_code 43 = .ok (.invokevirtual 109, 3) := by decide +kernel
theorem nd_EN_pulledLeftKey_46 : decode prog_2_method_11_code 46 = .ok (.aload 4, 2) := by decide +kernel
theorem nd_EN_pulledLeftKey_48 : decode prog_2_method_11_code 48 = .ok (.getfield 115, 3) := by decide +kernel
theorem nd_EN_pulledLeftKey_51 : decode prog_2_method_11_code 51 = .ok (.areturn, 1) := by decide +kernel
theorem nd_EN_pulledLeftKey_52 : decode prog_2_method_11_code 52 = .ok (.iinc 3 1, 3) := by decide +kernel
theorem nd_EN_pulledLeftKey_55 : decode prog_2_method_11_code 55 = .ok (.goto (-53), 3) := by decide +kernel
theorem nd_EN_pulledLeftKey_58 : decode prog_2_method_11_code 58 = .ok (.aconst_null, 1) := by decide +kernel
theorem nd_EN_pulledLeftKey_59 : decode prog_2_method_11_code 59 = .ok (.areturn, 1) := by decide +kernel
theorem nd_EN_dropLeftKey_0 : decode prog_2_method_12_code 0 = .ok (.iload_n 1, 1) := by decide +kernel
theorem nd_EN_dropLeftKey_1 : decode prog_2_method_12_code 1 = .ok (.istore_n 2, 1) := by decide +kernel
theorem nd_EN_dropLeftKey_2 : decode prog_2_method_12_code 2 = .ok (.iload_n 2, 1) := by decide +kernel
theorem nd_EN_dropLeftKey_3 : decode prog_2_method_12_code 3 = .ok (.iconst 1, 1) := by decide +kernel
theorem nd_EN_dropLeftKey_4 : decode prog_2_method_12_code 4 = .ok (.iadd, 1) := by decide +kernel
theorem nd_EN_dropLeftKey_5 : decode prog_2_method_12_code 5 = .ok (.aload_n 0, 1) := by decide +kernel
theorem nd_EN_dropLeftKey_6 : decode prog_2_method_12_code 6 = .ok (.getfield 53, 3) := by decide +kernel
theorem nd_EN_dropLeftKey_9 : decode prog_2_method_12_code 9 = .ok (.if_icmp .ge 23, 3) := by decide +kernel
theorem nd_EN_dropLeftKey_12 : decode prog_2_method_12_code 12 = .ok (.aload_n 0, 1) := by decide +kernel
theorem nd_EN_dropLeftKey_13 : decode prog_2_method_12_code 13 = .ok (.getfield 11, 3) := by decide +kernel
theorem nd_EN_dropLeftKey_16 : decode prog_2_method_12_code 16 = .ok (.iload_n 2, 1) := by decide +kernel
theorem nd_EN_dropLeftKey_17 : decode prog_2_method_12_code 17 = .ok (.aload_n 0, 1) := by decide +kernel
theorem nd_EN_dropLeftKey_18 : decode prog_2_method_12_code 18 = .ok (.getfield 11, 3) := by decide +kernel
theorem nd_EN_dropLeftKey_21 : decode prog_2_method_12_code 21 = .ok (.iload_n 2, 1) := by decide +kernel
theorem nd_EN_dropLeftKey_22 : decode prog_2_method_12_code 22 = .ok (.iconst 1, 1) := by decide +kernel
theorem nd_EN_dropLeftKey_23 : decode prog_2_method_12_code 23 = .ok (.iadd, 1) := by decide +kernel
theorem nd_EN_dropLeftKey_24 : decode prog_2_method_12_code 24 = .ok (.aaload, 1) := by decide +kernel
theorem nd_EN_dropLeftKey_25 : decode prog_2_method_12_code 25 = .ok (.aastore, 1) := by decide +kernel
theorem nd_EN_dropLeftKey_26 : decode prog_2_method_12_code 26 = .ok (.iinc 2 1, 3) := by decide +kernel
theorem nd_EN_dropLeftKey_29 : decode prog_2_method_12_code 29 = .ok (.goto (-27), 3) := by decide +kernel
theorem nd_EN_dropLeftKey_32 : decode prog_2_method_12_code 32 = .ok (.aload_n 0, 1) := by decide +kernel
theorem nd_EN_dropLeftKey_33 : decode prog_2_method_12_code 33 = .ok (.dup, 1) := by decide +kernel
theorem nd_EN_dropLeftKey_34 : decode prog_2_method_12_code 34 = .ok (.getfield 53, 3) := by decide +kernel
theorem nd_EN_dropLeftKey_37 : decode prog_2_method_12_code 37 = .ok (.iconst 1, 1) := by decide +kernel
theorem nd_EN_dropLeftKey_38 : decode prog_2_method_12_code 38 = .ok (.isub, 1) := by decide +kernel
theorem nd_EN_dropLeftKey_39 : decode prog_2_method_12_code 39 = .ok (.putfield 53, 3) := by decide +kernel
theorem nd_EN_dropLeftKey_42 : decode prog_2_method_12_code 42 = .ok (.aload_n 0, 1) := by decide +kernel
theorem nd_EN_dropLeftKey_43 : decode prog_2_method_12_code 43 = .ok (.getfield 11, 3) := by decide +kernel
theorem nd_EN_dropLeftKey_46 : decode prog_2_method_12_code 46 = .ok (.aload_n 0, 1) := by decide +kernel
theorem nd_EN_dropLeftKey_47 : decode prog_2_method_12_code 47 = .ok (.getfield 53, 3) := by decide +kernel
theorem nd_EN_dropLeftKey_50 : decode prog_2_method_12_code 50 = .ok (.aconst_null, 1) := by decide +kernel
theorem nd_EN_dropLeftKey_51 : decode prog_2_method_12_code 51 = .ok (.aastore, 1) := by decide +kernel
theorem nd_EN_dropLeftKey_52 : decode prog_2_method_12_code 52 = .ok (.return_, 1) := by decide +kernel
theorem nd_EN_skipsTo_0 : decode prog_2_method_8_code 0 = .ok (.iload_n 1, 1) := by decide +kernel
theorem nd_EN_skipsTo_1 : decode prog_2_method_8_code 1 = .ok (.aload_n 0, 1) := by decide +kernel
theorem nd_EN_skipsTo_2 : decode prog_2_method_8_code 2 = .ok (.getfield 50, 3) := by decide +kernel
theorem nd_EN_skipsTo_5 : decode prog_2_method_8_code 5 = .ok (.isub, 1) := by decide +kernel
theorem nd_EN_skipsTo_6 : decode prog_2_method_8_code 6 = .ok (.iconst 5, 1) := by decide +kernel
theorem nd_EN_skipsTo_7 : decode prog_2_method_8_code 7 = .ok (.if_icmp .le 5, 3) := by decide +kernel
theorem nd_EN_skipsTo_10 : decode prog_2_method_8_code 10 = .ok (.iconst 0, 1) := by decide +kernel
theorem nd_EN_skipsTo_11 : decode prog_2_method_8_code 11 = .ok (.ireturn, 1) := by decide +kernel
theorem nd_EN_skipsTo_12 : decode prog_2_method_8_code 12 = .ok (.aload_n 0, 1) := by decide +kernel
theorem nd_EN_skipsTo_13 : decode prog_2_method_8_code 13 = .ok (.getfield 50, 3) := by decide +kernel
theorem nd_EN_skipsTo_16 : decode prog_2_method_8_code 16 = .ok (.istore_n 3, 1) := by decide +kernel
theorem nd_EN_skipsTo_17 : decode prog_2_method_8_code 17 = .ok (.iload_n 3, 1) := by decide +kernel
theorem nd_EN_skipsTo_18 : decode prog_2_method_8_code 18 = .ok (.iload_n 1, 1) := by decide +kernel
theorem nd_EN_skipsTo_19 : decode prog_2_method_8_code 19 = .ok (.if_icmp .ge 30, 3) := by decide +kernel
theorem nd_EN_skipsTo_22 : decode prog_2_method_8_code 22 = .ok (.aload_n 0, 1) := by decide +kernel
theorem nd_EN_skipsTo_23 : decode prog_2_method_8_code 23 = .ok (.new 9, 3) := by decide +kernel
theorem nd_EN_skipsTo_26 : decode prog_2_method_8_code 26 = .ok (.dup, 1) := by decide +kernel
theorem nd_EN_skipsTo_27 : decode prog_2_method_8_code 27 = .ok (.aload_n 0, 1) := by decide +kernel
theorem nd_EN_skipsTo_28 : decode prog_2_method_8_code 28 = .ok (.getfield 34, 3) := by decide +kernel
theorem nd_EN_skipsTo_31 : decode prog_2_method_8_code 31 = .ok (.iload_n 3, 1) := by decide +kernel
theorem nd_EN_skipsTo_32 : decode prog_2_method_8_code 32 = .ok (.aload_n 0, 1) := by decide +kernel
theorem nd_EN_skipsTo_33 : decode prog_2_method_8_code 33 = .ok (.aload_n 2, 1) := by decide +kernel
theorem nd_EN_skipsTo_34 : decode prog_2_method_8_code 34 = .ok (.invokevirtual 98, 3) := by decide +kernel
theorem nd_EN_skipsTo_37 : decode prog_2_method_8_code 37 = .ok (.invokespecial 102, 3) := by decide +kernel
theorem nd_EN_skipsTo_40 : decode prog_2_method_8_code 40 = .ok (.invokevirtual 105, 3) := by decide +kernel
theorem nd_EN_skipsTo_43 : decode prog_2_method_8_code 43 = .ok (.iinc 3 1, 3) := by decide +kernel
theorem nd_EN_skipsTo_46 : decode prog_2_method_8_code 46 = .ok (.goto (-29), 3) := by decide +kernel
theorem nd_EN_skipsTo_49 : decode prog_2_method_8_code 49 = .ok (.iconst 1, 1) := by decide +kernel
theorem nd_EN_skipsTo_50 : decode prog_2_method_8_code 50 = .ok (.ireturn, 1) := by decide +kernel
theorem nd_EN_steppedKey_0 : decode prog_2_method_9_code 0 = .ok (.aload_n 1, 1) := by decide +kernel
theorem nd_EN_steppedKey_1 : decode prog_2_method_9_code 1 = .ok (.bipush 6, 2) := by decide +kernel
theorem nd_EN_steppedKey_3 : decode prog_2_method_9_code 3 = .ok (.aload_n 0, 1) := by decide +kernel
theorem nd_EN_steppedKey_4 : decode prog_2_method_9_code 4 = .ok (.getfield 47, 3) := by decide +kernel
theorem nd_EN_steppedKey_7 : decode prog_2_method_9_code 7 = .ok (.aconst_null, 1) := by decide +kernel
theorem nd_EN_steppedKey_8 : decode prog_2_method_9_code 8 = .ok (.invokevirtual 66, 3) := by decide +kernel
theorem nd_EN_steppedKey_11 : decode prog_2_method_9_code 11 = .ok (.astore_n 2, 1) := by decide +kernel
theorem nd_EN_steppedKey_12 : decode prog_2_method_9_code 12 = .ok (.aload_n 0, 1) := by decide +kernel
theorem nd_EN_steppedKey_13 : decode prog_2_method_9_code 13 = .ok (.aload_n 1, 1) := by decide +kernel
theorem nd_EN_steppedKey_14 : decode prog_2_method_9_code 14 = .ok (.bipush 7, 2) := by decide +kernel
theorem nd_EN_steppedKey_16 : decode prog_2_method_9_code 16 = .ok (.aload_n 0, 1) := by decide +kernel
theorem nd_EN_steppedKey_17 : decode prog_2_method_9_code 17 = .ok (.getfield 47, 3) := by decide +kernel
theorem nd_EN_steppedKey_20 : decode prog_2_method_9_code 20 = .ok (.aconst_null, 1) := by decide +kernel
theorem nd_EN_steppedKey_21 : decode prog_2_method_9_code 21 = .ok (.invokevirtual 66, 3) := by decide +kernel
theorem nd_EN_steppedKey_24 : decode prog_2_method_9_code 24 = .ok (.putfield 47, 3) := by decide +kernel
theorem nd_EN_steppedKey_27 : decode prog_2_method_9_code 27 = .ok (.aload_n 0, 1) := by decide +kernel
theorem nd_EN_steppedKey_28 : decode prog_2_method_9_code 28 = .ok (.dup, 1) := by decide +kernel
theorem nd_EN_steppedKey_29 : decode prog_2_method_9_code 29 = .ok (.getfield 50, 3) := by decide +kernel
theorem nd_EN_steppedKey_32 : decode prog_2_method_9_code 32 = .ok (.iconst 1, 1) := by decide +kernel
theorem nd_EN_steppedKey_33 : decode prog_2_method_9_code 33 = .ok (.iadd, 1) := by decide +kernel
theorem nd_EN_steppedKey_34 : decode prog_2_method_9_code 34 = .ok (.putfield 50, 3) := by decide +kernel
theorem nd_EN_steppedKey_37 : decode prog_2_method_9_code 37 = .ok (.aload_n 2, 1) := by decide +kernel
theorem nd_EN_steppedKey_38 : decode prog_2_method_9_code 38 = .ok (.areturn, 1) := by decide +kernel
theorem nd_EN_leave_0 : decode prog_2_method_10_code 0 = .ok (.aload_n 0, 1) := by decide +kernel
theorem nd_EN_leave_1 : decode prog_2_method_10_code 1 = .ok (.getfield 53, 3) := by decide +kernel
theorem nd_EN_leave_4 : decode prog_2_method_10_code 4 = .ok (.bipush 8, 2) := by decide +kernel
theorem nd_EN_leave_6 : decode prog_2_method_10_code 6 = .ok (.if_icmp .lt 8, 3) := by decide +kernel
theorem nd_EN_leave_9 : decode prog_2_method_10_code 9 = .ok (.aload_n 0, 1) := by decide +kernel
theorem nd_EN_leave_10 : decode prog_2_method_10_code 10 = .ok (.iconst 0, 1) := by decide +kernel
theorem nd_EN_leave_11 : decode prog_2_method_10_code 11 = .ok (.invokevirtual 109, 3) := by decide +kernel
theorem nd_EN_leave_14 : decode prog_2_method_10_code 14 = .ok (.aload_n 0, 1) := by decide +kernel
theorem nd_EN_leave_15 : decode prog_2_method_10_code 15 = .ok (.getfield 11, 3) := by decide +kernel
theorem nd_EN_leave_18 : decode prog_2_method_10_code 18 = .ok (.aload_n 0, 1) := by decide +kernel
theorem nd_EN_leave_19 : decode prog_2_method_10_code 19 = .ok (.getfield 53, 3) := by decide +kernel
theorem nd_EN_leave_22 : decode prog_2_method_10_code 22 = .ok (.aload_n 1, 1) := by decide +kernel
theorem nd_EN_leave_23 : decode prog_2_method_10_code 23 = .ok (.aastore, 1) := by decide +kernel
theorem nd_EN_leave_24 : decode prog_2_method_10_code 24 = .ok (.aload_n 0, 1) := by decide +kernel
theorem nd_EN_leave_25 : decode prog_2_method_10_code 25 = .ok (.dup, 1) := by decide +kernel
theorem nd_EN_leave_26 : decode prog_2_method_10_code 26 = .ok (.getfield 53, 3) := by decide +kernel
theorem nd_EN_leave_29 : decode prog_2_method_10_code 29 = .ok (.iconst 1, 1) := by decide +kernel
theorem nd_EN_leave_30 : decode prog_2_method_10_code 30 = .ok (.iadd, 1) := by decide +kernel
theorem nd_EN_leave_31 : decode prog_2_method_10_code 31 = .ok (.putfield 53, 3) := by decide +kernel
theorem nd_EN_leave_34 : decode prog_2_method_10_code 34 = .ok (.return_, 1) := by decide +kernel
theorem nd_EN_turnReceiving_0 : decode prog_2_method_7_code 0 = .ok (.aload_n 2, 1) := by decide +kernel
theorem nd_EN_turnReceiving_1 : decode prog_2_method_7_code 1 = .ok (.aload_n 0, 1) := by decide +kernel
theorem nd_EN_turnReceiving_2 : decode prog_2_method_7_code 2 = .ok (.getfield 24, 3) := by decide +kernel
theorem nd_EN_turnReceiving_5 : decode prog_2_method_7_code 5 = .ok (.aload_n 1, 1) := by decide +kernel
theorem nd_EN_turnReceiving_6 : decode prog_2_method_7_code 6 = .ok (.invokevirtual 62, 3) := by decide +kernel
theorem nd_EN_turnReceiving_9 : decode prog_2_method_7_code 9 = .ok (.astore_n 3, 1) := by decide +kernel
theorem nd_EN_turnReceiving_10 : decode prog_2_method_7_code 10 = .ok (.aload_n 0, 1) := by decide +kernel
theorem nd_EN_turnReceiving_11 : decode prog_2_method_7_code 11 = .ok (.aload_n 2, 1) := by decide +kernel
theorem nd_EN_turnReceiving_12 : decode prog_2_method_7_code 12 = .ok (.iconst 5, 1) := by decide +kernel
theorem nd_EN_turnReceiving_13 : decode prog_2_method_7_code 13 = .ok (.aload_n 0, 1) := by decide +kernel
theorem nd_EN_turnReceiving_14 : decode prog_2_method_7_code 14 = .ok (.getfield 21, 3) := by decide +kernel
theorem nd_EN_turnReceiving_17 : decode prog_2_method_7_code 17 = .ok (.aload_n 3, 1) := by decide +kernel
theorem nd_EN_turnReceiving_18 : decode prog_2_method_7_code 18 = .ok (.invokevirtual 66, 3) := by decide +kernel
theorem nd_EN_turnReceiving_21 : decode prog_2_method_7_code 21 = .ok (.putfield 47, 3) := by decide +kernel
theorem nd_EN_turnReceiving_24 : decode prog_2_method_7_code 24 = .ok (.aload_n 0, 1) := by decide +kernel
theorem nd_EN_turnReceiving_25 : decode prog_2_method_7_code 25 = .ok (.aload_n 2, 1) := by decide +kernel
theorem nd_EN_turnReceiving_26 : decode prog_2_method_7_code 26 = .ok (.iconst 4, 1) := by decide +kernel
theorem nd_EN_turnReceiving_27 : decode prog_2_method_7_code 27 = .ok (.aload_n 0, 1) := by decide +kernel
theorem nd_EN_turnReceiving_28 : decode prog_2_method_7_code 28 = .ok (.getfield 21, 3) := by decide +kernel
theorem nd_EN_turnReceiving_31 : decode prog_2_method_7_code 31 = .ok (.aload_n 3, 1) := by decide +kernel
theorem nd_EN_turnReceiving_32 : decode prog_2_method_7_code 32 = .ok (.invokevirtual 66, 3) := by decide +kernel
theorem nd_EN_turnReceiving_35 : decode prog_2_method_7_code 35 = .ok (.putfield 21, 3) := by decide +kernel
theorem nd_EN_turnReceiving_38 : decode prog_2_method_7_code 38 = .ok (.aload_n 0, 1) := by decide +kernel
theorem nd_EN_turnReceiving_39 : decode prog_2_method_7_code 39 = .ok (.aload_n 1, 1) := by decide +kernel
theorem nd_EN_turnReceiving_40 : decode prog_2_method_7_code 40 = .ok (.putfield 34, 3) := by decide +kernel
theorem nd_EN_turnReceiving_43 : decode prog_2_method_7_code 43 = .ok (.aload_n 0, 1) := by decide +kernel
theorem nd_EN_turnReceiving_44 : decode prog_2_method_7_code 44 = .ok (.iconst 0, 1) := by decide +kernel
theorem nd_EN_turnReceiving_45 : decode prog_2_method_7_code 45 = .ok (.putfield 50, 3) := by decide +kernel
theorem nd_EN_turnReceiving_48 : decode prog_2_method_7_code 48 = .ok (.aload_n 0, 1) := by decide +kernel
theorem nd_EN_turnReceiving_49 : decode prog_2_method_7_code 49 = .ok (.aconst_null, 1) := by decide +kernel
theorem nd_EN_turnReceiving_50 : decode prog_2_method_7_code 50 = .ok (.putfield 37, 3) := by decide +kernel
theorem nd_EN_turnReceiving_53 : decode prog_2_method_7_code 53 = .ok (.return_, 1) := by decide +kernel
theorem nd_TK_look_0 : decode prog_1_method_4_code 0 = .ok (.aload_n 0, 1) := by decide +kernel
theorem nd_TK_look_1 : decode prog_1_method_4_code 1 = .ok (.getfield 44, 3) := by decide +kernel
theorem nd_TK_look_4 : decode prog_1_method_4_code 4 = .ok (.iload_n 1, 1) := by decide +kernel
theorem nd_TK_look_5 : decode prog_1_method_4_code 5 = .ok (.invokestatic 66, 3) := by decide +kernel
theorem nd_TK_look_8 : decode prog_1_method_4_code 8 = .ok (.astore_n 2, 1) := by decide +kernel
theorem nd_TK_look_9 : decode prog_1_method_4_code 9 = .ok (.aload_n 2, 1) := by decide +kernel
theorem nd_TK_look_10 : decode prog_1_method_4_code 10 = .ok (.ifnonnull 5, 3) := by decide +kernel
theorem nd_TK_look_13 : decode prog_1_method_4_code 13 = .ok (.iconst (-1), 1) := by decide +kernel
theorem nd_TK_look_14 : decode prog_1_method_4_code 14 = .ok (.ireturn, 1) := by decide +kernel
theorem nd_TK_look_15 : decode prog_1_method_4_code 15 = .ok (.aload_n 0, 1) := by decide +kernel
theorem nd_TK_look_16 : decode prog_1_method_4_code 16 = .ok (.getfield 10, 3) := by decide +kernel
theorem nd_TK_look_19 : decode prog_1_method_4_code 19 = .ok (.aload_n 2, 1) := by decide +kernel
theorem nd_TK_look_20 : decode prog_1_method_4_code 20 = .ok (.getfield 86, 3) := by decide +kernel
theorem nd_TK_look_23 : decode prog_1_method_4_code 23 = .ok (.invokevirtual 118, 3) := by decide +kernel
theorem nd_TK_look_26 : decode prog_1_method_4_code 26 = .ok (.aload_n 0, 1) := by decide +kernel
theorem nd_TK_look_27 : decode prog_1_method_4_code 27 = .ok (.getfield 10, 3) := by decide +kernel
theorem nd_TK_look_30 : decode prog_1_method_4_code 30 = .ok (.aload_n 2, 1) := by decide +kernel
theorem nd_TK_look_31 : decode prog_1_method_4_code 31 = .ok (.getfield 122, 3) := by decide +kernel
theorem nd_TK_look_34 : decode prog_1_method_4_code 34 = .ok (.invokevirtual 118, 3) := by decide +kernel
theorem nd_TK_look_37 : decode prog_1_method_4_code 37 = .ok (.iadd, 1) := by decide +kernel
theorem nd_TK_look_38 : decode prog_1_method_4_code 38 = .ok (.aload_n 0, 1) := by decide +kernel
theorem nd_TK_look_39 : decode prog_1_method_4_code 39 = .ok (.getfield 10, 3) := by decide +kernel
theorem nd_TK_look_42 : decode prog_1_method_4_code 42 = .ok (.aload_n 2, 1) := by decide +kernel
theorem nd_TK_look_43 : decode prog_1_method_4_code 43 = .ok (.getfield 125, 3) := by decide +kernel
theorem nd_TK_look_46 : decode prog_1_method_4_code 46 = .ok (.invokevirtual 118, 3) := by decide +kernel
theorem nd_TK_look_49 : decode prog_1_method_4_code 49 = .ok (.iadd, 1) := by decide +kernel
theorem nd_TK_look_50 : decode prog_1_method_4_code 50 = .ok (.istore_n 3, 1) := by decide +kernel
theorem nd_TK_look_51 : decode prog_1_method_4_code 51 = .ok (.iload_n 3, 1) := by decide +kernel
theorem nd_TK_look_52 : decode prog_1_method_4_code 52 = .ok (.aload_n 0, 1) := by decide +kernel
theorem nd_TK_look_53 : decode prog_1_method_4_code 53 = .ok (.getfield 10, 3) := by decide +kernel
theorem nd_TK_look_56 : decode prog_1_method_4_code 56 = .ok (.aload_n 2, 1) := by decide +kernel
theorem nd_TK_look_57 : decode prog_1_method_4_code 57 = .ok (.getfield 37, 3) := by decide +kernel
theorem nd_TK_look_60 : decode prog_1_method_4_code 60 = .ok (.invokevirtual 118, 3) := by decide +kernel
theorem nd_TK_look_63 : decode prog_1_method_4_code 63 = .ok (.aload_n 0, 1) := by decide +kernel
theorem nd_TK_look_64 : decode prog_1_method_4_code 64 = .ok (.getfield 10, 3) := by decide +kernel
theorem nd_TK_look_67 : decode prog_1_method_4_code 67 = .ok (.aload_n 2, 1) := by decide +kernel
theorem nd_TK_look_68 : decode prog_1_method_4_code 68 = .ok (.getfield 41, 3) := by decide +kernel
theorem nd_TK_look_71 : decode prog_1_method_4_code 71 = .ok (.invokevirtual 118, 3) := by decide +kernel
theorem nd_TK_look_74 : decode prog_1_method_4_code 74 = .ok (.iadd, 1) := by decide +kernel
theorem nd_TK_look_75 : decode prog_1_method_4_code 75 = .ok (.aload_n 0, 1) := by decide +kernel
theorem nd_TK_look_76 : decode prog_1_method_4_code 76 = .ok (.getfield 10, 3) := by decide +kernel
theorem nd_TK_look_79 : decode prog_1_method_4_code 79 = .ok (.aload_n 2, 1) := by decide +kernel
theorem nd_TK_look_80 : decode prog_1_method_4_code 80 = .ok (.getfield 128, 3) := by decide +kernel
theorem nd_TK_look_83 : decode prog_1_method_4_code 83 = .ok (.invokevirtual 118, 3) := by decide +kernel
theorem nd_TK_look_86 : decode prog_1_method_4_code 86 = .ok (.iadd, 1) := by decide +kernel
theorem nd_TK_look_87 : decode prog_1_method_4_code 87 = .ok (.iadd, 1) := by decide +kernel
theorem nd_TK_look_88 : decode prog_1_method_4_code 88 = .ok (.istore_n 3, 1) := by decide +kernel
theorem nd_TK_look_89 : decode prog_1_method_4_code 89 = .ok (.iconst 0, 1) := by decide +kernel
theorem nd_TK_look_90 : decode prog_1_method_4_code 90 = .ok (.istore 4, 2) := by decide +kernel
theorem nd_TK_look_92 : decode prog_1_method_4_code 92 = .ok (.iload 4, 2) := by decide +kernel
theorem nd_TK_look_94 : decode prog_1_method_4_code 94 = .ok (.aload_n 2, 1) := by decide +kernel
theorem nd_TK_look_95 : decode prog_1_method_4_code 95 = .ok (.getfield 131, 3) := by decide +kernel
theorem nd_TK_look_98 : decode prog_1_method_4_code 98 = .ok (.if_icmp .ge 51, 3) := by decide +kernel
theorem nd_TK_look_101 : decode prog_1_method_4_code 101 = .ok (.aload_n 2, 1) := by decide +kernel
theorem nd_TK_look_102 : decode prog_1_method_4_code 102 = .ok (.getfield 134, 3) := by decide +kernel
theorem nd_TK_look_105 : decode prog_1_method_4_code 105 = .ok (.iload 4, 2) := by decide +kernel
theorem nd_TK_look_107 : decode prog_1_method_4_code 107 = .ok (.aaload, 1) := by decide +kernel
theorem nd_TK_look_108 : decode prog_1_method_4_code 108 = .ok (.astore 5, 2) := by decide +kernel
theorem nd_TK_look_110 : decode prog_1_method_4_code 110 = .ok (.aload 5, 2) := by decide +kernel
theorem nd_TK_look_112 : decode prog_1_method_4_code 112 = .ok (.ifnull 31, 3) := by decide +kernel
theorem nd_TK_look_115 : decode prog_1_method_4_code 115 = .ok (.iload_n 3, 1) := by decide +kernel
theorem nd_TK_look_116 : decode prog_1_method_4_code 116 = .ok (.aload_n 0, 1) := by decide +kernel
theorem nd_TK_look_117 : decode prog_1_method_4_code 117 = .ok (.getfield 10, 3) := by decide +kernel
theorem nd_TK_look_120 : decode prog_1_method_4_code 120 = .ok (.aload 5, 2) := by decide +kernel
theorem nd_TK_look_122 : decode prog_1_method_4_code 122 = .ok (.getfield 138, 3) := by decide +kernel
theorem nd_TK_look_125 : decode prog_1_method_4_code 125 = .ok (.invokevirtual 118, 3) := by decide +kernel
theorem nd_TK_look_128 : decode prog_1_method_4_code 128 = .ok (.aload_n 0, 1) := by decide +kernel
theorem nd_TK_look_129 : decode prog_1_method_4_code 129 = .ok (.getfield 10, 3) := by decide +kernel
theorem nd_TK_look_132 : decode prog_1_method_4_code 132 = .ok (.aload 5, 2) := by decide +kernel
theorem nd_TK_look_134 : decode prog_1_method_4_code 134 = .ok (.getfield 143, 3) := by decide +kernel
theorem nd_TK_look_137 : decode prog_1_method_4_code 137 = .ok (.invokevirtual 118, 3) := by decide +kernel
theorem nd_TK_look_140 : decode prog_1_method_4_code 140 = .ok (.iadd, 1) := by decide +kernel
theorem nd_TK_look_141 : decode prog_1_method_4_code 141 = .ok (.iadd, 1) := by decide +kernel
theorem nd_TK_look_142 : decode prog_1_method_4_code 142 = .ok (.istore_n 3, 1) := by decide +kernel
theorem nd_TK_look_143 : decode prog_1_method_4_code 143 = .ok (.iinc 4 1, 3) := by decide +kernel
theorem nd_TK_look_146 : decode prog_1_method_4_code 146 = .ok (.goto (-54), 3) := by decide +kernel
theorem nd_TK_look_149 : decode prog_1_method_4_code 149 = .ok (.iload_n 3, 1) := by decide +kernel
theorem nd_TK_look_150 : decode prog_1_method_4_code 150 = .ok (.ireturn, 1) := by decide +kernel
theorem nd_TK_derived_0 : decode prog_1_method_5_code 0 = .ok (.aload_n 0, 1) := by decide +kernel
theorem nd_TK_derived_1 : decode prog_1_method_5_code 1 = .ok (.iload_n 1, 1) := by decide +kernel
theorem nd_TK_derived_2 : decode prog_1_method_5_code 2 = .ok (.invokevirtual 97, 3) := by decide +kernel
theorem nd_TK_derived_5 : decode prog_1_method_5_code 5 = .ok (.astore_n 2, 1) := by decide +kernel
theorem nd_TK_derived_6 : decode prog_1_method_5_code 6 = .ok (.aload_n 2, 1) := by decide +kernel
theorem nd_TK_derived_7 : decode prog_1_method_5_code 7 = .ok (.ifnonnull 7, 3) := by decide +kernel
theorem nd_TK_derived_10 : decode prog_1_method_5_code 10 = .ok (.iconst (-1), 1) := by decide +kernel
theorem nd_TK_derived_11 : decode prog_1_method_5_code 11 = .ok (.goto 17, 3) := by decide +kernel
theorem nd_TK_derived_14 : decode prog_1_method_5_code 14 = .ok (.aload_n 0, 1) := by decide +kernel
theorem nd_TK_derived_15 : decode prog_1_method_5_code 15 = .ok (.getfield 10, 3) := by decide +kernel
theorem nd_TK_derived_18 : decode prog_1_method_5_code 18 = .ok (.aload_n 2, 1) := by decide +kernel
theorem nd_TK_derived_19 : decode prog_1_method_5_code 19 = .ok (.getfield 144, 3) := by decide +kernel
theorem nd_TK_derived_22 : decode prog_1_method_5_code 22 = .ok (.invokevirtual 147, 3) := by decide +kernel
theorem nd_TK_derived_25 : decode prog_1_method_5_code 25 = .ok (.invokestatic 151, 3) := by decide +kernel
theorem nd_TK_derived_28 : decode prog_1_method_5_code 28 = .ok (.ireturn, 1) := by decide +kernel
theorem nd_TK_oneIf_0 : decode prog_1_method_12_code 0 = .ok (.iload_n 0, 1) := by decide +kernel
theorem nd_TK_oneIf_1 : decode prog_1_method_12_code 1 = .ok (.ifCond .eq 7, 3) := by decide +kernel
theorem nd_TK_oneIf_4 : decode prog_1_method_12_code 4 = .ok (.iconst 1, 1) := by decide +kernel
theorem nd_TK_oneIf_5 : decode prog_1_method_12_code 5 = .ok (.goto 4, 3) := by decide +kernel
theorem nd_TK_oneIf_8 : decode prog_1_method_12_code 8 = .ok (.iconst 0, 1) := by decide +kernel
theorem nd_TK_oneIf_9 : decode prog_1_method_12_code 9 = .ok (.ireturn, 1) := by decide +kernel
theorem nd_TK_opens_0 : decode prog_1_method_6_code 0 = .ok (.aload_n 0, 1) := by decide +kernel
theorem nd_TK_opens_1 : decode prog_1_method_6_code 1 = .ok (.iload_n 1, 1) := by decide +kernel
theorem nd_TK_opens_2 : decode prog_1_method_6_code 2 = .ok (.invokevirtual 97, 3) := by decide +kernel
theorem nd_TK_opens_5 : decode prog_1_method_6_code 5 = .ok (.astore_n 2, 1) := by decide +kernel
theorem nd_TK_opens_6 : decode prog_1_method_6_code 6 = .ok (.aload_n 2, 1) := by decide +kernel
theorem nd_TK_opens_7 : decode prog_1_method_6_code 7 = .ok (.ifnonnull 7, 3) := by decide +kernel
theorem nd_TK_opens_10 : decode prog_1_method_6_code 10 = .ok (.iconst (-1), 1) := by decide +kernel
theorem nd_TK_opens_11 : decode prog_1_method_6_code 11 = .ok (.goto 17, 3) := by decide +kernel
theorem nd_TK_opens_14 : decode prog_1_method_6_code 14 = .ok (.aload_n 0, 1) := by decide +kernel
theorem nd_TK_opens_15 : decode prog_1_method_6_code 15 = .ok (.getfield 10, 3) := by decide +kernel
theorem nd_TK_opens_18 : decode prog_1_method_6_code 18 = .ok (.aload_n 2, 1) := by decide +kernel
theorem nd_TK_opens_19 : decode prog_1_method_6_code 19 = .ok (.getfield 115, 3) := by decide +kernel
theorem nd_TK_opens_22 : decode prog_1_method_6_code 22 = .ok (.invokevirtual 147, 3) := by decide +kernel
theorem nd_TK_opens_25 : decode prog_1_method_6_code 25 = .ok (.invokestatic 151, 3) := by decide +kernel
theorem nd_TK_opens_28 : decode prog_1_method_6_code 28 = .ok (.ireturn, 1) := by decide +kernel
theorem nd_TK_back_0 : decode prog_1_method_7_code 0 = .ok (.aload_n 0, 1) := by decide +kernel
theorem nd_TK_back_1 : decode prog_1_method_7_code 1 = .ok (.getfield 44, 3) := by decide +kernel
theorem nd_TK_back_4 : decode prog_1_method_7_code 4 = .ok (.iload_n 1, 1) := by decide +kernel
theorem nd_TK_back_5 : decode prog_1_method_7_code 5 = .ok (.invokestatic 66, 3) := by decide +kernel
theorem nd_TK_back_8 : decode prog_1_method_7_code 8 = .ok (.aload_n 0, 1) := by decide +kernel
theorem nd_TK_back_9 : decode prog_1_method_7_code 9 = .ok (.getfield 52, 3) := by decide +kernel
theorem nd_TK_back_12 : decode prog_1_method_7_code 12 = .ok (.iload_n 1, 1) := by decide +kernel
theorem nd_TK_back_13 : decode prog_1_method_7_code 13 = .ok (.invokestatic 66, 3) := by decide +kernel
theorem nd_TK_back_16 : decode prog_1_method_7_code 16 = .ok (.invokestatic 155, 3) := by decide +kernel
theorem nd_TK_back_19 : decode prog_1_method_7_code 19 = .ok (.ireturn, 1) := by decide +kernel
theorem nd_TK_replace_0 : decode prog_1_method_15_code 0 = .ok (.aload_n 0, 1) := by decide +kernel
theorem nd_TK_replace_1 : decode prog_1_method_15_code 1 = .ok (.ifnull 7, 3) := by decide +kernel
theorem nd_TK_replace_4 : decode prog_1_method_15_code 4 = .ok (.aload_n 1, 1) := by decide +kernel
theorem nd_TK_replace_5 : decode prog_1_method_15_code 5 = .ok (.ifnonnull 5, 3) := by decide +kernel
theorem nd_TK_replace_8 : decode prog_1_method_15_code 8 = .ok (.iconst (-1), 1) := by decide +kernel
theorem nd_TK_replace_9 : decode prog_1_method_15_code 9 = .ok (.ireturn, 1) := by decide +kernel
theorem nd_TK_replace_10 : decode prog_1_method_15_code 10 = .ok (.aload_n 0, 1) := by decide +kernel
theorem nd_TK_replace_11 : decode prog_1_method_15_code 11 = .ok (.aload_n 1, 1) := by decide +kernel
theorem nd_TK_replace_12 : decode prog_1_method_15_code 12 = .ok (.invokevirtual 107, 3) := by decide +kernel
theorem nd_TK_replace_15 : decode prog_1_method_15_code 15 = .ok (.iconst 1, 1) := by decide +kernel
theorem nd_TK_replace_16 : decode prog_1_method_15_code 16 = .ok (.ireturn, 1) := by decide +kernel
theorem nd_TK_keep_0 : decode prog_1_method_8_code 0 = .ok (.aload_n 0, 1) := by decide +kernel
theorem nd_TK_keep_1 : decode prog_1_method_8_code 1 = .ok (.getfield 52, 3) := by decide +kernel
theorem nd_TK_keep_4 : decode prog_1_method_8_code 4 = .ok (.iload_n 1, 1) := by decide +kernel
theorem nd_TK_keep_5 : decode prog_1_method_8_code 5 = .ok (.invokestatic 66, 3) := by decide +kernel
theorem nd_TK_keep_8 : decode prog_1_method_8_code 8 = .ok (.aload_n 0, 1) := by decide +kernel
theorem nd_TK_keep_9 : decode prog_1_method_8_code 9 = .ok (.getfield 44, 3) := by decide +kernel
theorem nd_TK_keep_12 : decode prog_1_method_8_code 12 = .ok (.iload_n 1, 1) := by decide +kernel
theorem nd_TK_keep_13 : decode prog_1_method_8_code 13 = .ok (.invokestatic 66, 3) := by decide +kernel
theorem nd_TK_keep_16 : decode prog_1_method_8_code 16 = .ok (.invokestatic 155, 3) := by decide +kernel
theorem nd_TK_keep_19 : decode prog_1_method_8_code 19 = .ok (.ireturn, 1) := by decide +kernel
theorem nd_TK_end_0 : decode prog_1_method_9_code 0 = .ok (.aload_n 0, 1) := by decide +kernel
theorem nd_TK_end_1 : decode prog_1_method_9_code 1 = .ok (.getfield 44, 3) := by decide +kernel
theorem nd_TK_end_4 : decode prog_1_method_9_code 4 = .ok (.iload_n 1, 1) := by decide +kernel
theorem nd_TK_end_5 : decode prog_1_method_9_code 5 = .ok (.invokestatic 66, 3) := by decide +kernel
theorem nd_TK_end_8 : decode prog_1_method_9_code 8 = .ok (.astore_n 3, 1) := by decide +kernel
theorem nd_TK_end_9 : decode prog_1_method_9_code 9 = .ok (.aload_n 3, 1) := by decide +kernel
theorem nd_TK_end_10 : decode prog_1_method_9_code 10 = .ok (.ifnonnull 5, 3) := by decide +kernel
theorem nd_TK_end_13 : decode prog_1_method_9_code 13 = .ok (.iconst (-1), 1) := by decide +kernel
theorem nd_TK_end_14 : decode prog_1_method_9_code 14 = .ok (.ireturn, 1) := by decide +kernel
theorem nd_TK_end_15 : decode prog_1_method_9_code 15 = .ok (.iload_n 2, 1) := by decide +kernel
theorem nd_TK_end_16 : decode prog_1_method_9_code 16 = .ok (.tableswitch 112 0 6 #[44, 49, 54, 59, 64, 80, 96], 44) := by decide +kernel
theorem nd_TK_end_60 : decode prog_1_method_9_code 60 = .ok (.aload_n 3, 1) := by decide +kernel
theorem nd_TK_end_61 : decode prog_1_method_9_code 61 = .ok (.getfield 159, 3) := by decide +kernel
theorem nd_TK_end_64 : decode prog_1_method_9_code 64 = .ok (.ireturn, 1) := by decide +kernel
theorem nd_TK_end_65 : decode prog_1_method_9_code 65 = .ok (.aload_n 3, 1) := by decide +kernel
theorem nd_TK_end_66 : decode prog_1_method_9_code 66 = .ok (.getfield 162, 3) := by decide +kernel
theorem nd_TK_end_69 : decode prog_1_method_9_code 69 = .ok (.ireturn, 1) := by decide +kernel
theorem nd_TK_end_70 : decode prog_1_method_9_code 70 = .ok (.aload_n 3, 1) := by decide +kernel
theorem nd_TK_end_71 : decode prog_1_method_9_code 71 = .ok (.getfield 165, 3) := by decide +kernel
theorem nd_TK_end_74 : decode prog_1_method_9_code 74 = .ok (.ireturn, 1) := by decide +kernel
theorem nd_TK_end_75 : decode prog_1_method_9_code 75 = .ok (.aload_n 3, 1) := by decide +kernel
theorem nd_TK_end_76 : decode prog_1_method_9_code 76 = .ok (.getfield 131, 3) := by decide +kernel
theorem nd_TK_end_79 : decode prog_1_method_9_code 79 = .ok (.ireturn, 1) := by decide +kernel
theorem nd_TK_end_80 : decode prog_1_method_9_code 80 = .ok (.aload_n 3, 1) := by decide +kernel
theorem nd_TK_end_81 : decode prog_1_method_9_code 81 = .ok (.getfield 37, 3) := by decide +kernel
theorem nd_TK_end_84 : decode prog_1_method_9_code 84 = .ok (.ifnull 7, 3) := by decide +kernel
theorem nd_TK_end_87 : decode prog_1_method_9_code 87 = .ok (.iconst 1, 1) := by decide +kernel
theorem nd_TK_end_88 : decode prog_1_method_9_code 88 = .ok (.goto 4, 3) := by decide +kernel
theorem nd_TK_end_91 : decode prog_1_method_9_code 91 = .ok (.iconst 0, 1) := by decide +kernel
theorem nd_TK_end_92 : decode prog_1_method_9_code 92 = .ok (.invokestatic 151, 3) := by decide +kernel
theorem nd_TK_end_95 : decode prog_1_method_9_code 95 = .ok (.ireturn, 1) := by decide +kernel
theorem nd_TK_end_96 : decode prog_1_method_9_code 96 = .ok (.aload_n 3, 1) := by decide +kernel
theorem nd_TK_end_97 : decode prog_1_method_9_code 97 = .ok (.getfield 41, 3) := by decide +kernel
theorem nd_TK_end_100 : decode prog_1_method_9_code 100 = .ok (.ifnull 7, 3) := by decide +kernel
theorem nd_TK_end_103 : decode prog_1_method_9_code 103 = .ok (.iconst 1, 1) := by decide +kernel
theorem nd_TK_end_104 : decode prog_1_method_9_code 104 = .ok (.goto 4, 3) := by decide +kernel
theorem nd_TK_end_107 : decode prog_1_method_9_code 107 = .ok (.iconst 0, 1) := by decide +kernel
theorem nd_TK_end_108 : decode prog_1_method_9_code 108 = .ok (.invokestatic 151, 3) := by decide +kernel
theorem nd_TK_end_111 : decode prog_1_method_9_code 111 = .ok (.ireturn, 1) := by decide +kernel
theorem nd_TK_end_112 : decode prog_1_method_9_code 112 = .ok (.aload_n 3, 1) := by decide +kernel
theorem nd_TK_end_113 : decode prog_1_method_9_code 113 = .ok (.getfield 128, 3) := by decide +kernel
theorem nd_TK_end_116 : decode prog_1_method_9_code 116 = .ok (.ifnull 7, 3) := by decide +kernel
theorem nd_TK_end_119 : decode prog_1_method_9_code 119 = .ok (.iconst 1, 1) := by decide +kernel
theorem nd_TK_end_120 : decode prog_1_method_9_code 120 = .ok (.goto 4, 3) := by decide +kernel
theorem nd_TK_end_123 : decode prog_1_method_9_code 123 = .ok (.iconst 0, 1) := by decide +kernel
theorem nd_TK_end_124 : decode prog_1_method_9_code 124 = .ok (.invokestatic 151, 3) := by decide +kernel
theorem nd_TK_end_127 : decode prog_1_method_9_code 127 = .ok (.ireturn, 1) := by decide +kernel
theorem nd_TK_end_128 : decode prog_1_method_9_code 128 = .ok (.iconst (-1), 1) := by decide +kernel
theorem nd_TK_end_129 : decode prog_1_method_9_code 129 = .ok (.ireturn, 1) := by decide +kernel
theorem nd_TK_agree_0 : decode prog_1_method_10_code 0 = .ok (.aload_n 0, 1) := by decide +kernel
theorem nd_TK_agree_1 : decode prog_1_method_10_code 1 = .ok (.getfield 44, 3) := by decide +kernel
theorem nd_TK_agree_4 : decode prog_1_method_10_code 4 = .ok (.iconst 0, 1) := by decide +kernel
theorem nd_TK_agree_5 : decode prog_1_method_10_code 5 = .ok (.aaload, 1) := by decide +kernel
theorem nd_TK_agree_6 : decode prog_1_method_10_code 6 = .ok (.getfield 122, 3) := by decide +kernel
theorem nd_TK_agree_9 : decode prog_1_method_10_code 9 = .ok (.aload_n 0, 1) := by decide +kernel
theorem nd_TK_agree_10 : decode prog_1_method_10_code 10 = .ok (.getfield 44, 3) := by decide +kernel
theorem nd_TK_agree_13 : decode prog_1_method_10_code 13 = .ok (.iconst 1, 1) := by decide +kernel
theorem nd_TK_agree_14 : decode prog_1_method_10_code 14 = .ok (.aaload, 1) := by decide +kernel
theorem nd_TK_agree_15 : decode prog_1_method_10_code 15 = .ok (.getfield 122, 3) := by decide +kernel
theorem nd_TK_agree_18 : decode prog_1_method_10_code 18 = .ok (.if_acmp .ne 7, 3) := by decide +kernel
theorem nd_TK_agree_21 : decode prog_1_method_10_code 21 = .ok (.iconst 1, 1) := by decide +kernel
theorem nd_TK_agree_22 : decode prog_1_method_10_code 22 = .ok (.goto 4, 3) := by decide +kernel
theorem nd_TK_agree_25 : decode prog_1_method_10_code 25 = .ok (.iconst 0, 1) := by decide +kernel
theorem nd_TK_agree_26 : decode prog_1_method_10_code 26 = .ok (.invokestatic 151, 3) := by decide +kernel
theorem nd_TK_agree_29 : decode prog_1_method_10_code 29 = .ok (.ireturn, 1) := by decide +kernel
theorem nd_TK_count_0 : decode prog_1_method_11_code 0 = .ok (.iload_n 1, 1) := by decide +kernel
theorem nd_TK_count_1 : decode prog_1_method_11_code 1 = .ok (.ifCond .ne 11, 3) := by decide +kernel
theorem nd_TK_count_4 : decode prog_1_method_11_code 4 = .ok (.aload_n 0, 1) := by decide +kernel
theorem nd_TK_count_5 : decode prog_1_method_11_code 5 = .ok (.getfield 62, 3) := by decide +kernel
theorem nd_TK_count_8 : decode prog_1_method_11_code 8 = .ok (.invokevirtual 93, 3) := by decide +kernel
theorem nd_TK_count_11 : decode prog_1_method_11_code 11 = .ok (.ireturn, 1) := by decide +kernel
theorem nd_TK_count_12 : decode prog_1_method_11_code 12 = .ok (.iload_n 1, 1) := by decide +kernel
theorem nd_TK_count_13 : decode prog_1_method_11_code 13 = .ok (.iconst 1, 1) := by decide +kernel
theorem nd_TK_count_14 : decode prog_1_method_11_code 14 = .ok (.if_icmp .ne 13, 3) := by decide +kernel
theorem nd_TK_count_17 : decode prog_1_method_11_code 17 = .ok (.aload_n 0, 1) := by decide +kernel
theorem nd_TK_count_18 : decode prog_1_method_11_code 18 = .ok (.getfield 10, 3) := by decide +kernel
theorem nd_TK_count_21 : decode prog_1_method_11_code 21 = .ok (.getfield 168, 3) := by decide +kernel
theorem nd_TK_count_24 : decode prog_1_method_11_code 24 = .ok (.goto 4, 3) := by decide +kernel
theorem nd_TK_count_27 : decode prog_1_method_11_code 27 = .ok (.iconst (-1), 1) := by decide +kernel
theorem nd_TK_count_28 : decode prog_1_method_11_code 28 = .ok (.ireturn, 1) := by decide +kernel
