theorem dX5_init_0 : decode cX5_init 0 = .ok (.aload_n 0, 1) := by decide +kernel
theorem dX5_init_1 : decode cX5_init 1 = .ok (.invokespecial 1, 3) := by decide +kernel
theorem dX5_init_4 : decode cX5_init 4 = .ok (.aload_n 0, 1) := by decide +kernel
theorem dX5_init_5 : decode cX5_init 5 = .ok (.sipush 160, 3) := by decide +kernel
theorem dX5_init_8 : decode cX5_init 8 = .ok (.newarray .int, 2) := by decide +kernel
theorem dX5_init_10 : decode cX5_init 10 = .ok (.putfield 7, 3) := by decide +kernel
theorem dX5_init_13 : decode cX5_init 13 = .ok (.aload_n 0, 1) := by decide +kernel
theorem dX5_init_14 : decode cX5_init 14 = .ok (.sipush 160, 3) := by decide +kernel
theorem dX5_init_17 : decode cX5_init 17 = .ok (.newarray .int, 2) := by decide +kernel
theorem dX5_init_19 : decode cX5_init 19 = .ok (.putfield 13, 3) := by decide +kernel
theorem dX5_init_22 : decode cX5_init 22 = .ok (.aload_n 0, 1) := by decide +kernel
theorem dX5_init_23 : decode cX5_init 23 = .ok (.sipush 160, 3) := by decide +kernel
theorem dX5_init_26 : decode cX5_init 26 = .ok (.newarray .int, 2) := by decide +kernel
theorem dX5_init_28 : decode cX5_init 28 = .ok (.putfield 16, 3) := by decide +kernel
theorem dX5_init_31 : decode cX5_init 31 = .ok (.aload_n 0, 1) := by decide +kernel
theorem dX5_init_32 : decode cX5_init 32 = .ok (.sipush 160, 3) := by decide +kernel
theorem dX5_init_35 : decode cX5_init 35 = .ok (.newarray .int, 2) := by decide +kernel
theorem dX5_init_37 : decode cX5_init 37 = .ok (.putfield 19, 3) := by decide +kernel
theorem dX5_init_40 : decode cX5_init 40 = .ok (.aload_n 0, 1) := by decide +kernel
theorem dX5_init_41 : decode cX5_init 41 = .ok (.sipush 1280, 3) := by decide +kernel
theorem dX5_init_44 : decode cX5_init 44 = .ok (.newarray .int, 2) := by decide +kernel
theorem dX5_init_46 : decode cX5_init 46 = .ok (.putfield 22, 3) := by decide +kernel
theorem dX5_init_49 : decode cX5_init 49 = .ok (.aload_n 0, 1) := by decide +kernel
theorem dX5_init_50 : decode cX5_init 50 = .ok (.iconst 0, 1) := by decide +kernel
theorem dX5_init_51 : decode cX5_init 51 = .ok (.putfield 25, 3) := by decide +kernel
theorem dX5_init_54 : decode cX5_init 54 = .ok (.aload_n 0, 1) := by decide +kernel
theorem dX5_init_55 : decode cX5_init 55 = .ok (.iconst 0, 1) := by decide +kernel
theorem dX5_init_56 : decode cX5_init 56 = .ok (.putfield 29, 3) := by decide +kernel
theorem dX5_init_59 : decode cX5_init 59 = .ok (.aload_n 0, 1) := by decide +kernel
theorem dX5_init_60 : decode cX5_init 60 = .ok (.iconst (-1), 1) := by decide +kernel
theorem dX5_init_61 : decode cX5_init 61 = .ok (.putfield 32, 3) := by decide +kernel
theorem dX5_init_64 : decode cX5_init 64 = .ok (.aload_n 0, 1) := by decide +kernel
theorem dX5_init_65 : decode cX5_init 65 = .ok (.iconst 0, 1) := by decide +kernel
theorem dX5_init_66 : decode cX5_init 66 = .ok (.putfield 35, 3) := by decide +kernel
theorem dX5_init_69 : decode cX5_init 69 = .ok (.aload_n 0, 1) := by decide +kernel
theorem dX5_init_70 : decode cX5_init 70 = .ok (.iconst 0, 1) := by decide +kernel
theorem dX5_init_71 : decode cX5_init 71 = .ok (.putfield 38, 3) := by decide +kernel
theorem dX5_init_74 : decode cX5_init 74 = .ok (.aload_n 0, 1) := by decide +kernel
theorem dX5_init_75 : decode cX5_init 75 = .ok (.iconst 0, 1) := by decide +kernel
theorem dX5_init_76 : decode cX5_init 76 = .ok (.putfield 41, 3) := by decide +kernel
theorem dX5_init_79 : decode cX5_init 79 = .ok (.aload_n 0, 1) := by decide +kernel
theorem dX5_init_80 : decode cX5_init 80 = .ok (.iconst 0, 1) := by decide +kernel
theorem dX5_init_81 : decode cX5_init 81 = .ok (.putfield 44, 3) := by decide +kernel
theorem dX5_init_84 : decode cX5_init 84 = .ok (.aload_n 0, 1) := by decide +kernel
theorem dX5_init_85 : decode cX5_init 85 = .ok (.iconst 0, 1) := by decide +kernel
theorem dX5_init_86 : decode cX5_init 86 = .ok (.putfield 47, 3) := by decide +kernel
theorem dX5_init_89 : decode cX5_init 89 = .ok (.aload_n 0, 1) := by decide +kernel
theorem dX5_init_90 : decode cX5_init 90 = .ok (.iconst 0, 1) := by decide +kernel
theorem dX5_init_91 : decode cX5_init 91 = .ok (.putfield 50, 3) := by decide +kernel
theorem dX5_init_94 : decode cX5_init 94 = .ok (.aload_n 0, 1) := by decide +kernel
theorem dX5_init_95 : decode cX5_init 95 = .ok (.bipush 40, 2) := by decide +kernel
theorem dX5_init_97 : decode cX5_init 97 = .ok (.newarray .int, 2) := by decide +kernel
theorem dX5_init_99 : decode cX5_init 99 = .ok (.putfield 54, 3) := by decide +kernel
theorem dX5_init_102 : decode cX5_init 102 = .ok (.aload_n 0, 1) := by decide +kernel
theorem dX5_init_103 : decode cX5_init 103 = .ok (.iconst 0, 1) := by decide +kernel
theorem dX5_init_104 : decode cX5_init 104 = .ok (.putfield 57, 3) := by decide +kernel
theorem dX5_init_107 : decode cX5_init 107 = .ok (.aload_n 0, 1) := by decide +kernel
theorem dX5_init_108 : decode cX5_init 108 = .ok (.bipush 60, 2) := by decide +kernel
theorem dX5_init_110 : decode cX5_init 110 = .ok (.newarray .int, 2) := by decide +kernel
theorem dX5_init_112 : decode cX5_init 112 = .ok (.putfield 60, 3) := by decide +kernel
theorem dX5_init_115 : decode cX5_init 115 = .ok (.aload_n 0, 1) := by decide +kernel
theorem dX5_init_116 : decode cX5_init 116 = .ok (.bipush 32, 2) := by decide +kernel
theorem dX5_init_118 : decode cX5_init 118 = .ok (.newarray .int, 2) := by decide +kernel
theorem dX5_init_120 : decode cX5_init 120 = .ok (.putfield 63, 3) := by decide +kernel
theorem dX5_init_123 : decode cX5_init 123 = .ok (.aload_n 0, 1) := by decide +kernel
theorem dX5_init_124 : decode cX5_init 124 = .ok (.bipush 96, 2) := by decide +kernel
theorem dX5_init_126 : decode cX5_init 126 = .ok (.newarray .int, 2) := by decide +kernel
theorem dX5_init_128 : decode cX5_init 128 = .ok (.putfield 66, 3) := by decide +kernel
theorem dX5_init_131 : decode cX5_init 131 = .ok (.aload_n 0, 1) := by decide +kernel
theorem dX5_init_132 : decode cX5_init 132 = .ok (.iconst 0, 1) := by decide +kernel
theorem dX5_init_133 : decode cX5_init 133 = .ok (.putfield 69, 3) := by decide +kernel
theorem dX5_init_136 : decode cX5_init 136 = .ok (.aload_n 0, 1) := by decide +kernel
theorem dX5_init_137 : decode cX5_init 137 = .ok (.iconst 0, 1) := by decide +kernel
theorem dX5_init_138 : decode cX5_init 138 = .ok (.putfield 72, 3) := by decide +kernel
theorem dX5_init_141 : decode cX5_init 141 = .ok (.aload_n 0, 1) := by decide +kernel
theorem dX5_init_142 : decode cX5_init 142 = .ok (.iconst 0, 1) := by decide +kernel
theorem dX5_init_143 : decode cX5_init 143 = .ok (.putfield 75, 3) := by decide +kernel
theorem dX5_init_146 : decode cX5_init 146 = .ok (.aload_n 0, 1) := by decide +kernel
theorem dX5_init_147 : decode cX5_init 147 = .ok (.iconst 0, 1) := by decide +kernel
theorem dX5_init_148 : decode cX5_init 148 = .ok (.putfield 78, 3) := by decide +kernel
theorem dX5_init_151 : decode cX5_init 151 = .ok (.aload_n 0, 1) := by decide +kernel
theorem dX5_init_152 : decode cX5_init 152 = .ok (.iconst 0, 1) := by decide +kernel
theorem dX5_init_153 : decode cX5_init 153 = .ok (.putfield 81, 3) := by decide +kernel
theorem dX5_init_156 : decode cX5_init 156 = .ok (.iconst 0, 1) := by decide +kernel
theorem dX5_init_157 : decode cX5_init 157 = .ok (.istore_n 1, 1) := by decide +kernel
theorem dX5_init_158 : decode cX5_init 158 = .ok (.iload_n 1, 1) := by decide +kernel
theorem dX5_init_159 : decode cX5_init 159 = .ok (.iconst 5, 1) := by decide +kernel
theorem dX5_init_160 : decode cX5_init 160 = .ok (.if_icmp .ge 19, 3) := by decide +kernel
theorem dX5_init_163 : decode cX5_init 163 = .ok (.aload_n 0, 1) := by decide +kernel
theorem dX5_init_164 : decode cX5_init 164 = .ok (.getfield 7, 3) := by decide +kernel
theorem dX5_init_167 : decode cX5_init 167 = .ok (.bipush 120, 2) := by decide +kernel
theorem dX5_init_169 : decode cX5_init 169 = .ok (.iload_n 1, 1) := by decide +kernel
theorem dX5_init_170 : decode cX5_init 170 = .ok (.iadd, 1) := by decide +kernel
theorem dX5_init_171 : decode cX5_init 171 = .ok (.iconst 3, 1) := by decide +kernel
theorem dX5_init_172 : decode cX5_init 172 = .ok (.iastore, 1) := by decide +kernel
theorem dX5_init_173 : decode cX5_init 173 = .ok (.iinc 1 1, 3) := by decide +kernel
theorem dX5_init_176 : decode cX5_init 176 = .ok (.goto (-18), 3) := by decide +kernel
theorem dX5_init_179 : decode cX5_init 179 = .ok (.return_, 1) := by decide +kernel
theorem dX5_thrown_0 : decode cX5_thrown 0 = .ok (.aload_n 0, 1) := by decide +kernel
theorem dX5_thrown_1 : decode cX5_thrown 1 = .ok (.getfield 25, 3) := by decide +kernel
theorem dX5_thrown_4 : decode cX5_thrown 4 = .ok (.ireturn, 1) := by decide +kernel
theorem dX5_in_0 : decode cX5_in 0 = .ok (.iload_n 0, 1) := by decide +kernel
theorem dX5_in_1 : decode cX5_in 1 = .ok (.iload_n 1, 1) := by decide +kernel
theorem dX5_in_2 : decode cX5_in 2 = .ok (.if_icmp .lt 12, 3) := by decide +kernel
theorem dX5_in_5 : decode cX5_in 5 = .ok (.iload_n 0, 1) := by decide +kernel
theorem dX5_in_6 : decode cX5_in 6 = .ok (.iload_n 2, 1) := by decide +kernel
theorem dX5_in_7 : decode cX5_in 7 = .ok (.if_icmp .gt 7, 3) := by decide +kernel
theorem dX5_in_10 : decode cX5_in 10 = .ok (.iconst 1, 1) := by decide +kernel
theorem dX5_in_11 : decode cX5_in 11 = .ok (.goto 4, 3) := by decide +kernel
theorem dX5_in_14 : decode cX5_in 14 = .ok (.iconst 0, 1) := by decide +kernel
theorem dX5_in_15 : decode cX5_in 15 = .ok (.ireturn, 1) := by decide +kernel
theorem dX5_copy_0 : decode cX5_copy 0 = .ok (.iconst 0, 1) := by decide +kernel
theorem dX5_copy_1 : decode cX5_copy 1 = .ok (.istore 4, 2) := by decide +kernel
theorem dX5_copy_3 : decode cX5_copy 3 = .ok (.iload 4, 2) := by decide +kernel
theorem dX5_copy_5 : decode cX5_copy 5 = .ok (.sipush 160, 3) := by decide +kernel
theorem dX5_copy_8 : decode cX5_copy 8 = .ok (.if_icmp .ge 21, 3) := by decide +kernel
theorem dX5_copy_11 : decode cX5_copy 11 = .ok (.aload_n 2, 1) := by decide +kernel
theorem dX5_copy_12 : decode cX5_copy 12 = .ok (.iload_n 3, 1) := by decide +kernel
theorem dX5_copy_13 : decode cX5_copy 13 = .ok (.iload 4, 2) := by decide +kernel
theorem dX5_copy_15 : decode cX5_copy 15 = .ok (.iadd, 1) := by decide +kernel
theorem dX5_copy_16 : decode cX5_copy 16 = .ok (.aload_n 0, 1) := by decide +kernel
theorem dX5_copy_17 : decode cX5_copy 17 = .ok (.iload_n 1, 1) := by decide +kernel
theorem dX5_copy_18 : decode cX5_copy 18 = .ok (.iload 4, 2) := by decide +kernel
theorem dX5_copy_20 : decode cX5_copy 20 = .ok (.iadd, 1) := by decide +kernel
theorem dX5_copy_21 : decode cX5_copy 21 = .ok (.iaload, 1) := by decide +kernel
theorem dX5_copy_22 : decode cX5_copy 22 = .ok (.iastore, 1) := by decide +kernel
theorem dX5_copy_23 : decode cX5_copy 23 = .ok (.iinc 4 1, 3) := by decide +kernel
theorem dX5_copy_26 : decode cX5_copy 26 = .ok (.goto (-23), 3) := by decide +kernel
theorem dX5_copy_29 : decode cX5_copy 29 = .ok (.return_, 1) := by decide +kernel
theorem dX5_fail_0 : decode cX5_fail 0 = .ok (.aload_n 0, 1) := by decide +kernel
theorem dX5_fail_1 : decode cX5_fail 1 = .ok (.iload_n 1, 1) := by decide +kernel
theorem dX5_fail_2 : decode cX5_fail 2 = .ok (.putfield 25, 3) := by decide +kernel
theorem dX5_fail_5 : decode cX5_fail 5 = .ok (.iconst 0, 1) := by decide +kernel
theorem dX5_fail_6 : decode cX5_fail 6 = .ok (.ireturn, 1) := by decide +kernel
theorem dX5_begin_0 : decode cX5_begin 0 = .ok (.aload_n 0, 1) := by decide +kernel
theorem dX5_begin_1 : decode cX5_begin 1 = .ok (.iconst 0, 1) := by decide +kernel
theorem dX5_begin_2 : decode cX5_begin 2 = .ok (.putfield 25, 3) := by decide +kernel
theorem dX5_begin_5 : decode cX5_begin 5 = .ok (.aload_n 0, 1) := by decide +kernel
theorem dX5_begin_6 : decode cX5_begin 6 = .ok (.getfield 7, 3) := by decide +kernel
theorem dX5_begin_9 : decode cX5_begin 9 = .ok (.iconst 0, 1) := by decide +kernel
theorem dX5_begin_10 : decode cX5_begin 10 = .ok (.aload_n 0, 1) := by decide +kernel
theorem dX5_begin_11 : decode cX5_begin 11 = .ok (.getfield 13, 3) := by decide +kernel
theorem dX5_begin_14 : decode cX5_begin 14 = .ok (.iconst 0, 1) := by decide +kernel
theorem dX5_begin_15 : decode cX5_begin 15 = .ok (.invokestatic 84, 3) := by decide +kernel
theorem dX5_begin_18 : decode cX5_begin 18 = .ok (.return_, 1) := by decide +kernel
theorem dX5_commit_0 : decode cX5_commit 0 = .ok (.aload_n 0, 1) := by decide +kernel
theorem dX5_commit_1 : decode cX5_commit 1 = .ok (.getfield 29, 3) := by decide +kernel
theorem dX5_commit_4 : decode cX5_commit 4 = .ok (.bipush 8, 2) := by decide +kernel
theorem dX5_commit_6 : decode cX5_commit 6 = .ok (.if_icmp .ne 50, 3) := by decide +kernel
theorem dX5_commit_9 : decode cX5_commit 9 = .ok (.iconst 1, 1) := by decide +kernel
theorem dX5_commit_10 : decode cX5_commit 10 = .ok (.istore_n 2, 1) := by decide +kernel
theorem dX5_commit_11 : decode cX5_commit 11 = .ok (.iload_n 2, 1) := by decide +kernel
theorem dX5_commit_12 : decode cX5_commit 12 = .ok (.bipush 8, 2) := by decide +kernel
theorem dX5_commit_14 : decode cX5_commit 14 = .ok (.if_icmp .ge 32, 3) := by decide +kernel
theorem dX5_commit_17 : decode cX5_commit 17 = .ok (.aload_n 0, 1) := by decide +kernel
theorem dX5_commit_18 : decode cX5_commit 18 = .ok (.getfield 22, 3) := by decide +kernel
theorem dX5_commit_21 : decode cX5_commit 21 = .ok (.sipush 160, 3) := by decide +kernel
theorem dX5_commit_24 : decode cX5_commit 24 = .ok (.iload_n 2, 1) := by decide +kernel
theorem dX5_commit_25 : decode cX5_commit 25 = .ok (.imul, 1) := by decide +kernel
theorem dX5_commit_26 : decode cX5_commit 26 = .ok (.aload_n 0, 1) := by decide +kernel
theorem dX5_commit_27 : decode cX5_commit 27 = .ok (.getfield 22, 3) := by decide +kernel
theorem dX5_commit_30 : decode cX5_commit 30 = .ok (.sipush 160, 3) := by decide +kernel
theorem dX5_commit_33 : decode cX5_commit 33 = .ok (.iload_n 2, 1) := by decide +kernel
theorem dX5_commit_34 : decode cX5_commit 34 = .ok (.iconst 1, 1) := by decide +kernel
theorem dX5_commit_35 : decode cX5_commit 35 = .ok (.isub, 1) := by decide +kernel
theorem dX5_commit_36 : decode cX5_commit 36 = .ok (.imul, 1) := by decide +kernel
theorem dX5_commit_37 : decode cX5_commit 37 = .ok (.invokestatic 84, 3) := by decide +kernel
theorem dX5_commit_40 : decode cX5_commit 40 = .ok (.iinc 2 1, 3) := by decide +kernel
theorem dX5_commit_43 : decode cX5_commit 43 = .ok (.goto (-32), 3) := by decide +kernel
theorem dX5_commit_46 : decode cX5_commit 46 = .ok (.aload_n 0, 1) := by decide +kernel
theorem dX5_commit_47 : decode cX5_commit 47 = .ok (.dup, 1) := by decide +kernel
theorem dX5_commit_48 : decode cX5_commit 48 = .ok (.getfield 29, 3) := by decide +kernel
theorem dX5_commit_51 : decode cX5_commit 51 = .ok (.iconst 1, 1) := by decide +kernel
theorem dX5_commit_52 : decode cX5_commit 52 = .ok (.isub, 1) := by decide +kernel
theorem dX5_commit_53 : decode cX5_commit 53 = .ok (.putfield 29, 3) := by decide +kernel
theorem dX5_commit_56 : decode cX5_commit 56 = .ok (.aload_n 0, 1) := by decide +kernel
theorem dX5_commit_57 : decode cX5_commit 57 = .ok (.getfield 13, 3) := by decide +kernel
theorem dX5_commit_60 : decode cX5_commit 60 = .ok (.iconst 0, 1) := by decide +kernel
theorem dX5_commit_61 : decode cX5_commit 61 = .ok (.aload_n 0, 1) := by decide +kernel
theorem dX5_commit_62 : decode cX5_commit 62 = .ok (.getfield 22, 3) := by decide +kernel
theorem dX5_commit_65 : decode cX5_commit 65 = .ok (.sipush 160, 3) := by decide +kernel
theorem dX5_commit_68 : decode cX5_commit 68 = .ok (.aload_n 0, 1) := by decide +kernel
theorem dX5_commit_69 : decode cX5_commit 69 = .ok (.getfield 29, 3) := by decide +kernel
theorem dX5_commit_72 : decode cX5_commit 72 = .ok (.imul, 1) := by decide +kernel
theorem dX5_commit_73 : decode cX5_commit 73 = .ok (.invokestatic 84, 3) := by decide +kernel
theorem dX5_commit_76 : decode cX5_commit 76 = .ok (.aload_n 0, 1) := by decide +kernel
theorem dX5_commit_77 : decode cX5_commit 77 = .ok (.dup, 1) := by decide +kernel
theorem dX5_commit_78 : decode cX5_commit 78 = .ok (.getfield 29, 3) := by decide +kernel
theorem dX5_commit_81 : decode cX5_commit 81 = .ok (.iconst 1, 1) := by decide +kernel
theorem dX5_commit_82 : decode cX5_commit 82 = .ok (.iadd, 1) := by decide +kernel
theorem dX5_commit_83 : decode cX5_commit 83 = .ok (.putfield 29, 3) := by decide +kernel
theorem dX5_commit_86 : decode cX5_commit 86 = .ok (.iload_n 1, 1) := by decide +kernel
theorem dX5_commit_87 : decode cX5_commit 87 = .ok (.ireturn, 1) := by decide +kernel
theorem dX5_notes_0 : decode cX5_notes 0 = .ok (.iload_n 1, 1) := by decide +kernel
theorem dX5_notes_1 : decode cX5_notes 1 = .ok (.ifCond .ne 5, 3) := by decide +kernel
theorem dX5_notes_4 : decode cX5_notes 4 = .ok (.iconst 0, 1) := by decide +kernel
theorem dX5_notes_5 : decode cX5_notes 5 = .ok (.ireturn, 1) := by decide +kernel
theorem dX5_notes_6 : decode cX5_notes 6 = .ok (.aload_n 0, 1) := by decide +kernel
theorem dX5_notes_7 : decode cX5_notes 7 = .ok (.iload_n 2, 1) := by decide +kernel
theorem dX5_notes_8 : decode cX5_notes 8 = .ok (.putfield 44, 3) := by decide +kernel
theorem dX5_notes_11 : decode cX5_notes 11 = .ok (.aload_n 0, 1) := by decide +kernel
theorem dX5_notes_12 : decode cX5_notes 12 = .ok (.iload_n 3, 1) := by decide +kernel
theorem dX5_notes_13 : decode cX5_notes 13 = .ok (.putfield 47, 3) := by decide +kernel
theorem dX5_notes_16 : decode cX5_notes 16 = .ok (.iconst 1, 1) := by decide +kernel
theorem dX5_notes_17 : decode cX5_notes 17 = .ok (.ireturn, 1) := by decide +kernel
theorem dX5_reject_0 : decode cX5_reject 0 = .ok (.aload_n 0, 1) := by decide +kernel
theorem dX5_reject_1 : decode cX5_reject 1 = .ok (.aload_n 0, 1) := by decide +kernel
theorem dX5_reject_2 : decode cX5_reject 2 = .ok (.getfield 44, 3) := by decide +kernel
theorem dX5_reject_5 : decode cX5_reject 5 = .ok (.putfield 35, 3) := by decide +kernel
theorem dX5_reject_8 : decode cX5_reject 8 = .ok (.aload_n 0, 1) := by decide +kernel
theorem dX5_reject_9 : decode cX5_reject 9 = .ok (.aload_n 0, 1) := by decide +kernel
theorem dX5_reject_10 : decode cX5_reject 10 = .ok (.getfield 47, 3) := by decide +kernel
theorem dX5_reject_13 : decode cX5_reject 13 = .ok (.putfield 38, 3) := by decide +kernel
theorem dX5_reject_16 : decode cX5_reject 16 = .ok (.aload_n 0, 1) := by decide +kernel
theorem dX5_reject_17 : decode cX5_reject 17 = .ok (.iconst 0, 1) := by decide +kernel
theorem dX5_reject_18 : decode cX5_reject 18 = .ok (.putfield 41, 3) := by decide +kernel
theorem dX5_reject_21 : decode cX5_reject 21 = .ok (.aload_n 0, 1) := by decide +kernel
theorem dX5_reject_22 : decode cX5_reject 22 = .ok (.iload_n 1, 1) := by decide +kernel
theorem dX5_reject_23 : decode cX5_reject 23 = .ok (.invokevirtual 88, 3) := by decide +kernel
theorem dX5_reject_26 : decode cX5_reject 26 = .ok (.ireturn, 1) := by decide +kernel
theorem dX5_s_0 : decode cX5_s 0 = .ok (.aload_n 0, 1) := by decide +kernel
theorem dX5_s_1 : decode cX5_s 1 = .ok (.getfield 7, 3) := by decide +kernel
theorem dX5_s_4 : decode cX5_s 4 = .ok (.bipush 8, 2) := by decide +kernel
theorem dX5_s_6 : decode cX5_s 6 = .ok (.bipush 8, 2) := by decide +kernel
theorem dX5_s_8 : decode cX5_s 8 = .ok (.iload_n 1, 1) := by decide +kernel
theorem dX5_s_9 : decode cX5_s 9 = .ok (.imul, 1) := by decide +kernel
theorem dX5_s_10 : decode cX5_s 10 = .ok (.iadd, 1) := by decide +kernel
theorem dX5_s_11 : decode cX5_s 11 = .ok (.iload_n 2, 1) := by decide +kernel
theorem dX5_s_12 : decode cX5_s 12 = .ok (.iadd, 1) := by decide +kernel
theorem dX5_s_13 : decode cX5_s 13 = .ok (.iaload, 1) := by decide +kernel
theorem dX5_s_14 : decode cX5_s 14 = .ok (.ireturn, 1) := by decide +kernel
theorem dX5_set_0 : decode cX5_set 0 = .ok (.aload_n 0, 1) := by decide +kernel
theorem dX5_set_1 : decode cX5_set 1 = .ok (.getfield 7, 3) := by decide +kernel
theorem dX5_set_4 : decode cX5_set 4 = .ok (.bipush 8, 2) := by decide +kernel
theorem dX5_set_6 : decode cX5_set 6 = .ok (.bipush 8, 2) := by decide +kernel
theorem dX5_set_8 : decode cX5_set 8 = .ok (.iload_n 1, 1) := by decide +kernel
theorem dX5_set_9 : decode cX5_set 9 = .ok (.imul, 1) := by decide +kernel
theorem dX5_set_10 : decode cX5_set 10 = .ok (.iadd, 1) := by decide +kernel
theorem dX5_set_11 : decode cX5_set 11 = .ok (.iload_n 2, 1) := by decide +kernel
theorem dX5_set_12 : decode cX5_set 12 = .ok (.iadd, 1) := by decide +kernel
theorem dX5_set_13 : decode cX5_set 13 = .ok (.iload_n 3, 1) := by decide +kernel
theorem dX5_set_14 : decode cX5_set 14 = .ok (.iastore, 1) := by decide +kernel
theorem dX5_set_15 : decode cX5_set 15 = .ok (.return_, 1) := by decide +kernel
theorem dX5_isSock_0 : decode cX5_isSock 0 = .ok (.iload_n 1, 1) := by decide +kernel
theorem dX5_isSock_1 : decode cX5_isSock 1 = .ok (.iconst 0, 1) := by decide +kernel
theorem dX5_isSock_2 : decode cX5_isSock 2 = .ok (.aload_n 0, 1) := by decide +kernel
theorem dX5_isSock_3 : decode cX5_isSock 3 = .ok (.getfield 7, 3) := by decide +kernel
theorem dX5_isSock_6 : decode cX5_isSock 6 = .ok (.iconst 0, 1) := by decide +kernel
theorem dX5_isSock_7 : decode cX5_isSock 7 = .ok (.iaload, 1) := by decide +kernel
theorem dX5_isSock_8 : decode cX5_isSock 8 = .ok (.iconst 1, 1) := by decide +kernel
theorem dX5_isSock_9 : decode cX5_isSock 9 = .ok (.isub, 1) := by decide +kernel
theorem dX5_isSock_10 : decode cX5_isSock 10 = .ok (.invokestatic 92, 3) := by decide +kernel
theorem dX5_isSock_13 : decode cX5_isSock 13 = .ok (.ireturn, 1) := by decide +kernel
theorem dX5_isDrawer_0 : decode cX5_isDrawer 0 = .ok (.iload_n 0, 1) := by decide +kernel
theorem dX5_isDrawer_1 : decode cX5_isDrawer 1 = .ok (.iconst 0, 1) := by decide +kernel
theorem dX5_isDrawer_2 : decode cX5_isDrawer 2 = .ok (.iconst 4, 1) := by decide +kernel
theorem dX5_isDrawer_3 : decode cX5_isDrawer 3 = .ok (.invokestatic 92, 3) := by decide +kernel
theorem dX5_isDrawer_6 : decode cX5_isDrawer 6 = .ok (.ireturn, 1) := by decide +kernel
theorem dX5_bitOf_0 : decode cX5_bitOf 0 = .ok (.iload_n 0, 1) := by decide +kernel
theorem dX5_bitOf_1 : decode cX5_bitOf 1 = .ok (.bipush 114, 2) := by decide +kernel
theorem dX5_bitOf_3 : decode cX5_bitOf 3 = .ok (.if_icmp .ne 7, 3) := by decide +kernel
theorem dX5_bitOf_6 : decode cX5_bitOf 6 = .ok (.iconst 1, 1) := by decide +kernel
theorem dX5_bitOf_7 : decode cX5_bitOf 7 = .ok (.goto 35, 3) := by decide +kernel
theorem dX5_bitOf_10 : decode cX5_bitOf 10 = .ok (.iload_n 0, 1) := by decide +kernel
theorem dX5_bitOf_11 : decode cX5_bitOf 11 = .ok (.bipush 103, 2) := by decide +kernel
theorem dX5_bitOf_13 : decode cX5_bitOf 13 = .ok (.if_icmp .ne 7, 3) := by decide +kernel
theorem dX5_bitOf_16 : decode cX5_bitOf 16 = .ok (.iconst 2, 1) := by decide +kernel
theorem dX5_bitOf_17 : decode cX5_bitOf 17 = .ok (.goto 25, 3) := by decide +kernel
theorem dX5_bitOf_20 : decode cX5_bitOf 20 = .ok (.iload_n 0, 1) := by decide +kernel
theorem dX5_bitOf_21 : decode cX5_bitOf 21 = .ok (.bipush 98, 2) := by decide +kernel
theorem dX5_bitOf_23 : decode cX5_bitOf 23 = .ok (.if_icmp .ne 7, 3) := by decide +kernel
theorem dX5_bitOf_26 : decode cX5_bitOf 26 = .ok (.iconst 4, 1) := by decide +kernel
theorem dX5_bitOf_27 : decode cX5_bitOf 27 = .ok (.goto 15, 3) := by decide +kernel
theorem dX5_bitOf_30 : decode cX5_bitOf 30 = .ok (.iload_n 0, 1) := by decide +kernel
theorem dX5_bitOf_31 : decode cX5_bitOf 31 = .ok (.bipush 119, 2) := by decide +kernel
theorem dX5_bitOf_33 : decode cX5_bitOf 33 = .ok (.if_icmp .ne 8, 3) := by decide +kernel
theorem dX5_bitOf_36 : decode cX5_bitOf 36 = .ok (.bipush 8, 2) := by decide +kernel
theorem dX5_bitOf_38 : decode cX5_bitOf 38 = .ok (.goto 4, 3) := by decide +kernel
theorem dX5_bitOf_41 : decode cX5_bitOf 41 = .ok (.iconst 0, 1) := by decide +kernel
theorem dX5_bitOf_42 : decode cX5_bitOf 42 = .ok (.ireturn, 1) := by decide +kernel
theorem dX5_is_0 : decode cX5_is 0 = .ok (.aload_n 0, 1) := by decide +kernel
theorem dX5_is_1 : decode cX5_is 1 = .ok (.iload_n 1, 1) := by decide +kernel
theorem dX5_is_2 : decode cX5_is 2 = .ok (.iconst 2, 1) := by decide +kernel
theorem dX5_is_3 : decode cX5_is 3 = .ok (.invokevirtual 96, 3) := by decide +kernel
theorem dX5_is_6 : decode cX5_is 6 = .ok (.iload_n 2, 1) := by decide +kernel
theorem dX5_is_7 : decode cX5_is 7 = .ok (.if_icmp .ne 7, 3) := by decide +kernel
theorem dX5_is_10 : decode cX5_is 10 = .ok (.iconst 1, 1) := by decide +kernel
theorem dX5_is_11 : decode cX5_is 11 = .ok (.goto 4, 3) := by decide +kernel
theorem dX5_is_14 : decode cX5_is 14 = .ok (.iconst 0, 1) := by decide +kernel
theorem dX5_is_15 : decode cX5_is 15 = .ok (.ireturn, 1) := by decide +kernel
theorem dX5_livesIn_0 : decode cX5_livesIn 0 = .ok (.aload_n 0, 1) := by decide +kernel
theorem dX5_livesIn_1 : decode cX5_livesIn 1 = .ok (.iload_n 1, 1) := by decide +kernel
theorem dX5_livesIn_2 : decode cX5_livesIn 2 = .ok (.iconst 3, 1) := by decide +kernel
theorem dX5_livesIn_3 : decode cX5_livesIn 3 = .ok (.invokevirtual 100, 3) := by decide +kernel
theorem dX5_livesIn_6 : decode cX5_livesIn 6 = .ok (.ifCond .eq 17, 3) := by decide +kernel
theorem dX5_livesIn_9 : decode cX5_livesIn 9 = .ok (.aload_n 0, 1) := by decide +kernel
theorem dX5_livesIn_10 : decode cX5_livesIn 10 = .ok (.iload_n 1, 1) := by decide +kernel
theorem dX5_livesIn_11 : decode cX5_livesIn 11 = .ok (.iconst 3, 1) := by decide +kernel
theorem dX5_livesIn_12 : decode cX5_livesIn 12 = .ok (.invokevirtual 96, 3) := by decide +kernel
theorem dX5_livesIn_15 : decode cX5_livesIn 15 = .ok (.iload_n 2, 1) := by decide +kernel
theorem dX5_livesIn_16 : decode cX5_livesIn 16 = .ok (.if_icmp .ne 7, 3) := by decide +kernel
theorem dX5_livesIn_19 : decode cX5_livesIn 19 = .ok (.iconst 1, 1) := by decide +kernel
theorem dX5_livesIn_20 : decode cX5_livesIn 20 = .ok (.goto 4, 3) := by decide +kernel
theorem dX5_livesIn_23 : decode cX5_livesIn 23 = .ok (.iconst 0, 1) := by decide +kernel
theorem dX5_livesIn_24 : decode cX5_livesIn 24 = .ok (.ireturn, 1) := by decide +kernel
theorem dX5_asksFor_0 : decode cX5_asksFor 0 = .ok (.aload_n 0, 1) := by decide +kernel
theorem dX5_asksFor_1 : decode cX5_asksFor 1 = .ok (.iload_n 1, 1) := by decide +kernel
theorem dX5_asksFor_2 : decode cX5_asksFor 2 = .ok (.iconst 1, 1) := by decide +kernel
theorem dX5_asksFor_3 : decode cX5_asksFor 3 = .ok (.invokevirtual 100, 3) := by decide +kernel
theorem dX5_asksFor_6 : decode cX5_asksFor 6 = .ok (.ifCond .eq 17, 3) := by decide +kernel
theorem dX5_asksFor_9 : decode cX5_asksFor 9 = .ok (.aload_n 0, 1) := by decide +kernel
theorem dX5_asksFor_10 : decode cX5_asksFor 10 = .ok (.iload_n 1, 1) := by decide +kernel
theorem dX5_asksFor_11 : decode cX5_asksFor 11 = .ok (.iconst 3, 1) := by decide +kernel
theorem dX5_asksFor_12 : decode cX5_asksFor 12 = .ok (.invokevirtual 96, 3) := by decide +kernel
theorem dX5_asksFor_15 : decode cX5_asksFor 15 = .ok (.iload_n 2, 1) := by decide +kernel
theorem dX5_asksFor_16 : decode cX5_asksFor 16 = .ok (.if_icmp .ne 7, 3) := by decide +kernel
theorem dX5_asksFor_19 : decode cX5_asksFor 19 = .ok (.iconst 1, 1) := by decide +kernel
theorem dX5_asksFor_20 : decode cX5_asksFor 20 = .ok (.goto 4, 3) := by decide +kernel
theorem dX5_asksFor_23 : decode cX5_asksFor 23 = .ok (.iconst 0, 1) := by decide +kernel
theorem dX5_asksFor_24 : decode cX5_asksFor 24 = .ok (.ireturn, 1) := by decide +kernel
theorem dX5_isPaired_0 : decode cX5_isPaired 0 = .ok (.aload_n 0, 1) := by decide +kernel
theorem dX5_isPaired_1 : decode cX5_isPaired 1 = .ok (.iload_n 1, 1) := by decide +kernel
theorem dX5_isPaired_2 : decode cX5_isPaired 2 = .ok (.bipush 7, 2) := by decide +kernel
theorem dX5_isPaired_4 : decode cX5_isPaired 4 = .ok (.invokevirtual 96, 3) := by decide +kernel
theorem dX5_isPaired_7 : decode cX5_isPaired 7 = .ok (.ifCond .lt 7, 3) := by decide +kernel
theorem dX5_isPaired_10 : decode cX5_isPaired 10 = .ok (.iconst 1, 1) := by decide +kernel
theorem dX5_isPaired_11 : decode cX5_isPaired 11 = .ok (.goto 4, 3) := by decide +kernel
theorem dX5_isPaired_14 : decode cX5_isPaired 14 = .ok (.iconst 0, 1) := by decide +kernel
theorem dX5_isPaired_15 : decode cX5_isPaired 15 = .ok (.ireturn, 1) := by decide +kernel
theorem dX5_fits_0 : decode cX5_fits 0 = .ok (.iload_n 1, 1) := by decide +kernel
theorem dX5_fits_1 : decode cX5_fits 1 = .ok (.iload_n 2, 1) := by decide +kernel
theorem dX5_fits_2 : decode cX5_fits 2 = .ok (.if_icmp .eq 59, 3) := by decide +kernel
theorem dX5_fits_5 : decode cX5_fits 5 = .ok (.aload_n 0, 1) := by decide +kernel
theorem dX5_fits_6 : decode cX5_fits 6 = .ok (.iload_n 1, 1) := by decide +kernel
theorem dX5_fits_7 : decode cX5_fits 7 = .ok (.iconst 1, 1) := by decide +kernel
theorem dX5_fits_8 : decode cX5_fits 8 = .ok (.invokevirtual 96, 3) := by decide +kernel
theorem dX5_fits_11 : decode cX5_fits 11 = .ok (.aload_n 0, 1) := by decide +kernel
theorem dX5_fits_12 : decode cX5_fits 12 = .ok (.iload_n 2, 1) := by decide +kernel
theorem dX5_fits_13 : decode cX5_fits 13 = .ok (.iconst 1, 1) := by decide +kernel
theorem dX5_fits_14 : decode cX5_fits 14 = .ok (.invokevirtual 96, 3) := by decide +kernel
theorem dX5_fits_17 : decode cX5_fits 17 = .ok (.if_icmp .ne 44, 3) := by decide +kernel
theorem dX5_fits_20 : decode cX5_fits 20 = .ok (.aload_n 0, 1) := by decide +kernel
theorem dX5_fits_21 : decode cX5_fits 21 = .ok (.iload_n 1, 1) := by decide +kernel
theorem dX5_fits_22 : decode cX5_fits 22 = .ok (.iconst 0, 1) := by decide +kernel
theorem dX5_fits_23 : decode cX5_fits 23 = .ok (.invokevirtual 96, 3) := by decide +kernel
theorem dX5_fits_26 : decode cX5_fits 26 = .ok (.aload_n 0, 1) := by decide +kernel
theorem dX5_fits_27 : decode cX5_fits 27 = .ok (.iload_n 2, 1) := by decide +kernel
theorem dX5_fits_28 : decode cX5_fits 28 = .ok (.iconst 0, 1) := by decide +kernel
theorem dX5_fits_29 : decode cX5_fits 29 = .ok (.invokevirtual 96, 3) := by decide +kernel
theorem dX5_fits_32 : decode cX5_fits 32 = .ok (.if_icmp .eq 25, 3) := by decide +kernel
theorem dX5_fits_35 : decode cX5_fits 35 = .ok (.aload_n 0, 1) := by decide +kernel
theorem dX5_fits_36 : decode cX5_fits 36 = .ok (.iload_n 1, 1) := by decide +kernel
theorem dX5_fits_37 : decode cX5_fits 37 = .ok (.iconst 0, 1) := by decide +kernel
theorem dX5_fits_38 : decode cX5_fits 38 = .ok (.invokevirtual 96, 3) := by decide +kernel
theorem dX5_fits_41 : decode cX5_fits 41 = .ok (.bipush 119, 2) := by decide +kernel
theorem dX5_fits_43 : decode cX5_fits 43 = .ok (.if_icmp .eq 14, 3) := by decide +kernel
theorem dX5_fits_46 : decode cX5_fits 46 = .ok (.aload_n 0, 1) := by decide +kernel
theorem dX5_fits_47 : decode cX5_fits 47 = .ok (.iload_n 2, 1) := by decide +kernel
theorem dX5_fits_48 : decode cX5_fits 48 = .ok (.iconst 0, 1) := by decide +kernel
theorem dX5_fits_49 : decode cX5_fits 49 = .ok (.invokevirtual 96, 3) := by decide +kernel
theorem dX5_fits_52 : decode cX5_fits 52 = .ok (.bipush 119, 2) := by decide +kernel
theorem dX5_fits_54 : decode cX5_fits 54 = .ok (.if_icmp .ne 7, 3) := by decide +kernel
theorem dX5_fits_57 : decode cX5_fits 57 = .ok (.iconst 1, 1) := by decide +kernel
theorem dX5_fits_58 : decode cX5_fits 58 = .ok (.goto 4, 3) := by decide +kernel
theorem dX5_fits_61 : decode cX5_fits 61 = .ok (.iconst 0, 1) := by decide +kernel
theorem dX5_fits_62 : decode cX5_fits 62 = .ok (.ireturn, 1) := by decide +kernel
theorem dX5_livingIn_0 : decode cX5_livingIn 0 = .ok (.iconst 0, 1) := by decide +kernel
theorem dX5_livingIn_1 : decode cX5_livingIn 1 = .ok (.istore_n 2, 1) := by decide +kernel
theorem dX5_livingIn_2 : decode cX5_livingIn 2 = .ok (.iconst 0, 1) := by decide +kernel
theorem dX5_livingIn_3 : decode cX5_livingIn 3 = .ok (.istore_n 3, 1) := by decide +kernel
theorem dX5_livingIn_4 : decode cX5_livingIn 4 = .ok (.iload_n 3, 1) := by decide +kernel
theorem dX5_livingIn_5 : decode cX5_livingIn 5 = .ok (.aload_n 0, 1) := by decide +kernel
theorem dX5_livingIn_6 : decode cX5_livingIn 6 = .ok (.getfield 7, 3) := by decide +kernel
theorem dX5_livingIn_9 : decode cX5_livingIn 9 = .ok (.iconst 0, 1) := by decide +kernel
theorem dX5_livingIn_10 : decode cX5_livingIn 10 = .ok (.iaload, 1) := by decide +kernel
theorem dX5_livingIn_11 : decode cX5_livingIn 11 = .ok (.if_icmp .ge 26, 3) := by decide +kernel
theorem dX5_livingIn_14 : decode cX5_livingIn 14 = .ok (.iload_n 2, 1) := by decide +kernel
theorem dX5_livingIn_15 : decode cX5_livingIn 15 = .ok (.aload_n 0, 1) := by decide +kernel
theorem dX5_livingIn_16 : decode cX5_livingIn 16 = .ok (.iload_n 3, 1) := by decide +kernel
theorem dX5_livingIn_17 : decode cX5_livingIn 17 = .ok (.iload_n 1, 1) := by decide +kernel
theorem dX5_livingIn_18 : decode cX5_livingIn 18 = .ok (.invokevirtual 104, 3) := by decide +kernel
theorem dX5_livingIn_21 : decode cX5_livingIn 21 = .ok (.ifCond .eq 7, 3) := by decide +kernel
theorem dX5_livingIn_24 : decode cX5_livingIn 24 = .ok (.iconst 1, 1) := by decide +kernel
theorem dX5_livingIn_25 : decode cX5_livingIn 25 = .ok (.goto 4, 3) := by decide +kernel
theorem dX5_livingIn_28 : decode cX5_livingIn 28 = .ok (.iconst 0, 1) := by decide +kernel
theorem dX5_livingIn_29 : decode cX5_livingIn 29 = .ok (.iadd, 1) := by decide +kernel
theorem dX5_livingIn_30 : decode cX5_livingIn 30 = .ok (.istore_n 2, 1) := by decide +kernel
theorem dX5_livingIn_31 : decode cX5_livingIn 31 = .ok (.iinc 3 1, 3) := by decide +kernel
theorem dX5_livingIn_34 : decode cX5_livingIn 34 = .ok (.goto (-30), 3) := by decide +kernel
theorem dX5_livingIn_37 : decode cX5_livingIn 37 = .ok (.iload_n 2, 1) := by decide +kernel
theorem dX5_livingIn_38 : decode cX5_livingIn 38 = .ok (.ireturn, 1) := by decide +kernel
theorem dX5_askingFor_0 : decode cX5_askingFor 0 = .ok (.iconst 0, 1) := by decide +kernel
theorem dX5_askingFor_1 : decode cX5_askingFor 1 = .ok (.istore_n 2, 1) := by decide +kernel
theorem dX5_askingFor_2 : decode cX5_askingFor 2 = .ok (.iconst 0, 1) := by decide +kernel
theorem dX5_askingFor_3 : decode cX5_askingFor 3 = .ok (.istore_n 3, 1) := by decide +kernel
theorem dX5_askingFor_4 : decode cX5_askingFor 4 = .ok (.iload_n 3, 1) := by decide +kernel
theorem dX5_askingFor_5 : decode cX5_askingFor 5 = .ok (.aload_n 0, 1) := by decide +kernel
theorem dX5_askingFor_6 : decode cX5_askingFor 6 = .ok (.getfield 7, 3) := by decide +kernel
theorem dX5_askingFor_9 : decode cX5_askingFor 9 = .ok (.iconst 0, 1) := by decide +kernel
theorem dX5_askingFor_10 : decode cX5_askingFor 10 = .ok (.iaload, 1) := by decide +kernel
theorem dX5_askingFor_11 : decode cX5_askingFor 11 = .ok (.if_icmp .ge 26, 3) := by decide +kernel
theorem dX5_askingFor_14 : decode cX5_askingFor 14 = .ok (.iload_n 2, 1) := by decide +kernel
theorem dX5_askingFor_15 : decode cX5_askingFor 15 = .ok (.aload_n 0, 1) := by decide +kernel
theorem dX5_askingFor_16 : decode cX5_askingFor 16 = .ok (.iload_n 3, 1) := by decide +kernel
theorem dX5_askingFor_17 : decode cX5_askingFor 17 = .ok (.iload_n 1, 1) := by decide +kernel
theorem dX5_askingFor_18 : decode cX5_askingFor 18 = .ok (.invokevirtual 107, 3) := by decide +kernel
theorem dX5_askingFor_21 : decode cX5_askingFor 21 = .ok (.ifCond .eq 7, 3) := by decide +kernel
theorem dX5_askingFor_24 : decode cX5_askingFor 24 = .ok (.iconst 1, 1) := by decide +kernel
theorem dX5_askingFor_25 : decode cX5_askingFor 25 = .ok (.goto 4, 3) := by decide +kernel
theorem dX5_askingFor_28 : decode cX5_askingFor 28 = .ok (.iconst 0, 1) := by decide +kernel
theorem dX5_askingFor_29 : decode cX5_askingFor 29 = .ok (.iadd, 1) := by decide +kernel
theorem dX5_askingFor_30 : decode cX5_askingFor 30 = .ok (.istore_n 2, 1) := by decide +kernel
theorem dX5_askingFor_31 : decode cX5_askingFor 31 = .ok (.iinc 3 1, 3) := by decide +kernel
theorem dX5_askingFor_34 : decode cX5_askingFor 34 = .ok (.goto (-30), 3) := by decide +kernel
theorem dX5_askingFor_37 : decode cX5_askingFor 37 = .ok (.iload_n 2, 1) := by decide +kernel
theorem dX5_askingFor_38 : decode cX5_askingFor 38 = .ok (.ireturn, 1) := by decide +kernel
theorem dX5_pairsIn_0 : decode cX5_pairsIn 0 = .ok (.iconst 0, 1) := by decide +kernel
theorem dX5_pairsIn_1 : decode cX5_pairsIn 1 = .ok (.istore_n 2, 1) := by decide +kernel
theorem dX5_pairsIn_2 : decode cX5_pairsIn 2 = .ok (.iconst 0, 1) := by decide +kernel
theorem dX5_pairsIn_3 : decode cX5_pairsIn 3 = .ok (.istore_n 3, 1) := by decide +kernel
theorem dX5_pairsIn_4 : decode cX5_pairsIn 4 = .ok (.iload_n 3, 1) := by decide +kernel
theorem dX5_pairsIn_5 : decode cX5_pairsIn 5 = .ok (.aload_n 0, 1) := by decide +kernel
theorem dX5_pairsIn_6 : decode cX5_pairsIn 6 = .ok (.getfield 7, 3) := by decide +kernel
theorem dX5_pairsIn_9 : decode cX5_pairsIn 9 = .ok (.iconst 0, 1) := by decide +kernel
theorem dX5_pairsIn_10 : decode cX5_pairsIn 10 = .ok (.iaload, 1) := by decide +kernel
theorem dX5_pairsIn_11 : decode cX5_pairsIn 11 = .ok (.if_icmp .ge 34, 3) := by decide +kernel
theorem dX5_pairsIn_14 : decode cX5_pairsIn 14 = .ok (.iload_n 2, 1) := by decide +kernel
theorem dX5_pairsIn_15 : decode cX5_pairsIn 15 = .ok (.aload_n 0, 1) := by decide +kernel
theorem dX5_pairsIn_16 : decode cX5_pairsIn 16 = .ok (.iload_n 3, 1) := by decide +kernel
theorem dX5_pairsIn_17 : decode cX5_pairsIn 17 = .ok (.iload_n 1, 1) := by decide +kernel
theorem dX5_pairsIn_18 : decode cX5_pairsIn 18 = .ok (.invokevirtual 104, 3) := by decide +kernel
theorem dX5_pairsIn_21 : decode cX5_pairsIn 21 = .ok (.ifCond .eq 15, 3) := by decide +kernel
theorem dX5_pairsIn_24 : decode cX5_pairsIn 24 = .ok (.aload_n 0, 1) := by decide +kernel
theorem dX5_pairsIn_25 : decode cX5_pairsIn 25 = .ok (.iload_n 3, 1) := by decide +kernel
theorem dX5_pairsIn_26 : decode cX5_pairsIn 26 = .ok (.invokevirtual 110, 3) := by decide +kernel
theorem dX5_pairsIn_29 : decode cX5_pairsIn 29 = .ok (.ifCond .eq 7, 3) := by decide +kernel
theorem dX5_pairsIn_32 : decode cX5_pairsIn 32 = .ok (.iconst 1, 1) := by decide +kernel
theorem dX5_pairsIn_33 : decode cX5_pairsIn 33 = .ok (.goto 4, 3) := by decide +kernel
theorem dX5_pairsIn_36 : decode cX5_pairsIn 36 = .ok (.iconst 0, 1) := by decide +kernel
theorem dX5_pairsIn_37 : decode cX5_pairsIn 37 = .ok (.iadd, 1) := by decide +kernel
theorem dX5_pairsIn_38 : decode cX5_pairsIn 38 = .ok (.istore_n 2, 1) := by decide +kernel
theorem dX5_pairsIn_39 : decode cX5_pairsIn 39 = .ok (.iinc 3 1, 3) := by decide +kernel
theorem dX5_pairsIn_42 : decode cX5_pairsIn 42 = .ok (.goto (-38), 3) := by decide +kernel
theorem dX5_pairsIn_45 : decode cX5_pairsIn 45 = .ok (.iload_n 2, 1) := by decide +kernel
theorem dX5_pairsIn_46 : decode cX5_pairsIn 46 = .ok (.iconst 2, 1) := by decide +kernel
theorem dX5_pairsIn_47 : decode cX5_pairsIn 47 = .ok (.idiv, 1) := by decide +kernel
theorem dX5_pairsIn_48 : decode cX5_pairsIn 48 = .ok (.ireturn, 1) := by decide +kernel
theorem dX5_isShut_0 : decode cX5_isShut 0 = .ok (.aload_n 0, 1) := by decide +kernel
theorem dX5_isShut_1 : decode cX5_isShut 1 = .ok (.getfield 7, 3) := by decide +kernel
theorem dX5_isShut_4 : decode cX5_isShut 4 = .ok (.bipush 125, 2) := by decide +kernel
theorem dX5_isShut_6 : decode cX5_isShut 6 = .ok (.iload_n 1, 1) := by decide +kernel
theorem dX5_isShut_7 : decode cX5_isShut 7 = .ok (.iadd, 1) := by decide +kernel
theorem dX5_isShut_8 : decode cX5_isShut 8 = .ok (.iaload, 1) := by decide +kernel
theorem dX5_isShut_9 : decode cX5_isShut 9 = .ok (.iload_n 2, 1) := by decide +kernel
theorem dX5_isShut_10 : decode cX5_isShut 10 = .ok (.invokestatic 114, 3) := by decide +kernel
theorem dX5_isShut_13 : decode cX5_isShut 13 = .ok (.iand, 1) := by decide +kernel
theorem dX5_isShut_14 : decode cX5_isShut 14 = .ok (.ifCond .le 7, 3) := by decide +kernel
theorem dX5_isShut_17 : decode cX5_isShut 17 = .ok (.iconst 1, 1) := by decide +kernel
theorem dX5_isShut_18 : decode cX5_isShut 18 = .ok (.goto 4, 3) := by decide +kernel
theorem dX5_isShut_21 : decode cX5_isShut 21 = .ok (.iconst 0, 1) := by decide +kernel
theorem dX5_isShut_22 : decode cX5_isShut 22 = .ok (.ireturn, 1) := by decide +kernel
theorem dX5_sendsAway_0 : decode cX5_sendsAway 0 = .ok (.aload_n 0, 1) := by decide +kernel
theorem dX5_sendsAway_1 : decode cX5_sendsAway 1 = .ok (.iload_n 1, 1) := by decide +kernel
theorem dX5_sendsAway_2 : decode cX5_sendsAway 2 = .ok (.iconst 2, 1) := by decide +kernel
theorem dX5_sendsAway_3 : decode cX5_sendsAway 3 = .ok (.iconst 0, 1) := by decide +kernel
theorem dX5_sendsAway_4 : decode cX5_sendsAway 4 = .ok (.invokevirtual 117, 3) := by decide +kernel
theorem dX5_sendsAway_7 : decode cX5_sendsAway 7 = .ok (.aload_n 0, 1) := by decide +kernel
theorem dX5_sendsAway_8 : decode cX5_sendsAway 8 = .ok (.iload_n 1, 1) := by decide +kernel
theorem dX5_sendsAway_9 : decode cX5_sendsAway 9 = .ok (.iconst 3, 1) := by decide +kernel
theorem dX5_sendsAway_10 : decode cX5_sendsAway 10 = .ok (.iconst 0, 1) := by decide +kernel
theorem dX5_sendsAway_11 : decode cX5_sendsAway 11 = .ok (.invokevirtual 117, 3) := by decide +kernel
theorem dX5_sendsAway_14 : decode cX5_sendsAway 14 = .ok (.aload_n 0, 1) := by decide +kernel
theorem dX5_sendsAway_15 : decode cX5_sendsAway 15 = .ok (.iload_n 1, 1) := by decide +kernel
theorem dX5_sendsAway_16 : decode cX5_sendsAway 16 = .ok (.iconst 4, 1) := by decide +kernel
theorem dX5_sendsAway_17 : decode cX5_sendsAway 17 = .ok (.iconst 0, 1) := by decide +kernel
theorem dX5_sendsAway_18 : decode cX5_sendsAway 18 = .ok (.invokevirtual 117, 3) := by decide +kernel
theorem dX5_sendsAway_21 : decode cX5_sendsAway 21 = .ok (.aload_n 0, 1) := by decide +kernel
theorem dX5_sendsAway_22 : decode cX5_sendsAway 22 = .ok (.iload_n 1, 1) := by decide +kernel
theorem dX5_sendsAway_23 : decode cX5_sendsAway 23 = .ok (.iconst 5, 1) := by decide +kernel
theorem dX5_sendsAway_24 : decode cX5_sendsAway 24 = .ok (.iconst 0, 1) := by decide +kernel
theorem dX5_sendsAway_25 : decode cX5_sendsAway 25 = .ok (.invokevirtual 117, 3) := by decide +kernel
theorem dX5_sendsAway_28 : decode cX5_sendsAway 28 = .ok (.aload_n 0, 1) := by decide +kernel
theorem dX5_sendsAway_29 : decode cX5_sendsAway 29 = .ok (.iload_n 1, 1) := by decide +kernel
theorem dX5_sendsAway_30 : decode cX5_sendsAway 30 = .ok (.bipush 6, 2) := by decide +kernel
theorem dX5_sendsAway_32 : decode cX5_sendsAway 32 = .ok (.iconst 0, 1) := by decide +kernel
theorem dX5_sendsAway_33 : decode cX5_sendsAway 33 = .ok (.invokevirtual 117, 3) := by decide +kernel
theorem dX5_sendsAway_36 : decode cX5_sendsAway 36 = .ok (.aload_n 0, 1) := by decide +kernel
theorem dX5_sendsAway_37 : decode cX5_sendsAway 37 = .ok (.iload_n 1, 1) := by decide +kernel
theorem dX5_sendsAway_38 : decode cX5_sendsAway 38 = .ok (.bipush 7, 2) := by decide +kernel
theorem dX5_sendsAway_40 : decode cX5_sendsAway 40 = .ok (.iconst (-1), 1) := by decide +kernel
theorem dX5_sendsAway_41 : decode cX5_sendsAway 41 = .ok (.invokevirtual 117, 3) := by decide +kernel
theorem dX5_sendsAway_44 : decode cX5_sendsAway 44 = .ok (.return_, 1) := by decide +kernel
theorem dX5_tooMany_0 : decode cX5_tooMany 0 = .ok (.aload_n 0, 1) := by decide +kernel
theorem dX5_tooMany_1 : decode cX5_tooMany 1 = .ok (.aload_n 0, 1) := by decide +kernel
theorem dX5_tooMany_2 : decode cX5_tooMany 2 = .ok (.getfield 7, 3) := by decide +kernel
theorem dX5_tooMany_5 : decode cX5_tooMany 5 = .ok (.iconst 0, 1) := by decide +kernel
theorem dX5_tooMany_6 : decode cX5_tooMany 6 = .ok (.iaload, 1) := by decide +kernel
theorem dX5_tooMany_7 : decode cX5_tooMany 7 = .ok (.bipush 14, 2) := by decide +kernel
theorem dX5_tooMany_9 : decode cX5_tooMany 9 = .ok (.if_icmp .ne 7, 3) := by decide +kernel
theorem dX5_tooMany_12 : decode cX5_tooMany 12 = .ok (.iconst 1, 1) := by decide +kernel
theorem dX5_tooMany_13 : decode cX5_tooMany 13 = .ok (.goto 4, 3) := by decide +kernel
theorem dX5_tooMany_16 : decode cX5_tooMany 16 = .ok (.iconst 0, 1) := by decide +kernel
theorem dX5_tooMany_17 : decode cX5_tooMany 17 = .ok (.iconst 1, 1) := by decide +kernel
theorem dX5_tooMany_18 : decode cX5_tooMany 18 = .ok (.bipush 14, 2) := by decide +kernel
theorem dX5_tooMany_20 : decode cX5_tooMany 20 = .ok (.invokevirtual 121, 3) := by decide +kernel
theorem dX5_tooMany_23 : decode cX5_tooMany 23 = .ok (.ireturn, 1) := by decide +kernel
theorem dX5_adds_0 : decode cX5_adds 0 = .ok (.aload_n 0, 1) := by decide +kernel
theorem dX5_adds_1 : decode cX5_adds 1 = .ok (.getfield 7, 3) := by decide +kernel
theorem dX5_adds_4 : decode cX5_adds 4 = .ok (.iconst 0, 1) := by decide +kernel
theorem dX5_adds_5 : decode cX5_adds 5 = .ok (.iaload, 1) := by decide +kernel
theorem dX5_adds_6 : decode cX5_adds 6 = .ok (.istore_n 3, 1) := by decide +kernel
theorem dX5_adds_7 : decode cX5_adds 7 = .ok (.aload_n 0, 1) := by decide +kernel
theorem dX5_adds_8 : decode cX5_adds 8 = .ok (.iload_n 3, 1) := by decide +kernel
theorem dX5_adds_9 : decode cX5_adds 9 = .ok (.iconst 0, 1) := by decide +kernel
theorem dX5_adds_10 : decode cX5_adds 10 = .ok (.iload_n 1, 1) := by decide +kernel
theorem dX5_adds_11 : decode cX5_adds 11 = .ok (.invokevirtual 117, 3) := by decide +kernel
theorem dX5_adds_14 : decode cX5_adds 14 = .ok (.aload_n 0, 1) := by decide +kernel
theorem dX5_adds_15 : decode cX5_adds 15 = .ok (.iload_n 3, 1) := by decide +kernel
theorem dX5_adds_16 : decode cX5_adds 16 = .ok (.iconst 1, 1) := by decide +kernel
theorem dX5_adds_17 : decode cX5_adds 17 = .ok (.iload_n 2, 1) := by decide +kernel
theorem dX5_adds_18 : decode cX5_adds 18 = .ok (.invokevirtual 117, 3) := by decide +kernel
theorem dX5_adds_21 : decode cX5_adds 21 = .ok (.aload_n 0, 1) := by decide +kernel
theorem dX5_adds_22 : decode cX5_adds 22 = .ok (.iload_n 3, 1) := by decide +kernel
theorem dX5_adds_23 : decode cX5_adds 23 = .ok (.invokevirtual 125, 3) := by decide +kernel
theorem dX5_adds_26 : decode cX5_adds 26 = .ok (.aload_n 0, 1) := by decide +kernel
theorem dX5_adds_27 : decode cX5_adds 27 = .ok (.getfield 7, 3) := by decide +kernel
theorem dX5_adds_30 : decode cX5_adds 30 = .ok (.iconst 0, 1) := by decide +kernel
theorem dX5_adds_31 : decode cX5_adds 31 = .ok (.dup2, 1) := by decide +kernel
theorem dX5_adds_32 : decode cX5_adds 32 = .ok (.iaload, 1) := by decide +kernel
theorem dX5_adds_33 : decode cX5_adds 33 = .ok (.iconst 1, 1) := by decide +kernel
theorem dX5_adds_34 : decode cX5_adds 34 = .ok (.iadd, 1) := by decide +kernel
theorem dX5_adds_35 : decode cX5_adds 35 = .ok (.iastore, 1) := by decide +kernel
theorem dX5_adds_36 : decode cX5_adds 36 = .ok (.iload_n 3, 1) := by decide +kernel
theorem dX5_adds_37 : decode cX5_adds 37 = .ok (.ireturn, 1) := by decide +kernel
theorem dX5_isKind_0 : decode cX5_isKind 0 = .ok (.iload_n 0, 1) := by decide +kernel
theorem dX5_isKind_1 : decode cX5_isKind 1 = .ok (.invokestatic 114, 3) := by decide +kernel
theorem dX5_isKind_4 : decode cX5_isKind 4 = .ok (.ifCond .le 17, 3) := by decide +kernel
theorem dX5_isKind_7 : decode cX5_isKind 7 = .ok (.iload_n 1, 1) := by decide +kernel
theorem dX5_isKind_8 : decode cX5_isKind 8 = .ok (.iconst 1, 1) := by decide +kernel
theorem dX5_isKind_9 : decode cX5_isKind 9 = .ok (.bipush 9, 2) := by decide +kernel
theorem dX5_isKind_11 : decode cX5_isKind 11 = .ok (.invokestatic 92, 3) := by decide +kernel
theorem dX5_isKind_14 : decode cX5_isKind 14 = .ok (.ifCond .eq 7, 3) := by decide +kernel
theorem dX5_isKind_17 : decode cX5_isKind 17 = .ok (.iconst 1, 1) := by decide +kernel
theorem dX5_isKind_18 : decode cX5_isKind 18 = .ok (.goto 4, 3) := by decide +kernel
theorem dX5_isKind_21 : decode cX5_isKind 21 = .ok (.iconst 0, 1) := by decide +kernel
theorem dX5_isKind_22 : decode cX5_isKind 22 = .ok (.ireturn, 1) := by decide +kernel
theorem dX5_addSock_0 : decode cX5_addSock 0 = .ok (.aload_n 0, 1) := by decide +kernel
theorem dX5_addSock_1 : decode cX5_addSock 1 = .ok (.invokevirtual 129, 3) := by decide +kernel
theorem dX5_addSock_4 : decode cX5_addSock 4 = .ok (.iload_n 1, 1) := by decide +kernel
theorem dX5_addSock_5 : decode cX5_addSock 5 = .ok (.iload_n 2, 1) := by decide +kernel
theorem dX5_addSock_6 : decode cX5_addSock 6 = .ok (.invokestatic 132, 3) := by decide +kernel
theorem dX5_addSock_9 : decode cX5_addSock 9 = .ok (.ifCond .ne 9, 3) := by decide +kernel
theorem dX5_addSock_12 : decode cX5_addSock 12 = .ok (.aload_n 0, 1) := by decide +kernel
theorem dX5_addSock_13 : decode cX5_addSock 13 = .ok (.iconst 1, 1) := by decide +kernel
theorem dX5_addSock_14 : decode cX5_addSock 14 = .ok (.invokevirtual 88, 3) := by decide +kernel
theorem dX5_addSock_17 : decode cX5_addSock 17 = .ok (.ireturn, 1) := by decide +kernel
theorem dX5_addSock_18 : decode cX5_addSock 18 = .ok (.aload_n 0, 1) := by decide +kernel
theorem dX5_addSock_19 : decode cX5_addSock 19 = .ok (.invokevirtual 135, 3) := by decide +kernel
theorem dX5_addSock_22 : decode cX5_addSock 22 = .ok (.ifCond .eq 11, 3) := by decide +kernel
theorem dX5_addSock_25 : decode cX5_addSock 25 = .ok (.aload_n 0, 1) := by decide +kernel
theorem dX5_addSock_26 : decode cX5_addSock 26 = .ok (.iconst 2, 1) := by decide +kernel
theorem dX5_addSock_27 : decode cX5_addSock 27 = .ok (.invokevirtual 139, 3) := by decide +kernel
theorem dX5_addSock_30 : decode cX5_addSock 30 = .ok (.goto 13, 3) := by decide +kernel
theorem dX5_addSock_33 : decode cX5_addSock 33 = .ok (.aload_n 0, 1) := by decide +kernel
theorem dX5_addSock_34 : decode cX5_addSock 34 = .ok (.aload_n 0, 1) := by decide +kernel
theorem dX5_addSock_35 : decode cX5_addSock 35 = .ok (.iload_n 1, 1) := by decide +kernel
theorem dX5_addSock_36 : decode cX5_addSock 36 = .ok (.iload_n 2, 1) := by decide +kernel
theorem dX5_addSock_37 : decode cX5_addSock 37 = .ok (.invokevirtual 142, 3) := by decide +kernel
theorem dX5_addSock_40 : decode cX5_addSock 40 = .ok (.invokevirtual 145, 3) := by decide +kernel
theorem dX5_addSock_43 : decode cX5_addSock 43 = .ok (.ireturn, 1) := by decide +kernel
theorem dX5_plain_0 : decode cX5_plain 0 = .ok (.aload_n 0, 1) := by decide +kernel
theorem dX5_plain_1 : decode cX5_plain 1 = .ok (.iconst 0, 1) := by decide +kernel
theorem dX5_plain_2 : decode cX5_plain 2 = .ok (.putfield 25, 3) := by decide +kernel
theorem dX5_plain_5 : decode cX5_plain 5 = .ok (.iload_n 1, 1) := by decide +kernel
theorem dX5_plain_6 : decode cX5_plain 6 = .ok (.ireturn, 1) := by decide +kernel
theorem dX5_checked_0 : decode cX5_checked 0 = .ok (.aload_n 0, 1) := by decide +kernel
theorem dX5_checked_1 : decode cX5_checked 1 = .ok (.iload_n 1, 1) := by decide +kernel
theorem dX5_checked_2 : decode cX5_checked 2 = .ok (.ifCond .eq 7, 3) := by decide +kernel
theorem dX5_checked_5 : decode cX5_checked 5 = .ok (.iconst 0, 1) := by decide +kernel
theorem dX5_checked_6 : decode cX5_checked 6 = .ok (.goto 4, 3) := by decide +kernel
theorem dX5_checked_9 : decode cX5_checked 9 = .ok (.iconst 1, 1) := by decide +kernel
theorem dX5_checked_10 : decode cX5_checked 10 = .ok (.putfield 25, 3) := by decide +kernel
theorem dX5_checked_13 : decode cX5_checked 13 = .ok (.aload_n 0, 1) := by decide +kernel
theorem dX5_checked_14 : decode cX5_checked 14 = .ok (.getfield 25, 3) := by decide +kernel
theorem dX5_checked_17 : decode cX5_checked 17 = .ok (.ireturn, 1) := by decide +kernel
theorem dX5_sockCount_0 : decode cX5_sockCount 0 = .ok (.aload_n 0, 1) := by decide +kernel
theorem dX5_sockCount_1 : decode cX5_sockCount 1 = .ok (.aload_n 0, 1) := by decide +kernel
theorem dX5_sockCount_2 : decode cX5_sockCount 2 = .ok (.getfield 7, 3) := by decide +kernel
theorem dX5_sockCount_5 : decode cX5_sockCount 5 = .ok (.iconst 0, 1) := by decide +kernel
theorem dX5_sockCount_6 : decode cX5_sockCount 6 = .ok (.iaload, 1) := by decide +kernel
theorem dX5_sockCount_7 : decode cX5_sockCount 7 = .ok (.invokevirtual 148, 3) := by decide +kernel
theorem dX5_sockCount_10 : decode cX5_sockCount 10 = .ok (.ireturn, 1) := by decide +kernel
theorem dX5_colourOf_0 : decode cX5_colourOf 0 = .ok (.aload_n 0, 1) := by decide +kernel
theorem dX5_colourOf_1 : decode cX5_colourOf 1 = .ok (.aload_n 0, 1) := by decide +kernel
theorem dX5_colourOf_2 : decode cX5_colourOf 2 = .ok (.iload_n 1, 1) := by decide +kernel
theorem dX5_colourOf_3 : decode cX5_colourOf 3 = .ok (.invokevirtual 151, 3) := by decide +kernel
theorem dX5_colourOf_6 : decode cX5_colourOf 6 = .ok (.invokevirtual 154, 3) := by decide +kernel
theorem dX5_colourOf_9 : decode cX5_colourOf 9 = .ok (.ifCond .le 8, 3) := by decide +kernel
theorem dX5_colourOf_12 : decode cX5_colourOf 12 = .ok (.bipush 32, 2) := by decide +kernel
theorem dX5_colourOf_14 : decode cX5_colourOf 14 = .ok (.goto 10, 3) := by decide +kernel
theorem dX5_colourOf_17 : decode cX5_colourOf 17 = .ok (.aload_n 0, 1) := by decide +kernel
theorem dX5_colourOf_18 : decode cX5_colourOf 18 = .ok (.iload_n 1, 1) := by decide +kernel
theorem dX5_colourOf_19 : decode cX5_colourOf 19 = .ok (.iconst 0, 1) := by decide +kernel
theorem dX5_colourOf_20 : decode cX5_colourOf 20 = .ok (.invokevirtual 96, 3) := by decide +kernel
theorem dX5_colourOf_23 : decode cX5_colourOf 23 = .ok (.i2c, 1) := by decide +kernel
theorem dX5_colourOf_24 : decode cX5_colourOf 24 = .ok (.ireturn, 1) := by decide +kernel
theorem dX5_sizeOf_0 : decode cX5_sizeOf 0 = .ok (.aload_n 0, 1) := by decide +kernel
theorem dX5_sizeOf_1 : decode cX5_sizeOf 1 = .ok (.aload_n 0, 1) := by decide +kernel
theorem dX5_sizeOf_2 : decode cX5_sizeOf 2 = .ok (.iload_n 1, 1) := by decide +kernel
theorem dX5_sizeOf_3 : decode cX5_sizeOf 3 = .ok (.invokevirtual 151, 3) := by decide +kernel
theorem dX5_sizeOf_6 : decode cX5_sizeOf 6 = .ok (.invokevirtual 154, 3) := by decide +kernel
theorem dX5_sizeOf_9 : decode cX5_sizeOf 9 = .ok (.ifCond .le 7, 3) := by decide +kernel
theorem dX5_sizeOf_12 : decode cX5_sizeOf 12 = .ok (.iconst 0, 1) := by decide +kernel
theorem dX5_sizeOf_13 : decode cX5_sizeOf 13 = .ok (.goto 9, 3) := by decide +kernel
theorem dX5_sizeOf_16 : decode cX5_sizeOf 16 = .ok (.aload_n 0, 1) := by decide +kernel
theorem dX5_sizeOf_17 : decode cX5_sizeOf 17 = .ok (.iload_n 1, 1) := by decide +kernel
theorem dX5_sizeOf_18 : decode cX5_sizeOf 18 = .ok (.iconst 1, 1) := by decide +kernel
theorem dX5_sizeOf_19 : decode cX5_sizeOf 19 = .ok (.invokevirtual 96, 3) := by decide +kernel
theorem dX5_sizeOf_22 : decode cX5_sizeOf 22 = .ok (.ireturn, 1) := by decide +kernel
theorem dX5_isAway_0 : decode cX5_isAway 0 = .ok (.aload_n 0, 1) := by decide +kernel
theorem dX5_isAway_1 : decode cX5_isAway 1 = .ok (.aload_n 0, 1) := by decide +kernel
theorem dX5_isAway_2 : decode cX5_isAway 2 = .ok (.iload_n 1, 1) := by decide +kernel
theorem dX5_isAway_3 : decode cX5_isAway 3 = .ok (.invokevirtual 151, 3) := by decide +kernel
theorem dX5_isAway_6 : decode cX5_isAway 6 = .ok (.invokevirtual 154, 3) := by decide +kernel
theorem dX5_isAway_9 : decode cX5_isAway 9 = .ok (.ifCond .ne 16, 3) := by decide +kernel
theorem dX5_isAway_12 : decode cX5_isAway 12 = .ok (.aload_n 0, 1) := by decide +kernel
theorem dX5_isAway_13 : decode cX5_isAway 13 = .ok (.iload_n 1, 1) := by decide +kernel
theorem dX5_isAway_14 : decode cX5_isAway 14 = .ok (.iconst 0, 1) := by decide +kernel
theorem dX5_isAway_15 : decode cX5_isAway 15 = .ok (.invokevirtual 100, 3) := by decide +kernel
theorem dX5_isAway_18 : decode cX5_isAway 18 = .ok (.ifCond .eq 7, 3) := by decide +kernel
theorem dX5_isAway_21 : decode cX5_isAway 21 = .ok (.iconst 1, 1) := by decide +kernel
theorem dX5_isAway_22 : decode cX5_isAway 22 = .ok (.goto 4, 3) := by decide +kernel
theorem dX5_isAway_25 : decode cX5_isAway 25 = .ok (.iconst 0, 1) := by decide +kernel
theorem dX5_isAway_26 : decode cX5_isAway 26 = .ok (.ireturn, 1) := by decide +kernel
theorem dX5_isPending_0 : decode cX5_isPending 0 = .ok (.aload_n 0, 1) := by decide +kernel
theorem dX5_isPending_1 : decode cX5_isPending 1 = .ok (.aload_n 0, 1) := by decide +kernel
theorem dX5_isPending_2 : decode cX5_isPending 2 = .ok (.iload_n 1, 1) := by decide +kernel
theorem dX5_isPending_3 : decode cX5_isPending 3 = .ok (.invokevirtual 151, 3) := by decide +kernel
theorem dX5_isPending_6 : decode cX5_isPending 6 = .ok (.invokevirtual 154, 3) := by decide +kernel
theorem dX5_isPending_9 : decode cX5_isPending 9 = .ok (.ifCond .ne 16, 3) := by decide +kernel
theorem dX5_isPending_12 : decode cX5_isPending 12 = .ok (.aload_n 0, 1) := by decide +kernel
theorem dX5_isPending_13 : decode cX5_isPending 13 = .ok (.iload_n 1, 1) := by decide +kernel
theorem dX5_isPending_14 : decode cX5_isPending 14 = .ok (.iconst 1, 1) := by decide +kernel
theorem dX5_isPending_15 : decode cX5_isPending 15 = .ok (.invokevirtual 100, 3) := by decide +kernel
theorem dX5_isPending_18 : decode cX5_isPending 18 = .ok (.ifCond .eq 7, 3) := by decide +kernel
theorem dX5_isPending_21 : decode cX5_isPending 21 = .ok (.iconst 1, 1) := by decide +kernel
theorem dX5_isPending_22 : decode cX5_isPending 22 = .ok (.goto 4, 3) := by decide +kernel
theorem dX5_isPending_25 : decode cX5_isPending 25 = .ok (.iconst 0, 1) := by decide +kernel
theorem dX5_isPending_26 : decode cX5_isPending 26 = .ok (.ireturn, 1) := by decide +kernel
theorem dX5_isRefused_0 : decode cX5_isRefused 0 = .ok (.aload_n 0, 1) := by decide +kernel
theorem dX5_isRefused_1 : decode cX5_isRefused 1 = .ok (.aload_n 0, 1) := by decide +kernel
theorem dX5_isRefused_2 : decode cX5_isRefused 2 = .ok (.iload_n 1, 1) := by decide +kernel
theorem dX5_isRefused_3 : decode cX5_isRefused 3 = .ok (.invokevirtual 151, 3) := by decide +kernel
theorem dX5_isRefused_6 : decode cX5_isRefused 6 = .ok (.invokevirtual 154, 3) := by decide +kernel
theorem dX5_isRefused_9 : decode cX5_isRefused 9 = .ok (.ifCond .ne 16, 3) := by decide +kernel
theorem dX5_isRefused_12 : decode cX5_isRefused 12 = .ok (.aload_n 0, 1) := by decide +kernel
theorem dX5_isRefused_13 : decode cX5_isRefused 13 = .ok (.iload_n 1, 1) := by decide +kernel
theorem dX5_isRefused_14 : decode cX5_isRefused 14 = .ok (.iconst 2, 1) := by decide +kernel
theorem dX5_isRefused_15 : decode cX5_isRefused 15 = .ok (.invokevirtual 100, 3) := by decide +kernel
theorem dX5_isRefused_18 : decode cX5_isRefused 18 = .ok (.ifCond .eq 7, 3) := by decide +kernel
theorem dX5_isRefused_21 : decode cX5_isRefused 21 = .ok (.iconst 1, 1) := by decide +kernel
theorem dX5_isRefused_22 : decode cX5_isRefused 22 = .ok (.goto 4, 3) := by decide +kernel
theorem dX5_isRefused_25 : decode cX5_isRefused 25 = .ok (.iconst 0, 1) := by decide +kernel
theorem dX5_isRefused_26 : decode cX5_isRefused 26 = .ok (.ireturn, 1) := by decide +kernel
theorem dX5_isResident_0 : decode cX5_isResident 0 = .ok (.aload_n 0, 1) := by decide +kernel
theorem dX5_isResident_1 : decode cX5_isResident 1 = .ok (.aload_n 0, 1) := by decide +kernel
theorem dX5_isResident_2 : decode cX5_isResident 2 = .ok (.iload_n 1, 1) := by decide +kernel
theorem dX5_isResident_3 : decode cX5_isResident 3 = .ok (.invokevirtual 151, 3) := by decide +kernel
theorem dX5_isResident_6 : decode cX5_isResident 6 = .ok (.invokevirtual 154, 3) := by decide +kernel
theorem dX5_isResident_9 : decode cX5_isResident 9 = .ok (.ifCond .ne 16, 3) := by decide +kernel
theorem dX5_isResident_12 : decode cX5_isResident 12 = .ok (.aload_n 0, 1) := by decide +kernel
theorem dX5_isResident_13 : decode cX5_isResident 13 = .ok (.iload_n 1, 1) := by decide +kernel
theorem dX5_isResident_14 : decode cX5_isResident 14 = .ok (.iconst 3, 1) := by decide +kernel
theorem dX5_isResident_15 : decode cX5_isResident 15 = .ok (.invokevirtual 100, 3) := by decide +kernel
theorem dX5_isResident_18 : decode cX5_isResident 18 = .ok (.ifCond .eq 7, 3) := by decide +kernel
theorem dX5_isResident_21 : decode cX5_isResident 21 = .ok (.iconst 1, 1) := by decide +kernel
theorem dX5_isResident_22 : decode cX5_isResident 22 = .ok (.goto 4, 3) := by decide +kernel
theorem dX5_isResident_25 : decode cX5_isResident 25 = .ok (.iconst 0, 1) := by decide +kernel
theorem dX5_isResident_26 : decode cX5_isResident 26 = .ok (.ireturn, 1) := by decide +kernel
theorem dX5_known_0 : decode cX5_known 0 = .ok (.iload_n 2, 1) := by decide +kernel
theorem dX5_known_1 : decode cX5_known 1 = .ok (.ifCond .eq 12, 3) := by decide +kernel
theorem dX5_known_4 : decode cX5_known 4 = .ok (.aload_n 0, 1) := by decide +kernel
theorem dX5_known_5 : decode cX5_known 5 = .ok (.iload_n 1, 1) := by decide +kernel
theorem dX5_known_6 : decode cX5_known 6 = .ok (.iload_n 3, 1) := by decide +kernel
theorem dX5_known_7 : decode cX5_known 7 = .ok (.invokevirtual 96, 3) := by decide +kernel
theorem dX5_known_10 : decode cX5_known 10 = .ok (.goto 8, 3) := by decide +kernel
theorem dX5_known_13 : decode cX5_known 13 = .ok (.aload_n 0, 1) := by decide +kernel
theorem dX5_known_14 : decode cX5_known 14 = .ok (.iconst 2, 1) := by decide +kernel
theorem dX5_known_15 : decode cX5_known 15 = .ok (.invokevirtual 88, 3) := by decide +kernel
theorem dX5_known_18 : decode cX5_known 18 = .ok (.ireturn, 1) := by decide +kernel
theorem dX5_drawerOf_0 : decode cX5_drawerOf 0 = .ok (.aload_n 0, 1) := by decide +kernel
theorem dX5_drawerOf_1 : decode cX5_drawerOf 1 = .ok (.aload_n 0, 1) := by decide +kernel
theorem dX5_drawerOf_2 : decode cX5_drawerOf 2 = .ok (.iload_n 1, 1) := by decide +kernel
theorem dX5_drawerOf_3 : decode cX5_drawerOf 3 = .ok (.invokevirtual 151, 3) := by decide +kernel
theorem dX5_drawerOf_6 : decode cX5_drawerOf 6 = .ok (.invokevirtual 154, 3) := by decide +kernel
theorem dX5_drawerOf_9 : decode cX5_drawerOf 9 = .ok (.ifCond .le 7, 3) := by decide +kernel
theorem dX5_drawerOf_12 : decode cX5_drawerOf 12 = .ok (.iconst 0, 1) := by decide +kernel
theorem dX5_drawerOf_13 : decode cX5_drawerOf 13 = .ok (.goto 23, 3) := by decide +kernel
theorem dX5_drawerOf_16 : decode cX5_drawerOf 16 = .ok (.aload_n 0, 1) := by decide +kernel
theorem dX5_drawerOf_17 : decode cX5_drawerOf 17 = .ok (.iload_n 1, 1) := by decide +kernel
theorem dX5_drawerOf_18 : decode cX5_drawerOf 18 = .ok (.aload_n 0, 1) := by decide +kernel
theorem dX5_drawerOf_19 : decode cX5_drawerOf 19 = .ok (.iload_n 1, 1) := by decide +kernel
theorem dX5_drawerOf_20 : decode cX5_drawerOf 20 = .ok (.iconst 0, 1) := by decide +kernel
theorem dX5_drawerOf_21 : decode cX5_drawerOf 21 = .ok (.invokevirtual 100, 3) := by decide +kernel
theorem dX5_drawerOf_24 : decode cX5_drawerOf 24 = .ok (.ifCond .ne 7, 3) := by decide +kernel
theorem dX5_drawerOf_27 : decode cX5_drawerOf 27 = .ok (.iconst 1, 1) := by decide +kernel
theorem dX5_drawerOf_28 : decode cX5_drawerOf 28 = .ok (.goto 4, 3) := by decide +kernel
theorem dX5_drawerOf_31 : decode cX5_drawerOf 31 = .ok (.iconst 0, 1) := by decide +kernel
theorem dX5_drawerOf_32 : decode cX5_drawerOf 32 = .ok (.iconst 3, 1) := by decide +kernel
theorem dX5_drawerOf_33 : decode cX5_drawerOf 33 = .ok (.invokevirtual 158, 3) := by decide +kernel
theorem dX5_drawerOf_36 : decode cX5_drawerOf 36 = .ok (.ireturn, 1) := by decide +kernel
theorem dX5_levelOf_0 : decode cX5_levelOf 0 = .ok (.aload_n 0, 1) := by decide +kernel
theorem dX5_levelOf_1 : decode cX5_levelOf 1 = .ok (.aload_n 0, 1) := by decide +kernel
theorem dX5_levelOf_2 : decode cX5_levelOf 2 = .ok (.iload_n 1, 1) := by decide +kernel
theorem dX5_levelOf_3 : decode cX5_levelOf 3 = .ok (.invokevirtual 151, 3) := by decide +kernel
theorem dX5_levelOf_6 : decode cX5_levelOf 6 = .ok (.invokevirtual 154, 3) := by decide +kernel
theorem dX5_levelOf_9 : decode cX5_levelOf 9 = .ok (.ifCond .le 7, 3) := by decide +kernel
theorem dX5_levelOf_12 : decode cX5_levelOf 12 = .ok (.iconst 0, 1) := by decide +kernel
theorem dX5_levelOf_13 : decode cX5_levelOf 13 = .ok (.goto 32, 3) := by decide +kernel
theorem dX5_levelOf_16 : decode cX5_levelOf 16 = .ok (.aload_n 0, 1) := by decide +kernel
theorem dX5_levelOf_17 : decode cX5_levelOf 17 = .ok (.iload_n 1, 1) := by decide +kernel
theorem dX5_levelOf_18 : decode cX5_levelOf 18 = .ok (.aload_n 0, 1) := by decide +kernel
theorem dX5_levelOf_19 : decode cX5_levelOf 19 = .ok (.iload_n 1, 1) := by decide +kernel
theorem dX5_levelOf_20 : decode cX5_levelOf 20 = .ok (.iconst 1, 1) := by decide +kernel
theorem dX5_levelOf_21 : decode cX5_levelOf 21 = .ok (.invokevirtual 100, 3) := by decide +kernel
theorem dX5_levelOf_24 : decode cX5_levelOf 24 = .ok (.ifCond .ne 12, 3) := by decide +kernel
theorem dX5_levelOf_27 : decode cX5_levelOf 27 = .ok (.aload_n 0, 1) := by decide +kernel
theorem dX5_levelOf_28 : decode cX5_levelOf 28 = .ok (.iload_n 1, 1) := by decide +kernel
theorem dX5_levelOf_29 : decode cX5_levelOf 29 = .ok (.iconst 2, 1) := by decide +kernel
theorem dX5_levelOf_30 : decode cX5_levelOf 30 = .ok (.invokevirtual 100, 3) := by decide +kernel
theorem dX5_levelOf_33 : decode cX5_levelOf 33 = .ok (.ifCond .eq 7, 3) := by decide +kernel
theorem dX5_levelOf_36 : decode cX5_levelOf 36 = .ok (.iconst 1, 1) := by decide +kernel
theorem dX5_levelOf_37 : decode cX5_levelOf 37 = .ok (.goto 4, 3) := by decide +kernel
theorem dX5_levelOf_40 : decode cX5_levelOf 40 = .ok (.iconst 0, 1) := by decide +kernel
theorem dX5_levelOf_41 : decode cX5_levelOf 41 = .ok (.iconst 4, 1) := by decide +kernel
theorem dX5_levelOf_42 : decode cX5_levelOf 42 = .ok (.invokevirtual 158, 3) := by decide +kernel
theorem dX5_levelOf_45 : decode cX5_levelOf 45 = .ok (.ireturn, 1) := by decide +kernel
theorem dX5_visaDay_0 : decode cX5_visaDay 0 = .ok (.aload_n 0, 1) := by decide +kernel
theorem dX5_visaDay_1 : decode cX5_visaDay 1 = .ok (.aload_n 0, 1) := by decide +kernel
theorem dX5_visaDay_2 : decode cX5_visaDay 2 = .ok (.iload_n 1, 1) := by decide +kernel
theorem dX5_visaDay_3 : decode cX5_visaDay 3 = .ok (.invokevirtual 151, 3) := by decide +kernel
theorem dX5_visaDay_6 : decode cX5_visaDay 6 = .ok (.invokevirtual 154, 3) := by decide +kernel
theorem dX5_visaDay_9 : decode cX5_visaDay 9 = .ok (.ifCond .le 7, 3) := by decide +kernel
theorem dX5_visaDay_12 : decode cX5_visaDay 12 = .ok (.iconst 0, 1) := by decide +kernel
theorem dX5_visaDay_13 : decode cX5_visaDay 13 = .ok (.goto 16, 3) := by decide +kernel
theorem dX5_visaDay_16 : decode cX5_visaDay 16 = .ok (.aload_n 0, 1) := by decide +kernel
theorem dX5_visaDay_17 : decode cX5_visaDay 17 = .ok (.iload_n 1, 1) := by decide +kernel
theorem dX5_visaDay_18 : decode cX5_visaDay 18 = .ok (.aload_n 0, 1) := by decide +kernel
theorem dX5_visaDay_19 : decode cX5_visaDay 19 = .ok (.iload_n 1, 1) := by decide +kernel
theorem dX5_visaDay_20 : decode cX5_visaDay 20 = .ok (.iconst 3, 1) := by decide +kernel
theorem dX5_visaDay_21 : decode cX5_visaDay 21 = .ok (.invokevirtual 100, 3) := by decide +kernel
theorem dX5_visaDay_24 : decode cX5_visaDay 24 = .ok (.bipush 6, 2) := by decide +kernel
theorem dX5_visaDay_26 : decode cX5_visaDay 26 = .ok (.invokevirtual 158, 3) := by decide +kernel
theorem dX5_visaDay_29 : decode cX5_visaDay 29 = .ok (.ireturn, 1) := by decide +kernel
theorem dX5_partnerOf_0 : decode cX5_partnerOf 0 = .ok (.aload_n 0, 1) := by decide +kernel
theorem dX5_partnerOf_1 : decode cX5_partnerOf 1 = .ok (.aload_n 0, 1) := by decide +kernel
theorem dX5_partnerOf_2 : decode cX5_partnerOf 2 = .ok (.iload_n 1, 1) := by decide +kernel
theorem dX5_partnerOf_3 : decode cX5_partnerOf 3 = .ok (.invokevirtual 151, 3) := by decide +kernel
theorem dX5_partnerOf_6 : decode cX5_partnerOf 6 = .ok (.invokevirtual 154, 3) := by decide +kernel
theorem dX5_partnerOf_9 : decode cX5_partnerOf 9 = .ok (.ifCond .le 7, 3) := by decide +kernel
theorem dX5_partnerOf_12 : decode cX5_partnerOf 12 = .ok (.iconst 0, 1) := by decide +kernel
theorem dX5_partnerOf_13 : decode cX5_partnerOf 13 = .ok (.goto 15, 3) := by decide +kernel
theorem dX5_partnerOf_16 : decode cX5_partnerOf 16 = .ok (.aload_n 0, 1) := by decide +kernel
theorem dX5_partnerOf_17 : decode cX5_partnerOf 17 = .ok (.iload_n 1, 1) := by decide +kernel
theorem dX5_partnerOf_18 : decode cX5_partnerOf 18 = .ok (.aload_n 0, 1) := by decide +kernel
theorem dX5_partnerOf_19 : decode cX5_partnerOf 19 = .ok (.iload_n 1, 1) := by decide +kernel
theorem dX5_partnerOf_20 : decode cX5_partnerOf 20 = .ok (.invokevirtual 110, 3) := by decide +kernel
theorem dX5_partnerOf_23 : decode cX5_partnerOf 23 = .ok (.bipush 7, 2) := by decide +kernel
theorem dX5_partnerOf_25 : decode cX5_partnerOf 25 = .ok (.invokevirtual 158, 3) := by decide +kernel
theorem dX5_partnerOf_28 : decode cX5_partnerOf 28 = .ok (.ireturn, 1) := by decide +kernel
theorem dX5_matches_0 : decode cX5_matches 0 = .ok (.aload_n 0, 1) := by decide +kernel
theorem dX5_matches_1 : decode cX5_matches 1 = .ok (.aload_n 0, 1) := by decide +kernel
theorem dX5_matches_2 : decode cX5_matches 2 = .ok (.iload_n 1, 1) := by decide +kernel
theorem dX5_matches_3 : decode cX5_matches 3 = .ok (.invokevirtual 151, 3) := by decide +kernel
theorem dX5_matches_6 : decode cX5_matches 6 = .ok (.ifCond .eq 15, 3) := by decide +kernel
theorem dX5_matches_9 : decode cX5_matches 9 = .ok (.aload_n 0, 1) := by decide +kernel
theorem dX5_matches_10 : decode cX5_matches 10 = .ok (.iload_n 2, 1) := by decide +kernel
theorem dX5_matches_11 : decode cX5_matches 11 = .ok (.invokevirtual 151, 3) := by decide +kernel
theorem dX5_matches_14 : decode cX5_matches 14 = .ok (.ifCond .eq 7, 3) := by decide +kernel
theorem dX5_matches_17 : decode cX5_matches 17 = .ok (.iconst 1, 1) := by decide +kernel
theorem dX5_matches_18 : decode cX5_matches 18 = .ok (.goto 4, 3) := by decide +kernel
theorem dX5_matches_21 : decode cX5_matches 21 = .ok (.iconst 0, 1) := by decide +kernel
theorem dX5_matches_22 : decode cX5_matches 22 = .ok (.invokevirtual 154, 3) := by decide +kernel
theorem dX5_matches_25 : decode cX5_matches 25 = .ok (.ifCond .ne 16, 3) := by decide +kernel
theorem dX5_matches_28 : decode cX5_matches 28 = .ok (.aload_n 0, 1) := by decide +kernel
theorem dX5_matches_29 : decode cX5_matches 29 = .ok (.iload_n 1, 1) := by decide +kernel
theorem dX5_matches_30 : decode cX5_matches 30 = .ok (.iload_n 2, 1) := by decide +kernel
theorem dX5_matches_31 : decode cX5_matches 31 = .ok (.invokevirtual 162, 3) := by decide +kernel
theorem dX5_matches_34 : decode cX5_matches 34 = .ok (.ifCond .eq 7, 3) := by decide +kernel
theorem dX5_matches_37 : decode cX5_matches 37 = .ok (.iconst 1, 1) := by decide +kernel
theorem dX5_matches_38 : decode cX5_matches 38 = .ok (.goto 4, 3) := by decide +kernel
theorem dX5_matches_41 : decode cX5_matches 41 = .ok (.iconst 0, 1) := by decide +kernel
theorem dX5_matches_42 : decode cX5_matches 42 = .ok (.ireturn, 1) := by decide +kernel
theorem dX5_cannotApply_0 : decode cX5_cannotApply 0 = .ok (.aload_n 0, 1) := by decide +kernel
theorem dX5_cannotApply_1 : decode cX5_cannotApply 1 = .ok (.aload_n 0, 1) := by decide +kernel
theorem dX5_cannotApply_2 : decode cX5_cannotApply 2 = .ok (.iload_n 1, 1) := by decide +kernel
theorem dX5_cannotApply_3 : decode cX5_cannotApply 3 = .ok (.iconst 0, 1) := by decide +kernel
theorem dX5_cannotApply_4 : decode cX5_cannotApply 4 = .ok (.invokevirtual 100, 3) := by decide +kernel
theorem dX5_cannotApply_7 : decode cX5_cannotApply 7 = .ok (.ifCond .ne 7, 3) := by decide +kernel
theorem dX5_cannotApply_10 : decode cX5_cannotApply 10 = .ok (.iconst 1, 1) := by decide +kernel
theorem dX5_cannotApply_11 : decode cX5_cannotApply 11 = .ok (.goto 4, 3) := by decide +kernel
theorem dX5_cannotApply_14 : decode cX5_cannotApply 14 = .ok (.iconst 0, 1) := by decide +kernel
theorem dX5_cannotApply_15 : decode cX5_cannotApply 15 = .ok (.iconst 2, 1) := by decide +kernel
theorem dX5_cannotApply_16 : decode cX5_cannotApply 16 = .ok (.aload_n 0, 1) := by decide +kernel
theorem dX5_cannotApply_17 : decode cX5_cannotApply 17 = .ok (.iload_n 1, 1) := by decide +kernel
theorem dX5_cannotApply_18 : decode cX5_cannotApply 18 = .ok (.iconst 3, 1) := by decide +kernel
theorem dX5_cannotApply_19 : decode cX5_cannotApply 19 = .ok (.invokevirtual 96, 3) := by decide +kernel
theorem dX5_cannotApply_22 : decode cX5_cannotApply 22 = .ok (.invokevirtual 121, 3) := by decide +kernel
theorem dX5_cannotApply_25 : decode cX5_cannotApply 25 = .ok (.ireturn, 1) := by decide +kernel
theorem dX5_applies_0 : decode cX5_applies 0 = .ok (.aload_n 0, 1) := by decide +kernel
theorem dX5_applies_1 : decode cX5_applies 1 = .ok (.iload_n 1, 1) := by decide +kernel
theorem dX5_applies_2 : decode cX5_applies 2 = .ok (.iconst 2, 1) := by decide +kernel
theorem dX5_applies_3 : decode cX5_applies 3 = .ok (.iconst 1, 1) := by decide +kernel
theorem dX5_applies_4 : decode cX5_applies 4 = .ok (.invokevirtual 117, 3) := by decide +kernel
theorem dX5_applies_7 : decode cX5_applies 7 = .ok (.aload_n 0, 1) := by decide +kernel
theorem dX5_applies_8 : decode cX5_applies 8 = .ok (.iload_n 1, 1) := by decide +kernel
theorem dX5_applies_9 : decode cX5_applies 9 = .ok (.iconst 3, 1) := by decide +kernel
theorem dX5_applies_10 : decode cX5_applies 10 = .ok (.iload_n 2, 1) := by decide +kernel
theorem dX5_applies_11 : decode cX5_applies 11 = .ok (.invokevirtual 117, 3) := by decide +kernel
theorem dX5_applies_14 : decode cX5_applies 14 = .ok (.aload_n 0, 1) := by decide +kernel
theorem dX5_applies_15 : decode cX5_applies 15 = .ok (.iload_n 1, 1) := by decide +kernel
theorem dX5_applies_16 : decode cX5_applies 16 = .ok (.iconst 4, 1) := by decide +kernel
theorem dX5_applies_17 : decode cX5_applies 17 = .ok (.iconst 1, 1) := by decide +kernel
theorem dX5_applies_18 : decode cX5_applies 18 = .ok (.invokevirtual 117, 3) := by decide +kernel
theorem dX5_applies_21 : decode cX5_applies 21 = .ok (.aload_n 0, 1) := by decide +kernel
theorem dX5_applies_22 : decode cX5_applies 22 = .ok (.iload_n 1, 1) := by decide +kernel
theorem dX5_applies_23 : decode cX5_applies 23 = .ok (.iconst 5, 1) := by decide +kernel
theorem dX5_applies_24 : decode cX5_applies 24 = .ok (.aload_n 0, 1) := by decide +kernel
theorem dX5_applies_25 : decode cX5_applies 25 = .ok (.getfield 7, 3) := by decide +kernel
theorem dX5_applies_28 : decode cX5_applies 28 = .ok (.iconst 1, 1) := by decide +kernel
theorem dX5_applies_29 : decode cX5_applies 29 = .ok (.iaload, 1) := by decide +kernel
theorem dX5_applies_30 : decode cX5_applies 30 = .ok (.invokevirtual 117, 3) := by decide +kernel
theorem dX5_applies_33 : decode cX5_applies 33 = .ok (.aload_n 0, 1) := by decide +kernel
theorem dX5_applies_34 : decode cX5_applies 34 = .ok (.iload_n 2, 1) := by decide +kernel
theorem dX5_applies_35 : decode cX5_applies 35 = .ok (.invokevirtual 165, 3) := by decide +kernel
theorem dX5_applies_38 : decode cX5_applies 38 = .ok (.ireturn, 1) := by decide +kernel
theorem dX5_apply_0 : decode cX5_apply 0 = .ok (.aload_n 0, 1) := by decide +kernel
theorem dX5_apply_1 : decode cX5_apply 1 = .ok (.invokevirtual 129, 3) := by decide +kernel
theorem dX5_apply_4 : decode cX5_apply 4 = .ok (.aload_n 0, 1) := by decide +kernel
theorem dX5_apply_5 : decode cX5_apply 5 = .ok (.iload_n 1, 1) := by decide +kernel
theorem dX5_apply_6 : decode cX5_apply 6 = .ok (.invokevirtual 151, 3) := by decide +kernel
theorem dX5_apply_9 : decode cX5_apply 9 = .ok (.ifCond .eq 10, 3) := by decide +kernel
theorem dX5_apply_12 : decode cX5_apply 12 = .ok (.iload_n 2, 1) := by decide +kernel
theorem dX5_apply_13 : decode cX5_apply 13 = .ok (.invokestatic 168, 3) := by decide +kernel
theorem dX5_apply_16 : decode cX5_apply 16 = .ok (.ifCond .ne 9, 3) := by decide +kernel
theorem dX5_apply_19 : decode cX5_apply 19 = .ok (.aload_n 0, 1) := by decide +kernel
theorem dX5_apply_20 : decode cX5_apply 20 = .ok (.iconst 1, 1) := by decide +kernel
theorem dX5_apply_21 : decode cX5_apply 21 = .ok (.invokevirtual 88, 3) := by decide +kernel
theorem dX5_apply_24 : decode cX5_apply 24 = .ok (.ireturn, 1) := by decide +kernel
theorem dX5_apply_25 : decode cX5_apply 25 = .ok (.aload_n 0, 1) := by decide +kernel
theorem dX5_apply_26 : decode cX5_apply 26 = .ok (.iload_n 1, 1) := by decide +kernel
theorem dX5_apply_27 : decode cX5_apply 27 = .ok (.invokevirtual 171, 3) := by decide +kernel
theorem dX5_apply_30 : decode cX5_apply 30 = .ok (.ifCond .eq 11, 3) := by decide +kernel
theorem dX5_apply_33 : decode cX5_apply 33 = .ok (.aload_n 0, 1) := by decide +kernel
theorem dX5_apply_34 : decode cX5_apply 34 = .ok (.iconst 2, 1) := by decide +kernel
theorem dX5_apply_35 : decode cX5_apply 35 = .ok (.invokevirtual 139, 3) := by decide +kernel
theorem dX5_apply_38 : decode cX5_apply 38 = .ok (.goto 13, 3) := by decide +kernel
theorem dX5_apply_41 : decode cX5_apply 41 = .ok (.aload_n 0, 1) := by decide +kernel
theorem dX5_apply_42 : decode cX5_apply 42 = .ok (.aload_n 0, 1) := by decide +kernel
theorem dX5_apply_43 : decode cX5_apply 43 = .ok (.iload_n 1, 1) := by decide +kernel
theorem dX5_apply_44 : decode cX5_apply 44 = .ok (.iload_n 2, 1) := by decide +kernel
theorem dX5_apply_45 : decode cX5_apply 45 = .ok (.invokevirtual 174, 3) := by decide +kernel
theorem dX5_apply_48 : decode cX5_apply 48 = .ok (.invokevirtual 145, 3) := by decide +kernel
theorem dX5_apply_51 : decode cX5_apply 51 = .ok (.ireturn, 1) := by decide +kernel
theorem dX5_cannotWithdraw_0 : decode cX5_cannotWithdraw 0 = .ok (.aload_n 0, 1) := by decide +kernel
theorem dX5_cannotWithdraw_1 : decode cX5_cannotWithdraw 1 = .ok (.aload_n 0, 1) := by decide +kernel
theorem dX5_cannotWithdraw_2 : decode cX5_cannotWithdraw 2 = .ok (.iload_n 1, 1) := by decide +kernel
theorem dX5_cannotWithdraw_3 : decode cX5_cannotWithdraw 3 = .ok (.iconst 1, 1) := by decide +kernel
theorem dX5_cannotWithdraw_4 : decode cX5_cannotWithdraw 4 = .ok (.invokevirtual 100, 3) := by decide +kernel
theorem dX5_cannotWithdraw_7 : decode cX5_cannotWithdraw 7 = .ok (.ifCond .ne 16, 3) := by decide +kernel
theorem dX5_cannotWithdraw_10 : decode cX5_cannotWithdraw 10 = .ok (.aload_n 0, 1) := by decide +kernel
theorem dX5_cannotWithdraw_11 : decode cX5_cannotWithdraw 11 = .ok (.iload_n 1, 1) := by decide +kernel
theorem dX5_cannotWithdraw_12 : decode cX5_cannotWithdraw 12 = .ok (.iconst 2, 1) := by decide +kernel
theorem dX5_cannotWithdraw_13 : decode cX5_cannotWithdraw 13 = .ok (.invokevirtual 100, 3) := by decide +kernel
theorem dX5_cannotWithdraw_16 : decode cX5_cannotWithdraw 16 = .ok (.ifCond .ne 7, 3) := by decide +kernel
theorem dX5_cannotWithdraw_19 : decode cX5_cannotWithdraw 19 = .ok (.iconst 1, 1) := by decide +kernel
theorem dX5_cannotWithdraw_20 : decode cX5_cannotWithdraw 20 = .ok (.goto 4, 3) := by decide +kernel
theorem dX5_cannotWithdraw_23 : decode cX5_cannotWithdraw 23 = .ok (.iconst 0, 1) := by decide +kernel
theorem dX5_cannotWithdraw_24 : decode cX5_cannotWithdraw 24 = .ok (.iconst 3, 1) := by decide +kernel
theorem dX5_cannotWithdraw_25 : decode cX5_cannotWithdraw 25 = .ok (.iload_n 1, 1) := by decide +kernel
theorem dX5_cannotWithdraw_26 : decode cX5_cannotWithdraw 26 = .ok (.invokevirtual 121, 3) := by decide +kernel
theorem dX5_cannotWithdraw_29 : decode cX5_cannotWithdraw 29 = .ok (.ireturn, 1) := by decide +kernel
theorem dX5_withdraws_0 : decode cX5_withdraws 0 = .ok (.aload_n 0, 1) := by decide +kernel
theorem dX5_withdraws_1 : decode cX5_withdraws 1 = .ok (.iload_n 1, 1) := by decide +kernel
theorem dX5_withdraws_2 : decode cX5_withdraws 2 = .ok (.iconst 3, 1) := by decide +kernel
theorem dX5_withdraws_3 : decode cX5_withdraws 3 = .ok (.invokevirtual 96, 3) := by decide +kernel
theorem dX5_withdraws_6 : decode cX5_withdraws 6 = .ok (.istore_n 2, 1) := by decide +kernel
theorem dX5_withdraws_7 : decode cX5_withdraws 7 = .ok (.aload_n 0, 1) := by decide +kernel
theorem dX5_withdraws_8 : decode cX5_withdraws 8 = .ok (.iload_n 1, 1) := by decide +kernel
theorem dX5_withdraws_9 : decode cX5_withdraws 9 = .ok (.invokevirtual 125, 3) := by decide +kernel
theorem dX5_withdraws_12 : decode cX5_withdraws 12 = .ok (.iload_n 2, 1) := by decide +kernel
theorem dX5_withdraws_13 : decode cX5_withdraws 13 = .ok (.ireturn, 1) := by decide +kernel
theorem dX5_withdraw_0 : decode cX5_withdraw 0 = .ok (.aload_n 0, 1) := by decide +kernel
theorem dX5_withdraw_1 : decode cX5_withdraw 1 = .ok (.invokevirtual 129, 3) := by decide +kernel
theorem dX5_withdraw_4 : decode cX5_withdraw 4 = .ok (.aload_n 0, 1) := by decide +kernel
theorem dX5_withdraw_5 : decode cX5_withdraw 5 = .ok (.iload_n 1, 1) := by decide +kernel
theorem dX5_withdraw_6 : decode cX5_withdraw 6 = .ok (.invokevirtual 151, 3) := by decide +kernel
theorem dX5_withdraw_9 : decode cX5_withdraw 9 = .ok (.ifCond .ne 9, 3) := by decide +kernel
theorem dX5_withdraw_12 : decode cX5_withdraw 12 = .ok (.aload_n 0, 1) := by decide +kernel
theorem dX5_withdraw_13 : decode cX5_withdraw 13 = .ok (.iconst 1, 1) := by decide +kernel
theorem dX5_withdraw_14 : decode cX5_withdraw 14 = .ok (.invokevirtual 88, 3) := by decide +kernel
theorem dX5_withdraw_17 : decode cX5_withdraw 17 = .ok (.ireturn, 1) := by decide +kernel
theorem dX5_withdraw_18 : decode cX5_withdraw 18 = .ok (.aload_n 0, 1) := by decide +kernel
theorem dX5_withdraw_19 : decode cX5_withdraw 19 = .ok (.iload_n 1, 1) := by decide +kernel
theorem dX5_withdraw_20 : decode cX5_withdraw 20 = .ok (.invokevirtual 177, 3) := by decide +kernel
theorem dX5_withdraw_23 : decode cX5_withdraw 23 = .ok (.ifCond .eq 11, 3) := by decide +kernel
theorem dX5_withdraw_26 : decode cX5_withdraw 26 = .ok (.aload_n 0, 1) := by decide +kernel
theorem dX5_withdraw_27 : decode cX5_withdraw 27 = .ok (.iconst 2, 1) := by decide +kernel
theorem dX5_withdraw_28 : decode cX5_withdraw 28 = .ok (.invokevirtual 139, 3) := by decide +kernel
theorem dX5_withdraw_31 : decode cX5_withdraw 31 = .ok (.goto 12, 3) := by decide +kernel
theorem dX5_withdraw_34 : decode cX5_withdraw 34 = .ok (.aload_n 0, 1) := by decide +kernel
theorem dX5_withdraw_35 : decode cX5_withdraw 35 = .ok (.aload_n 0, 1) := by decide +kernel
theorem dX5_withdraw_36 : decode cX5_withdraw 36 = .ok (.iload_n 1, 1) := by decide +kernel
theorem dX5_withdraw_37 : decode cX5_withdraw 37 = .ok (.invokevirtual 180, 3) := by decide +kernel
theorem dX5_withdraw_40 : decode cX5_withdraw 40 = .ok (.invokevirtual 145, 3) := by decide +kernel
theorem dX5_withdraw_43 : decode cX5_withdraw 43 = .ok (.ireturn, 1) := by decide +kernel
theorem dX5_cannotAppeal_0 : decode cX5_cannotAppeal 0 = .ok (.aload_n 0, 1) := by decide +kernel
theorem dX5_cannotAppeal_1 : decode cX5_cannotAppeal 1 = .ok (.aload_n 0, 1) := by decide +kernel
theorem dX5_cannotAppeal_2 : decode cX5_cannotAppeal 2 = .ok (.iload_n 1, 1) := by decide +kernel
theorem dX5_cannotAppeal_3 : decode cX5_cannotAppeal 3 = .ok (.iconst 2, 1) := by decide +kernel
theorem dX5_cannotAppeal_4 : decode cX5_cannotAppeal 4 = .ok (.invokevirtual 100, 3) := by decide +kernel
theorem dX5_cannotAppeal_7 : decode cX5_cannotAppeal 7 = .ok (.ifCond .ne 7, 3) := by decide +kernel
theorem dX5_cannotAppeal_10 : decode cX5_cannotAppeal 10 = .ok (.iconst 1, 1) := by decide +kernel
theorem dX5_cannotAppeal_11 : decode cX5_cannotAppeal 11 = .ok (.goto 4, 3) := by decide +kernel
theorem dX5_cannotAppeal_14 : decode cX5_cannotAppeal 14 = .ok (.iconst 0, 1) := by decide +kernel
theorem dX5_cannotAppeal_15 : decode cX5_cannotAppeal 15 = .ok (.iconst 4, 1) := by decide +kernel
theorem dX5_cannotAppeal_16 : decode cX5_cannotAppeal 16 = .ok (.iload_n 1, 1) := by decide +kernel
theorem dX5_cannotAppeal_17 : decode cX5_cannotAppeal 17 = .ok (.invokevirtual 121, 3) := by decide +kernel
theorem dX5_cannotAppeal_20 : decode cX5_cannotAppeal 20 = .ok (.ifCond .ne 32, 3) := by decide +kernel
theorem dX5_cannotAppeal_23 : decode cX5_cannotAppeal 23 = .ok (.aload_n 0, 1) := by decide +kernel
theorem dX5_cannotAppeal_24 : decode cX5_cannotAppeal 24 = .ok (.aload_n 0, 1) := by decide +kernel
theorem dX5_cannotAppeal_25 : decode cX5_cannotAppeal 25 = .ok (.iload_n 1, 1) := by decide +kernel
theorem dX5_cannotAppeal_26 : decode cX5_cannotAppeal 26 = .ok (.iconst 4, 1) := by decide +kernel
theorem dX5_cannotAppeal_27 : decode cX5_cannotAppeal 27 = .ok (.invokevirtual 96, 3) := by decide +kernel
theorem dX5_cannotAppeal_30 : decode cX5_cannotAppeal 30 = .ok (.iconst 3, 1) := by decide +kernel
theorem dX5_cannotAppeal_31 : decode cX5_cannotAppeal 31 = .ok (.if_icmp .ne 7, 3) := by decide +kernel
theorem dX5_cannotAppeal_34 : decode cX5_cannotAppeal 34 = .ok (.iconst 1, 1) := by decide +kernel
theorem dX5_cannotAppeal_35 : decode cX5_cannotAppeal 35 = .ok (.goto 4, 3) := by decide +kernel
theorem dX5_cannotAppeal_38 : decode cX5_cannotAppeal 38 = .ok (.iconst 0, 1) := by decide +kernel
theorem dX5_cannotAppeal_39 : decode cX5_cannotAppeal 39 = .ok (.iconst 5, 1) := by decide +kernel
theorem dX5_cannotAppeal_40 : decode cX5_cannotAppeal 40 = .ok (.aload_n 0, 1) := by decide +kernel
theorem dX5_cannotAppeal_41 : decode cX5_cannotAppeal 41 = .ok (.iload_n 1, 1) := by decide +kernel
theorem dX5_cannotAppeal_42 : decode cX5_cannotAppeal 42 = .ok (.iconst 3, 1) := by decide +kernel
theorem dX5_cannotAppeal_43 : decode cX5_cannotAppeal 43 = .ok (.invokevirtual 96, 3) := by decide +kernel
theorem dX5_cannotAppeal_46 : decode cX5_cannotAppeal 46 = .ok (.invokevirtual 121, 3) := by decide +kernel
theorem dX5_cannotAppeal_49 : decode cX5_cannotAppeal 49 = .ok (.ifCond .eq 7, 3) := by decide +kernel
theorem dX5_cannotAppeal_52 : decode cX5_cannotAppeal 52 = .ok (.iconst 1, 1) := by decide +kernel
theorem dX5_cannotAppeal_53 : decode cX5_cannotAppeal 53 = .ok (.goto 4, 3) := by decide +kernel
theorem dX5_cannotAppeal_56 : decode cX5_cannotAppeal 56 = .ok (.iconst 0, 1) := by decide +kernel
theorem dX5_cannotAppeal_57 : decode cX5_cannotAppeal 57 = .ok (.ireturn, 1) := by decide +kernel
theorem dX5_appeals_0 : decode cX5_appeals 0 = .ok (.aload_n 0, 1) := by decide +kernel
theorem dX5_appeals_1 : decode cX5_appeals 1 = .ok (.iload_n 1, 1) := by decide +kernel
theorem dX5_appeals_2 : decode cX5_appeals 2 = .ok (.iconst 2, 1) := by decide +kernel
theorem dX5_appeals_3 : decode cX5_appeals 3 = .ok (.iconst 1, 1) := by decide +kernel
theorem dX5_appeals_4 : decode cX5_appeals 4 = .ok (.invokevirtual 117, 3) := by decide +kernel
theorem dX5_appeals_7 : decode cX5_appeals 7 = .ok (.aload_n 0, 1) := by decide +kernel
theorem dX5_appeals_8 : decode cX5_appeals 8 = .ok (.iload_n 1, 1) := by decide +kernel
theorem dX5_appeals_9 : decode cX5_appeals 9 = .ok (.iconst 4, 1) := by decide +kernel
theorem dX5_appeals_10 : decode cX5_appeals 10 = .ok (.aload_n 0, 1) := by decide +kernel
theorem dX5_appeals_11 : decode cX5_appeals 11 = .ok (.iload_n 1, 1) := by decide +kernel
theorem dX5_appeals_12 : decode cX5_appeals 12 = .ok (.iconst 4, 1) := by decide +kernel
theorem dX5_appeals_13 : decode cX5_appeals 13 = .ok (.invokevirtual 96, 3) := by decide +kernel
theorem dX5_appeals_16 : decode cX5_appeals 16 = .ok (.iconst 1, 1) := by decide +kernel
theorem dX5_appeals_17 : decode cX5_appeals 17 = .ok (.iadd, 1) := by decide +kernel
theorem dX5_appeals_18 : decode cX5_appeals 18 = .ok (.invokevirtual 117, 3) := by decide +kernel
theorem dX5_appeals_21 : decode cX5_appeals 21 = .ok (.aload_n 0, 1) := by decide +kernel
theorem dX5_appeals_22 : decode cX5_appeals 22 = .ok (.iload_n 1, 1) := by decide +kernel
theorem dX5_appeals_23 : decode cX5_appeals 23 = .ok (.iconst 5, 1) := by decide +kernel
theorem dX5_appeals_24 : decode cX5_appeals 24 = .ok (.aload_n 0, 1) := by decide +kernel
theorem dX5_appeals_25 : decode cX5_appeals 25 = .ok (.getfield 7, 3) := by decide +kernel
theorem dX5_appeals_28 : decode cX5_appeals 28 = .ok (.iconst 1, 1) := by decide +kernel
theorem dX5_appeals_29 : decode cX5_appeals 29 = .ok (.iaload, 1) := by decide +kernel
theorem dX5_appeals_30 : decode cX5_appeals 30 = .ok (.invokevirtual 117, 3) := by decide +kernel
theorem dX5_appeals_33 : decode cX5_appeals 33 = .ok (.aload_n 0, 1) := by decide +kernel
theorem dX5_appeals_34 : decode cX5_appeals 34 = .ok (.iload_n 1, 1) := by decide +kernel
theorem dX5_appeals_35 : decode cX5_appeals 35 = .ok (.iconst 4, 1) := by decide +kernel
theorem dX5_appeals_36 : decode cX5_appeals 36 = .ok (.invokevirtual 96, 3) := by decide +kernel
theorem dX5_appeals_39 : decode cX5_appeals 39 = .ok (.ireturn, 1) := by decide +kernel
theorem dX5_appeal_0 : decode cX5_appeal 0 = .ok (.aload_n 0, 1) := by decide +kernel
theorem dX5_appeal_1 : decode cX5_appeal 1 = .ok (.invokevirtual 129, 3) := by decide +kernel
theorem dX5_appeal_4 : decode cX5_appeal 4 = .ok (.aload_n 0, 1) := by decide +kernel
theorem dX5_appeal_5 : decode cX5_appeal 5 = .ok (.iload_n 1, 1) := by decide +kernel
theorem dX5_appeal_6 : decode cX5_appeal 6 = .ok (.invokevirtual 151, 3) := by decide +kernel
theorem dX5_appeal_9 : decode cX5_appeal 9 = .ok (.ifCond .ne 9, 3) := by decide +kernel
theorem dX5_appeal_12 : decode cX5_appeal 12 = .ok (.aload_n 0, 1) := by decide +kernel
theorem dX5_appeal_13 : decode cX5_appeal 13 = .ok (.iconst 1, 1) := by decide +kernel
theorem dX5_appeal_14 : decode cX5_appeal 14 = .ok (.invokevirtual 88, 3) := by decide +kernel
theorem dX5_appeal_17 : decode cX5_appeal 17 = .ok (.ireturn, 1) := by decide +kernel
theorem dX5_appeal_18 : decode cX5_appeal 18 = .ok (.aload_n 0, 1) := by decide +kernel
theorem dX5_appeal_19 : decode cX5_appeal 19 = .ok (.iload_n 1, 1) := by decide +kernel
theorem dX5_appeal_20 : decode cX5_appeal 20 = .ok (.invokevirtual 183, 3) := by decide +kernel
theorem dX5_appeal_23 : decode cX5_appeal 23 = .ok (.ifCond .eq 11, 3) := by decide +kernel
theorem dX5_appeal_26 : decode cX5_appeal 26 = .ok (.aload_n 0, 1) := by decide +kernel
theorem dX5_appeal_27 : decode cX5_appeal 27 = .ok (.iconst 2, 1) := by decide +kernel
theorem dX5_appeal_28 : decode cX5_appeal 28 = .ok (.invokevirtual 139, 3) := by decide +kernel
theorem dX5_appeal_31 : decode cX5_appeal 31 = .ok (.goto 12, 3) := by decide +kernel
theorem dX5_appeal_34 : decode cX5_appeal 34 = .ok (.aload_n 0, 1) := by decide +kernel
theorem dX5_appeal_35 : decode cX5_appeal 35 = .ok (.aload_n 0, 1) := by decide +kernel
theorem dX5_appeal_36 : decode cX5_appeal 36 = .ok (.iload_n 1, 1) := by decide +kernel
theorem dX5_appeal_37 : decode cX5_appeal 37 = .ok (.invokevirtual 186, 3) := by decide +kernel
theorem dX5_appeal_40 : decode cX5_appeal 40 = .ok (.invokevirtual 145, 3) := by decide +kernel
theorem dX5_appeal_43 : decode cX5_appeal 43 = .ok (.ireturn, 1) := by decide +kernel
theorem dX5_isSooner_0 : decode cX5_isSooner 0 = .ok (.aload_n 0, 1) := by decide +kernel
theorem dX5_isSooner_1 : decode cX5_isSooner 1 = .ok (.iload_n 1, 1) := by decide +kernel
theorem dX5_isSooner_2 : decode cX5_isSooner 2 = .ok (.iconst 4, 1) := by decide +kernel
theorem dX5_isSooner_3 : decode cX5_isSooner 3 = .ok (.invokevirtual 96, 3) := by decide +kernel
theorem dX5_isSooner_6 : decode cX5_isSooner 6 = .ok (.aload_n 0, 1) := by decide +kernel
theorem dX5_isSooner_7 : decode cX5_isSooner 7 = .ok (.iload_n 2, 1) := by decide +kernel
theorem dX5_isSooner_8 : decode cX5_isSooner 8 = .ok (.iconst 4, 1) := by decide +kernel
theorem dX5_isSooner_9 : decode cX5_isSooner 9 = .ok (.invokevirtual 96, 3) := by decide +kernel
theorem dX5_isSooner_12 : decode cX5_isSooner 12 = .ok (.if_icmp .eq 24, 3) := by decide +kernel
theorem dX5_isSooner_15 : decode cX5_isSooner 15 = .ok (.aload_n 0, 1) := by decide +kernel
theorem dX5_isSooner_16 : decode cX5_isSooner 16 = .ok (.iload_n 1, 1) := by decide +kernel
theorem dX5_isSooner_17 : decode cX5_isSooner 17 = .ok (.iconst 4, 1) := by decide +kernel
theorem dX5_isSooner_18 : decode cX5_isSooner 18 = .ok (.invokevirtual 96, 3) := by decide +kernel
theorem dX5_isSooner_21 : decode cX5_isSooner 21 = .ok (.aload_n 0, 1) := by decide +kernel
theorem dX5_isSooner_22 : decode cX5_isSooner 22 = .ok (.iload_n 2, 1) := by decide +kernel
theorem dX5_isSooner_23 : decode cX5_isSooner 23 = .ok (.iconst 4, 1) := by decide +kernel
theorem dX5_isSooner_24 : decode cX5_isSooner 24 = .ok (.invokevirtual 96, 3) := by decide +kernel
theorem dX5_isSooner_27 : decode cX5_isSooner 27 = .ok (.if_icmp .le 7, 3) := by decide +kernel
theorem dX5_isSooner_30 : decode cX5_isSooner 30 = .ok (.iconst 1, 1) := by decide +kernel
theorem dX5_isSooner_31 : decode cX5_isSooner 31 = .ok (.goto 4, 3) := by decide +kernel
theorem dX5_isSooner_34 : decode cX5_isSooner 34 = .ok (.iconst 0, 1) := by decide +kernel
theorem dX5_isSooner_35 : decode cX5_isSooner 35 = .ok (.ireturn, 1) := by decide +kernel
theorem dX5_isSooner_36 : decode cX5_isSooner 36 = .ok (.aload_n 0, 1) := by decide +kernel
theorem dX5_isSooner_37 : decode cX5_isSooner 37 = .ok (.iload_n 1, 1) := by decide +kernel
theorem dX5_isSooner_38 : decode cX5_isSooner 38 = .ok (.iconst 5, 1) := by decide +kernel
theorem dX5_isSooner_39 : decode cX5_isSooner 39 = .ok (.invokevirtual 96, 3) := by decide +kernel
theorem dX5_isSooner_42 : decode cX5_isSooner 42 = .ok (.aload_n 0, 1) := by decide +kernel
theorem dX5_isSooner_43 : decode cX5_isSooner 43 = .ok (.iload_n 2, 1) := by decide +kernel
theorem dX5_isSooner_44 : decode cX5_isSooner 44 = .ok (.iconst 5, 1) := by decide +kernel
theorem dX5_isSooner_45 : decode cX5_isSooner 45 = .ok (.invokevirtual 96, 3) := by decide +kernel
theorem dX5_isSooner_48 : decode cX5_isSooner 48 = .ok (.if_icmp .lt 23, 3) := by decide +kernel
theorem dX5_isSooner_51 : decode cX5_isSooner 51 = .ok (.aload_n 0, 1) := by decide +kernel
theorem dX5_isSooner_52 : decode cX5_isSooner 52 = .ok (.iload_n 1, 1) := by decide +kernel
theorem dX5_isSooner_53 : decode cX5_isSooner 53 = .ok (.iconst 5, 1) := by decide +kernel
theorem dX5_isSooner_54 : decode cX5_isSooner 54 = .ok (.invokevirtual 96, 3) := by decide +kernel
theorem dX5_isSooner_57 : decode cX5_isSooner 57 = .ok (.aload_n 0, 1) := by decide +kernel
theorem dX5_isSooner_58 : decode cX5_isSooner 58 = .ok (.iload_n 2, 1) := by decide +kernel
theorem dX5_isSooner_59 : decode cX5_isSooner 59 = .ok (.iconst 5, 1) := by decide +kernel
theorem dX5_isSooner_60 : decode cX5_isSooner 60 = .ok (.invokevirtual 96, 3) := by decide +kernel
theorem dX5_isSooner_63 : decode cX5_isSooner 63 = .ok (.if_icmp .ne 12, 3) := by decide +kernel
theorem dX5_isSooner_66 : decode cX5_isSooner 66 = .ok (.iload_n 1, 1) := by decide +kernel
theorem dX5_isSooner_67 : decode cX5_isSooner 67 = .ok (.iload_n 2, 1) := by decide +kernel
theorem dX5_isSooner_68 : decode cX5_isSooner 68 = .ok (.if_icmp .ge 7, 3) := by decide +kernel
theorem dX5_isSooner_71 : decode cX5_isSooner 71 = .ok (.iconst 1, 1) := by decide +kernel
theorem dX5_isSooner_72 : decode cX5_isSooner 72 = .ok (.goto 4, 3) := by decide +kernel
theorem dX5_isSooner_75 : decode cX5_isSooner 75 = .ok (.iconst 0, 1) := by decide +kernel
theorem dX5_isSooner_76 : decode cX5_isSooner 76 = .ok (.ireturn, 1) := by decide +kernel
theorem dX5_inQueue_0 : decode cX5_inQueue 0 = .ok (.iconst 0, 1) := by decide +kernel
theorem dX5_inQueue_1 : decode cX5_inQueue 1 = .ok (.istore_n 3, 1) := by decide +kernel
theorem dX5_inQueue_2 : decode cX5_inQueue 2 = .ok (.iload_n 3, 1) := by decide +kernel
theorem dX5_inQueue_3 : decode cX5_inQueue 3 = .ok (.aload_n 0, 1) := by decide +kernel
theorem dX5_inQueue_4 : decode cX5_inQueue 4 = .ok (.getfield 7, 3) := by decide +kernel
theorem dX5_inQueue_7 : decode cX5_inQueue 7 = .ok (.iconst 0, 1) := by decide +kernel
theorem dX5_inQueue_8 : decode cX5_inQueue 8 = .ok (.iaload, 1) := by decide +kernel
theorem dX5_inQueue_9 : decode cX5_inQueue 9 = .ok (.if_icmp .ge 82, 3) := by decide +kernel
theorem dX5_inQueue_12 : decode cX5_inQueue 12 = .ok (.aload_n 0, 1) := by decide +kernel
theorem dX5_inQueue_13 : decode cX5_inQueue 13 = .ok (.iload_n 3, 1) := by decide +kernel
theorem dX5_inQueue_14 : decode cX5_inQueue 14 = .ok (.iload_n 1, 1) := by decide +kernel
theorem dX5_inQueue_15 : decode cX5_inQueue 15 = .ok (.invokevirtual 107, 3) := by decide +kernel
theorem dX5_inQueue_18 : decode cX5_inQueue 18 = .ok (.ifCond .ne 6, 3) := by decide +kernel
theorem dX5_inQueue_21 : decode cX5_inQueue 21 = .ok (.goto 64, 3) := by decide +kernel
theorem dX5_inQueue_24 : decode cX5_inQueue 24 = .ok (.iconst 0, 1) := by decide +kernel
theorem dX5_inQueue_25 : decode cX5_inQueue 25 = .ok (.istore 4, 2) := by decide +kernel
theorem dX5_inQueue_27 : decode cX5_inQueue 27 = .ok (.iconst 0, 1) := by decide +kernel
theorem dX5_inQueue_28 : decode cX5_inQueue 28 = .ok (.istore 5, 2) := by decide +kernel
theorem dX5_inQueue_30 : decode cX5_inQueue 30 = .ok (.iload 5, 2) := by decide +kernel
theorem dX5_inQueue_32 : decode cX5_inQueue 32 = .ok (.aload_n 0, 1) := by decide +kernel
theorem dX5_inQueue_33 : decode cX5_inQueue 33 = .ok (.getfield 7, 3) := by decide +kernel
theorem dX5_inQueue_36 : decode cX5_inQueue 36 = .ok (.iconst 0, 1) := by decide +kernel
theorem dX5_inQueue_37 : decode cX5_inQueue 37 = .ok (.iaload, 1) := by decide +kernel
theorem dX5_inQueue_38 : decode cX5_inQueue 38 = .ok (.if_icmp .ge 39, 3) := by decide +kernel
theorem dX5_inQueue_41 : decode cX5_inQueue 41 = .ok (.iload 4, 2) := by decide +kernel
theorem dX5_inQueue_43 : decode cX5_inQueue 43 = .ok (.aload_n 0, 1) := by decide +kernel
theorem dX5_inQueue_44 : decode cX5_inQueue 44 = .ok (.iload 5, 2) := by decide +kernel
theorem dX5_inQueue_46 : decode cX5_inQueue 46 = .ok (.iload_n 1, 1) := by decide +kernel
theorem dX5_inQueue_47 : decode cX5_inQueue 47 = .ok (.invokevirtual 107, 3) := by decide +kernel
theorem dX5_inQueue_50 : decode cX5_inQueue 50 = .ok (.ifCond .eq 17, 3) := by decide +kernel
theorem dX5_inQueue_53 : decode cX5_inQueue 53 = .ok (.aload_n 0, 1) := by decide +kernel
theorem dX5_inQueue_54 : decode cX5_inQueue 54 = .ok (.iload 5, 2) := by decide +kernel
theorem dX5_inQueue_56 : decode cX5_inQueue 56 = .ok (.iload_n 3, 1) := by decide +kernel
theorem dX5_inQueue_57 : decode cX5_inQueue 57 = .ok (.invokevirtual 189, 3) := by decide +kernel
theorem dX5_inQueue_60 : decode cX5_inQueue 60 = .ok (.ifCond .eq 7, 3) := by decide +kernel
theorem dX5_inQueue_63 : decode cX5_inQueue 63 = .ok (.iconst 1, 1) := by decide +kernel
theorem dX5_inQueue_64 : decode cX5_inQueue 64 = .ok (.goto 4, 3) := by decide +kernel
theorem dX5_inQueue_67 : decode cX5_inQueue 67 = .ok (.iconst 0, 1) := by decide +kernel
theorem dX5_inQueue_68 : decode cX5_inQueue 68 = .ok (.iadd, 1) := by decide +kernel
theorem dX5_inQueue_69 : decode cX5_inQueue 69 = .ok (.istore 4, 2) := by decide +kernel
theorem dX5_inQueue_71 : decode cX5_inQueue 71 = .ok (.iinc 5 1, 3) := by decide +kernel
theorem dX5_inQueue_74 : decode cX5_inQueue 74 = .ok (.goto (-44), 3) := by decide +kernel
theorem dX5_inQueue_77 : decode cX5_inQueue 77 = .ok (.iload 4, 2) := by decide +kernel
theorem dX5_inQueue_79 : decode cX5_inQueue 79 = .ok (.iload_n 2, 1) := by decide +kernel
theorem dX5_inQueue_80 : decode cX5_inQueue 80 = .ok (.if_icmp .ne 5, 3) := by decide +kernel
theorem dX5_inQueue_83 : decode cX5_inQueue 83 = .ok (.iload_n 3, 1) := by decide +kernel
theorem dX5_inQueue_84 : decode cX5_inQueue 84 = .ok (.ireturn, 1) := by decide +kernel
theorem dX5_inQueue_85 : decode cX5_inQueue 85 = .ok (.iinc 3 1, 3) := by decide +kernel
theorem dX5_inQueue_88 : decode cX5_inQueue 88 = .ok (.goto (-86), 3) := by decide +kernel
theorem dX5_inQueue_91 : decode cX5_inQueue 91 = .ok (.iconst (-1), 1) := by decide +kernel
theorem dX5_inQueue_92 : decode cX5_inQueue 92 = .ok (.ireturn, 1) := by decide +kernel
theorem dX5_decides_0 : decode cX5_decides 0 = .ok (.iconst 0, 1) := by decide +kernel
theorem dX5_decides_1 : decode cX5_decides 1 = .ok (.istore_n 2, 1) := by decide +kernel
theorem dX5_decides_2 : decode cX5_decides 2 = .ok (.aload_n 0, 1) := by decide +kernel
theorem dX5_decides_3 : decode cX5_decides 3 = .ok (.iload_n 1, 1) := by decide +kernel
theorem dX5_decides_4 : decode cX5_decides 4 = .ok (.invokevirtual 165, 3) := by decide +kernel
theorem dX5_decides_7 : decode cX5_decides 7 = .ok (.ifCond .le 102, 3) := by decide +kernel
theorem dX5_decides_10 : decode cX5_decides 10 = .ok (.aload_n 0, 1) := by decide +kernel
theorem dX5_decides_11 : decode cX5_decides 11 = .ok (.iload_n 1, 1) := by decide +kernel
theorem dX5_decides_12 : decode cX5_decides 12 = .ok (.iconst 0, 1) := by decide +kernel
theorem dX5_decides_13 : decode cX5_decides 13 = .ok (.invokevirtual 192, 3) := by decide +kernel
theorem dX5_decides_16 : decode cX5_decides 16 = .ok (.istore_n 3, 1) := by decide +kernel
theorem dX5_decides_17 : decode cX5_decides 17 = .ok (.aload_n 0, 1) := by decide +kernel
theorem dX5_decides_18 : decode cX5_decides 18 = .ok (.iload_n 1, 1) := by decide +kernel
theorem dX5_decides_19 : decode cX5_decides 19 = .ok (.invokevirtual 195, 3) := by decide +kernel
theorem dX5_decides_22 : decode cX5_decides 22 = .ok (.aload_n 0, 1) := by decide +kernel
theorem dX5_decides_23 : decode cX5_decides 23 = .ok (.getfield 7, 3) := by decide +kernel
theorem dX5_decides_26 : decode cX5_decides 26 = .ok (.bipush 120, 2) := by decide +kernel
theorem dX5_decides_28 : decode cX5_decides 28 = .ok (.iload_n 1, 1) := by decide +kernel
theorem dX5_decides_29 : decode cX5_decides 29 = .ok (.iadd, 1) := by decide +kernel
theorem dX5_decides_30 : decode cX5_decides 30 = .ok (.iaload, 1) := by decide +kernel
theorem dX5_decides_31 : decode cX5_decides 31 = .ok (.if_icmp .ge 58, 3) := by decide +kernel
theorem dX5_decides_34 : decode cX5_decides 34 = .ok (.aload_n 0, 1) := by decide +kernel
theorem dX5_decides_35 : decode cX5_decides 35 = .ok (.iload_n 1, 1) := by decide +kernel
theorem dX5_decides_36 : decode cX5_decides 36 = .ok (.aload_n 0, 1) := by decide +kernel
theorem dX5_decides_37 : decode cX5_decides 37 = .ok (.iload_n 3, 1) := by decide +kernel
theorem dX5_decides_38 : decode cX5_decides 38 = .ok (.iconst 0, 1) := by decide +kernel
theorem dX5_decides_39 : decode cX5_decides 39 = .ok (.invokevirtual 96, 3) := by decide +kernel
theorem dX5_decides_42 : decode cX5_decides 42 = .ok (.invokevirtual 198, 3) := by decide +kernel
theorem dX5_decides_45 : decode cX5_decides 45 = .ok (.ifCond .ne 44, 3) := by decide +kernel
theorem dX5_decides_48 : decode cX5_decides 48 = .ok (.aload_n 0, 1) := by decide +kernel
theorem dX5_decides_49 : decode cX5_decides 49 = .ok (.iload_n 3, 1) := by decide +kernel
theorem dX5_decides_50 : decode cX5_decides 50 = .ok (.invokevirtual 125, 3) := by decide +kernel
theorem dX5_decides_53 : decode cX5_decides 53 = .ok (.aload_n 0, 1) := by decide +kernel
theorem dX5_decides_54 : decode cX5_decides 54 = .ok (.iload_n 3, 1) := by decide +kernel
theorem dX5_decides_55 : decode cX5_decides 55 = .ok (.iconst 2, 1) := by decide +kernel
theorem dX5_decides_56 : decode cX5_decides 56 = .ok (.iconst 3, 1) := by decide +kernel
theorem dX5_decides_57 : decode cX5_decides 57 = .ok (.invokevirtual 117, 3) := by decide +kernel
theorem dX5_decides_60 : decode cX5_decides 60 = .ok (.aload_n 0, 1) := by decide +kernel
theorem dX5_decides_61 : decode cX5_decides 61 = .ok (.iload_n 3, 1) := by decide +kernel
theorem dX5_decides_62 : decode cX5_decides 62 = .ok (.iconst 3, 1) := by decide +kernel
theorem dX5_decides_63 : decode cX5_decides 63 = .ok (.iload_n 1, 1) := by decide +kernel
theorem dX5_decides_64 : decode cX5_decides 64 = .ok (.invokevirtual 117, 3) := by decide +kernel
theorem dX5_decides_67 : decode cX5_decides 67 = .ok (.aload_n 0, 1) := by decide +kernel
theorem dX5_decides_68 : decode cX5_decides 68 = .ok (.iload_n 3, 1) := by decide +kernel
theorem dX5_decides_69 : decode cX5_decides 69 = .ok (.bipush 6, 2) := by decide +kernel
theorem dX5_decides_71 : decode cX5_decides 71 = .ok (.aload_n 0, 1) := by decide +kernel
theorem dX5_decides_72 : decode cX5_decides 72 = .ok (.getfield 7, 3) := by decide +kernel
theorem dX5_decides_75 : decode cX5_decides 75 = .ok (.iconst 1, 1) := by decide +kernel
theorem dX5_decides_76 : decode cX5_decides 76 = .ok (.iaload, 1) := by decide +kernel
theorem dX5_decides_77 : decode cX5_decides 77 = .ok (.bipush 10, 2) := by decide +kernel
theorem dX5_decides_79 : decode cX5_decides 79 = .ok (.iadd, 1) := by decide +kernel
theorem dX5_decides_80 : decode cX5_decides 80 = .ok (.invokevirtual 117, 3) := by decide +kernel
theorem dX5_decides_83 : decode cX5_decides 83 = .ok (.iinc 2 1, 3) := by decide +kernel
theorem dX5_decides_86 : decode cX5_decides 86 = .ok (.goto 20, 3) := by decide +kernel
theorem dX5_decides_89 : decode cX5_decides 89 = .ok (.aload_n 0, 1) := by decide +kernel
theorem dX5_decides_90 : decode cX5_decides 90 = .ok (.iload_n 3, 1) := by decide +kernel
theorem dX5_decides_91 : decode cX5_decides 91 = .ok (.iconst 2, 1) := by decide +kernel
theorem dX5_decides_92 : decode cX5_decides 92 = .ok (.iconst 2, 1) := by decide +kernel
theorem dX5_decides_93 : decode cX5_decides 93 = .ok (.invokevirtual 117, 3) := by decide +kernel
theorem dX5_decides_96 : decode cX5_decides 96 = .ok (.aload_n 0, 1) := by decide +kernel
theorem dX5_decides_97 : decode cX5_decides 97 = .ok (.getfield 7, 3) := by decide +kernel
theorem dX5_decides_100 : decode cX5_decides 100 = .ok (.iconst 3, 1) := by decide +kernel
theorem dX5_decides_101 : decode cX5_decides 101 = .ok (.dup2, 1) := by decide +kernel
theorem dX5_decides_102 : decode cX5_decides 102 = .ok (.iaload, 1) := by decide +kernel
theorem dX5_decides_103 : decode cX5_decides 103 = .ok (.iconst 1, 1) := by decide +kernel
theorem dX5_decides_104 : decode cX5_decides 104 = .ok (.iadd, 1) := by decide +kernel
theorem dX5_decides_105 : decode cX5_decides 105 = .ok (.iastore, 1) := by decide +kernel
theorem dX5_decides_106 : decode cX5_decides 106 = .ok (.goto (-104), 3) := by decide +kernel
theorem dX5_decides_109 : decode cX5_decides 109 = .ok (.aload_n 0, 1) := by decide +kernel
theorem dX5_decides_110 : decode cX5_decides 110 = .ok (.getfield 7, 3) := by decide +kernel
theorem dX5_decides_113 : decode cX5_decides 113 = .ok (.iconst 2, 1) := by decide +kernel
theorem dX5_decides_114 : decode cX5_decides 114 = .ok (.dup2, 1) := by decide +kernel
theorem dX5_decides_115 : decode cX5_decides 115 = .ok (.iaload, 1) := by decide +kernel
theorem dX5_decides_116 : decode cX5_decides 116 = .ok (.iload_n 2, 1) := by decide +kernel
theorem dX5_decides_117 : decode cX5_decides 117 = .ok (.iadd, 1) := by decide +kernel
theorem dX5_decides_118 : decode cX5_decides 118 = .ok (.iastore, 1) := by decide +kernel
theorem dX5_decides_119 : decode cX5_decides 119 = .ok (.iload_n 2, 1) := by decide +kernel
theorem dX5_decides_120 : decode cX5_decides 120 = .ok (.ireturn, 1) := by decide +kernel
theorem dX5_decide_0 : decode cX5_decide 0 = .ok (.aload_n 0, 1) := by decide +kernel
theorem dX5_decide_1 : decode cX5_decide 1 = .ok (.invokevirtual 129, 3) := by decide +kernel
theorem dX5_decide_4 : decode cX5_decide 4 = .ok (.iload_n 1, 1) := by decide +kernel
theorem dX5_decide_5 : decode cX5_decide 5 = .ok (.invokestatic 168, 3) := by decide +kernel
theorem dX5_decide_8 : decode cX5_decide 8 = .ok (.ifCond .eq 15, 3) := by decide +kernel
theorem dX5_decide_11 : decode cX5_decide 11 = .ok (.aload_n 0, 1) := by decide +kernel
theorem dX5_decide_12 : decode cX5_decide 12 = .ok (.aload_n 0, 1) := by decide +kernel
theorem dX5_decide_13 : decode cX5_decide 13 = .ok (.iload_n 1, 1) := by decide +kernel
theorem dX5_decide_14 : decode cX5_decide 14 = .ok (.invokevirtual 201, 3) := by decide +kernel
theorem dX5_decide_17 : decode cX5_decide 17 = .ok (.invokevirtual 145, 3) := by decide +kernel
theorem dX5_decide_20 : decode cX5_decide 20 = .ok (.goto 8, 3) := by decide +kernel
theorem dX5_decide_23 : decode cX5_decide 23 = .ok (.aload_n 0, 1) := by decide +kernel
theorem dX5_decide_24 : decode cX5_decide 24 = .ok (.iconst 1, 1) := by decide +kernel
theorem dX5_decide_25 : decode cX5_decide 25 = .ok (.invokevirtual 88, 3) := by decide +kernel
theorem dX5_decide_28 : decode cX5_decide 28 = .ok (.ireturn, 1) := by decide +kernel
theorem dX5_wouldAdmit_0 : decode cX5_wouldAdmit 0 = .ok (.aload_n 0, 1) := by decide +kernel
theorem dX5_wouldAdmit_1 : decode cX5_wouldAdmit 1 = .ok (.iload_n 1, 1) := by decide +kernel
theorem dX5_wouldAdmit_2 : decode cX5_wouldAdmit 2 = .ok (.invokestatic 168, 3) := by decide +kernel
theorem dX5_wouldAdmit_5 : decode cX5_wouldAdmit 5 = .ok (.invokevirtual 154, 3) := by decide +kernel
theorem dX5_wouldAdmit_8 : decode cX5_wouldAdmit 8 = .ok (.ifCond .le 5, 3) := by decide +kernel
theorem dX5_wouldAdmit_11 : decode cX5_wouldAdmit 11 = .ok (.iconst 0, 1) := by decide +kernel
theorem dX5_wouldAdmit_12 : decode cX5_wouldAdmit 12 = .ok (.ireturn, 1) := by decide +kernel
theorem dX5_wouldAdmit_13 : decode cX5_wouldAdmit 13 = .ok (.aload_n 0, 1) := by decide +kernel
theorem dX5_wouldAdmit_14 : decode cX5_wouldAdmit 14 = .ok (.getfield 7, 3) := by decide +kernel
theorem dX5_wouldAdmit_17 : decode cX5_wouldAdmit 17 = .ok (.iconst 0, 1) := by decide +kernel
theorem dX5_wouldAdmit_18 : decode cX5_wouldAdmit 18 = .ok (.aload_n 0, 1) := by decide +kernel
theorem dX5_wouldAdmit_19 : decode cX5_wouldAdmit 19 = .ok (.getfield 16, 3) := by decide +kernel
theorem dX5_wouldAdmit_22 : decode cX5_wouldAdmit 22 = .ok (.iconst 0, 1) := by decide +kernel
theorem dX5_wouldAdmit_23 : decode cX5_wouldAdmit 23 = .ok (.invokestatic 84, 3) := by decide +kernel
theorem dX5_wouldAdmit_26 : decode cX5_wouldAdmit 26 = .ok (.aload_n 0, 1) := by decide +kernel
theorem dX5_wouldAdmit_27 : decode cX5_wouldAdmit 27 = .ok (.iload_n 1, 1) := by decide +kernel
theorem dX5_wouldAdmit_28 : decode cX5_wouldAdmit 28 = .ok (.invokevirtual 201, 3) := by decide +kernel
theorem dX5_wouldAdmit_31 : decode cX5_wouldAdmit 31 = .ok (.istore_n 2, 1) := by decide +kernel
theorem dX5_wouldAdmit_32 : decode cX5_wouldAdmit 32 = .ok (.aload_n 0, 1) := by decide +kernel
theorem dX5_wouldAdmit_33 : decode cX5_wouldAdmit 33 = .ok (.getfield 16, 3) := by decide +kernel
theorem dX5_wouldAdmit_36 : decode cX5_wouldAdmit 36 = .ok (.iconst 0, 1) := by decide +kernel
theorem dX5_wouldAdmit_37 : decode cX5_wouldAdmit 37 = .ok (.aload_n 0, 1) := by decide +kernel
theorem dX5_wouldAdmit_38 : decode cX5_wouldAdmit 38 = .ok (.getfield 7, 3) := by decide +kernel
theorem dX5_wouldAdmit_41 : decode cX5_wouldAdmit 41 = .ok (.iconst 0, 1) := by decide +kernel
theorem dX5_wouldAdmit_42 : decode cX5_wouldAdmit 42 = .ok (.invokestatic 84, 3) := by decide +kernel
theorem dX5_wouldAdmit_45 : decode cX5_wouldAdmit 45 = .ok (.iload_n 2, 1) := by decide +kernel
theorem dX5_wouldAdmit_46 : decode cX5_wouldAdmit 46 = .ok (.ireturn, 1) := by decide +kernel
theorem dX5_queueAt_0 : decode cX5_queueAt 0 = .ok (.aload_n 0, 1) := by decide +kernel
theorem dX5_queueAt_1 : decode cX5_queueAt 1 = .ok (.iload_n 1, 1) := by decide +kernel
theorem dX5_queueAt_2 : decode cX5_queueAt 2 = .ok (.invokestatic 168, 3) := by decide +kernel
theorem dX5_queueAt_5 : decode cX5_queueAt 5 = .ok (.invokevirtual 154, 3) := by decide +kernel
theorem dX5_queueAt_8 : decode cX5_queueAt 8 = .ok (.ifCond .le 5, 3) := by decide +kernel
theorem dX5_queueAt_11 : decode cX5_queueAt 11 = .ok (.iconst 0, 1) := by decide +kernel
theorem dX5_queueAt_12 : decode cX5_queueAt 12 = .ok (.ireturn, 1) := by decide +kernel
theorem dX5_queueAt_13 : decode cX5_queueAt 13 = .ok (.aload_n 0, 1) := by decide +kernel
theorem dX5_queueAt_14 : decode cX5_queueAt 14 = .ok (.iload_n 1, 1) := by decide +kernel
theorem dX5_queueAt_15 : decode cX5_queueAt 15 = .ok (.iload_n 2, 1) := by decide +kernel
theorem dX5_queueAt_16 : decode cX5_queueAt 16 = .ok (.invokevirtual 192, 3) := by decide +kernel
theorem dX5_queueAt_19 : decode cX5_queueAt 19 = .ok (.istore_n 3, 1) := by decide +kernel
theorem dX5_queueAt_20 : decode cX5_queueAt 20 = .ok (.iload_n 3, 1) := by decide +kernel
theorem dX5_queueAt_21 : decode cX5_queueAt 21 = .ok (.ifCond .ge 11, 3) := by decide +kernel
theorem dX5_queueAt_24 : decode cX5_queueAt 24 = .ok (.aload_n 0, 1) := by decide +kernel
theorem dX5_queueAt_25 : decode cX5_queueAt 25 = .ok (.iconst 2, 1) := by decide +kernel
theorem dX5_queueAt_26 : decode cX5_queueAt 26 = .ok (.invokevirtual 88, 3) := by decide +kernel
theorem dX5_queueAt_29 : decode cX5_queueAt 29 = .ok (.goto 4, 3) := by decide +kernel
theorem dX5_queueAt_32 : decode cX5_queueAt 32 = .ok (.iload_n 3, 1) := by decide +kernel
theorem dX5_queueAt_33 : decode cX5_queueAt 33 = .ok (.ireturn, 1) := by decide +kernel
theorem dX5_pendingCount_0 : decode cX5_pendingCount 0 = .ok (.aload_n 0, 1) := by decide +kernel
theorem dX5_pendingCount_1 : decode cX5_pendingCount 1 = .ok (.iload_n 1, 1) := by decide +kernel
theorem dX5_pendingCount_2 : decode cX5_pendingCount 2 = .ok (.invokestatic 168, 3) := by decide +kernel
theorem dX5_pendingCount_5 : decode cX5_pendingCount 5 = .ok (.invokevirtual 154, 3) := by decide +kernel
theorem dX5_pendingCount_8 : decode cX5_pendingCount 8 = .ok (.ifCond .le 7, 3) := by decide +kernel
theorem dX5_pendingCount_11 : decode cX5_pendingCount 11 = .ok (.iconst 0, 1) := by decide +kernel
theorem dX5_pendingCount_12 : decode cX5_pendingCount 12 = .ok (.goto 8, 3) := by decide +kernel
theorem dX5_pendingCount_15 : decode cX5_pendingCount 15 = .ok (.aload_n 0, 1) := by decide +kernel
theorem dX5_pendingCount_16 : decode cX5_pendingCount 16 = .ok (.iload_n 1, 1) := by decide +kernel
theorem dX5_pendingCount_17 : decode cX5_pendingCount 17 = .ok (.invokevirtual 165, 3) := by decide +kernel
theorem dX5_pendingCount_20 : decode cX5_pendingCount 20 = .ok (.ireturn, 1) := by decide +kernel
theorem dX5_isNoResident_0 : decode cX5_isNoResident 0 = .ok (.aload_n 0, 1) := by decide +kernel
theorem dX5_isNoResident_1 : decode cX5_isNoResident 1 = .ok (.aload_n 0, 1) := by decide +kernel
theorem dX5_isNoResident_2 : decode cX5_isNoResident 2 = .ok (.iload_n 1, 1) := by decide +kernel
theorem dX5_isNoResident_3 : decode cX5_isNoResident 3 = .ok (.iconst 3, 1) := by decide +kernel
theorem dX5_isNoResident_4 : decode cX5_isNoResident 4 = .ok (.invokevirtual 100, 3) := by decide +kernel
theorem dX5_isNoResident_7 : decode cX5_isNoResident 7 = .ok (.ifCond .ne 7, 3) := by decide +kernel
theorem dX5_isNoResident_10 : decode cX5_isNoResident 10 = .ok (.iconst 1, 1) := by decide +kernel
theorem dX5_isNoResident_11 : decode cX5_isNoResident 11 = .ok (.goto 4, 3) := by decide +kernel
theorem dX5_isNoResident_14 : decode cX5_isNoResident 14 = .ok (.iconst 0, 1) := by decide +kernel
theorem dX5_isNoResident_15 : decode cX5_isNoResident 15 = .ok (.bipush 6, 2) := by decide +kernel
theorem dX5_isNoResident_17 : decode cX5_isNoResident 17 = .ok (.iload_n 1, 1) := by decide +kernel
theorem dX5_isNoResident_18 : decode cX5_isNoResident 18 = .ok (.invokevirtual 121, 3) := by decide +kernel
theorem dX5_isNoResident_21 : decode cX5_isNoResident 21 = .ok (.ireturn, 1) := by decide +kernel
theorem dX5_cannotRenew_0 : decode cX5_cannotRenew 0 = .ok (.aload_n 0, 1) := by decide +kernel
theorem dX5_cannotRenew_1 : decode cX5_cannotRenew 1 = .ok (.iload_n 1, 1) := by decide +kernel
theorem dX5_cannotRenew_2 : decode cX5_cannotRenew 2 = .ok (.invokevirtual 204, 3) := by decide +kernel
theorem dX5_cannotRenew_5 : decode cX5_cannotRenew 5 = .ok (.ifCond .ne 45, 3) := by decide +kernel
theorem dX5_cannotRenew_8 : decode cX5_cannotRenew 8 = .ok (.aload_n 0, 1) := by decide +kernel
theorem dX5_cannotRenew_9 : decode cX5_cannotRenew 9 = .ok (.aload_n 0, 1) := by decide +kernel
theorem dX5_cannotRenew_10 : decode cX5_cannotRenew 10 = .ok (.iload_n 1, 1) := by decide +kernel
theorem dX5_cannotRenew_11 : decode cX5_cannotRenew 11 = .ok (.bipush 6, 2) := by decide +kernel
theorem dX5_cannotRenew_13 : decode cX5_cannotRenew 13 = .ok (.invokevirtual 96, 3) := by decide +kernel
theorem dX5_cannotRenew_16 : decode cX5_cannotRenew 16 = .ok (.iload_n 2, 1) := by decide +kernel
theorem dX5_cannotRenew_17 : decode cX5_cannotRenew 17 = .ok (.iadd, 1) := by decide +kernel
theorem dX5_cannotRenew_18 : decode cX5_cannotRenew 18 = .ok (.aload_n 0, 1) := by decide +kernel
theorem dX5_cannotRenew_19 : decode cX5_cannotRenew 19 = .ok (.getfield 7, 3) := by decide +kernel
theorem dX5_cannotRenew_22 : decode cX5_cannotRenew 22 = .ok (.iconst 1, 1) := by decide +kernel
theorem dX5_cannotRenew_23 : decode cX5_cannotRenew 23 = .ok (.iaload, 1) := by decide +kernel
theorem dX5_cannotRenew_24 : decode cX5_cannotRenew 24 = .ok (.bipush 20, 2) := by decide +kernel
theorem dX5_cannotRenew_26 : decode cX5_cannotRenew 26 = .ok (.iadd, 1) := by decide +kernel
theorem dX5_cannotRenew_27 : decode cX5_cannotRenew 27 = .ok (.if_icmp .le 7, 3) := by decide +kernel
theorem dX5_cannotRenew_30 : decode cX5_cannotRenew 30 = .ok (.iconst 1, 1) := by decide +kernel
theorem dX5_cannotRenew_31 : decode cX5_cannotRenew 31 = .ok (.goto 4, 3) := by decide +kernel
theorem dX5_cannotRenew_34 : decode cX5_cannotRenew 34 = .ok (.iconst 0, 1) := by decide +kernel
theorem dX5_cannotRenew_35 : decode cX5_cannotRenew 35 = .ok (.bipush 7, 2) := by decide +kernel
theorem dX5_cannotRenew_37 : decode cX5_cannotRenew 37 = .ok (.aload_n 0, 1) := by decide +kernel
theorem dX5_cannotRenew_38 : decode cX5_cannotRenew 38 = .ok (.iload_n 1, 1) := by decide +kernel
theorem dX5_cannotRenew_39 : decode cX5_cannotRenew 39 = .ok (.bipush 6, 2) := by decide +kernel
theorem dX5_cannotRenew_41 : decode cX5_cannotRenew 41 = .ok (.invokevirtual 96, 3) := by decide +kernel
theorem dX5_cannotRenew_44 : decode cX5_cannotRenew 44 = .ok (.invokevirtual 121, 3) := by decide +kernel
theorem dX5_cannotRenew_47 : decode cX5_cannotRenew 47 = .ok (.ifCond .eq 7, 3) := by decide +kernel
theorem dX5_cannotRenew_50 : decode cX5_cannotRenew 50 = .ok (.iconst 1, 1) := by decide +kernel
theorem dX5_cannotRenew_51 : decode cX5_cannotRenew 51 = .ok (.goto 4, 3) := by decide +kernel
theorem dX5_cannotRenew_54 : decode cX5_cannotRenew 54 = .ok (.iconst 0, 1) := by decide +kernel
theorem dX5_cannotRenew_55 : decode cX5_cannotRenew 55 = .ok (.ireturn, 1) := by decide +kernel
theorem dX5_renews_0 : decode cX5_renews 0 = .ok (.aload_n 0, 1) := by decide +kernel
theorem dX5_renews_1 : decode cX5_renews 1 = .ok (.iload_n 1, 1) := by decide +kernel
theorem dX5_renews_2 : decode cX5_renews 2 = .ok (.bipush 6, 2) := by decide +kernel
theorem dX5_renews_4 : decode cX5_renews 4 = .ok (.aload_n 0, 1) := by decide +kernel
theorem dX5_renews_5 : decode cX5_renews 5 = .ok (.iload_n 1, 1) := by decide +kernel
theorem dX5_renews_6 : decode cX5_renews 6 = .ok (.bipush 6, 2) := by decide +kernel
theorem dX5_renews_8 : decode cX5_renews 8 = .ok (.invokevirtual 96, 3) := by decide +kernel
theorem dX5_renews_11 : decode cX5_renews 11 = .ok (.iload_n 2, 1) := by decide +kernel
theorem dX5_renews_12 : decode cX5_renews 12 = .ok (.iadd, 1) := by decide +kernel
theorem dX5_renews_13 : decode cX5_renews 13 = .ok (.invokevirtual 117, 3) := by decide +kernel
theorem dX5_renews_16 : decode cX5_renews 16 = .ok (.aload_n 0, 1) := by decide +kernel
theorem dX5_renews_17 : decode cX5_renews 17 = .ok (.iload_n 1, 1) := by decide +kernel
theorem dX5_renews_18 : decode cX5_renews 18 = .ok (.bipush 6, 2) := by decide +kernel
theorem dX5_renews_20 : decode cX5_renews 20 = .ok (.invokevirtual 96, 3) := by decide +kernel
theorem dX5_renews_23 : decode cX5_renews 23 = .ok (.ireturn, 1) := by decide +kernel
theorem dX5_renew_0 : decode cX5_renew 0 = .ok (.aload_n 0, 1) := by decide +kernel
theorem dX5_renew_1 : decode cX5_renew 1 = .ok (.invokevirtual 129, 3) := by decide +kernel
theorem dX5_renew_4 : decode cX5_renew 4 = .ok (.aload_n 0, 1) := by decide +kernel
theorem dX5_renew_5 : decode cX5_renew 5 = .ok (.iload_n 1, 1) := by decide +kernel
theorem dX5_renew_6 : decode cX5_renew 6 = .ok (.invokevirtual 151, 3) := by decide +kernel
theorem dX5_renew_9 : decode cX5_renew 9 = .ok (.ifCond .ne 9, 3) := by decide +kernel
theorem dX5_renew_12 : decode cX5_renew 12 = .ok (.aload_n 0, 1) := by decide +kernel
theorem dX5_renew_13 : decode cX5_renew 13 = .ok (.iconst 1, 1) := by decide +kernel
theorem dX5_renew_14 : decode cX5_renew 14 = .ok (.invokevirtual 88, 3) := by decide +kernel
theorem dX5_renew_17 : decode cX5_renew 17 = .ok (.ireturn, 1) := by decide +kernel
theorem dX5_renew_18 : decode cX5_renew 18 = .ok (.iload_n 2, 1) := by decide +kernel
theorem dX5_renew_19 : decode cX5_renew 19 = .ok (.iconst 1, 1) := by decide +kernel
theorem dX5_renew_20 : decode cX5_renew 20 = .ok (.bipush 9, 2) := by decide +kernel
theorem dX5_renew_22 : decode cX5_renew 22 = .ok (.invokestatic 92, 3) := by decide +kernel
theorem dX5_renew_25 : decode cX5_renew 25 = .ok (.ifCond .ne 9, 3) := by decide +kernel
theorem dX5_renew_28 : decode cX5_renew 28 = .ok (.aload_n 0, 1) := by decide +kernel
theorem dX5_renew_29 : decode cX5_renew 29 = .ok (.iconst 2, 1) := by decide +kernel
theorem dX5_renew_30 : decode cX5_renew 30 = .ok (.invokevirtual 88, 3) := by decide +kernel
theorem dX5_renew_33 : decode cX5_renew 33 = .ok (.ireturn, 1) := by decide +kernel
theorem dX5_renew_34 : decode cX5_renew 34 = .ok (.aload_n 0, 1) := by decide +kernel
theorem dX5_renew_35 : decode cX5_renew 35 = .ok (.iload_n 1, 1) := by decide +kernel
theorem dX5_renew_36 : decode cX5_renew 36 = .ok (.iload_n 2, 1) := by decide +kernel
theorem dX5_renew_37 : decode cX5_renew 37 = .ok (.invokevirtual 207, 3) := by decide +kernel
theorem dX5_renew_40 : decode cX5_renew 40 = .ok (.ifCond .eq 11, 3) := by decide +kernel
theorem dX5_renew_43 : decode cX5_renew 43 = .ok (.aload_n 0, 1) := by decide +kernel
theorem dX5_renew_44 : decode cX5_renew 44 = .ok (.iconst 3, 1) := by decide +kernel
theorem dX5_renew_45 : decode cX5_renew 45 = .ok (.invokevirtual 139, 3) := by decide +kernel
theorem dX5_renew_48 : decode cX5_renew 48 = .ok (.goto 13, 3) := by decide +kernel
theorem dX5_renew_51 : decode cX5_renew 51 = .ok (.aload_n 0, 1) := by decide +kernel
theorem dX5_renew_52 : decode cX5_renew 52 = .ok (.aload_n 0, 1) := by decide +kernel
theorem dX5_renew_53 : decode cX5_renew 53 = .ok (.iload_n 1, 1) := by decide +kernel
theorem dX5_renew_54 : decode cX5_renew 54 = .ok (.iload_n 2, 1) := by decide +kernel
theorem dX5_renew_55 : decode cX5_renew 55 = .ok (.invokevirtual 210, 3) := by decide +kernel
theorem dX5_renew_58 : decode cX5_renew 58 = .ok (.invokevirtual 145, 3) := by decide +kernel
theorem dX5_renew_61 : decode cX5_renew 61 = .ok (.ireturn, 1) := by decide +kernel
theorem dX5_isBound_0 : decode cX5_isBound 0 = .ok (.aload_n 0, 1) := by decide +kernel
theorem dX5_isBound_1 : decode cX5_isBound 1 = .ok (.aload_n 0, 1) := by decide +kernel
theorem dX5_isBound_2 : decode cX5_isBound 2 = .ok (.iload_n 1, 1) := by decide +kernel
theorem dX5_isBound_3 : decode cX5_isBound 3 = .ok (.invokevirtual 110, 3) := by decide +kernel
theorem dX5_isBound_6 : decode cX5_isBound 6 = .ok (.bipush 8, 2) := by decide +kernel
theorem dX5_isBound_8 : decode cX5_isBound 8 = .ok (.aload_n 0, 1) := by decide +kernel
theorem dX5_isBound_9 : decode cX5_isBound 9 = .ok (.iload_n 1, 1) := by decide +kernel
theorem dX5_isBound_10 : decode cX5_isBound 10 = .ok (.bipush 7, 2) := by decide +kernel
theorem dX5_isBound_12 : decode cX5_isBound 12 = .ok (.invokevirtual 96, 3) := by decide +kernel
theorem dX5_isBound_15 : decode cX5_isBound 15 = .ok (.invokevirtual 121, 3) := by decide +kernel
theorem dX5_isBound_18 : decode cX5_isBound 18 = .ok (.ireturn, 1) := by decide +kernel
theorem dX5_cannotLeave_0 : decode cX5_cannotLeave 0 = .ok (.aload_n 0, 1) := by decide +kernel
theorem dX5_cannotLeave_1 : decode cX5_cannotLeave 1 = .ok (.iload_n 1, 1) := by decide +kernel
theorem dX5_cannotLeave_2 : decode cX5_cannotLeave 2 = .ok (.invokevirtual 204, 3) := by decide +kernel
theorem dX5_cannotLeave_5 : decode cX5_cannotLeave 5 = .ok (.ifCond .ne 11, 3) := by decide +kernel
theorem dX5_cannotLeave_8 : decode cX5_cannotLeave 8 = .ok (.aload_n 0, 1) := by decide +kernel
theorem dX5_cannotLeave_9 : decode cX5_cannotLeave 9 = .ok (.iload_n 1, 1) := by decide +kernel
theorem dX5_cannotLeave_10 : decode cX5_cannotLeave 10 = .ok (.invokevirtual 213, 3) := by decide +kernel
theorem dX5_cannotLeave_13 : decode cX5_cannotLeave 13 = .ok (.ifCond .eq 7, 3) := by decide +kernel
theorem dX5_cannotLeave_16 : decode cX5_cannotLeave 16 = .ok (.iconst 1, 1) := by decide +kernel
theorem dX5_cannotLeave_17 : decode cX5_cannotLeave 17 = .ok (.goto 4, 3) := by decide +kernel
theorem dX5_cannotLeave_20 : decode cX5_cannotLeave 20 = .ok (.iconst 0, 1) := by decide +kernel
theorem dX5_cannotLeave_21 : decode cX5_cannotLeave 21 = .ok (.ireturn, 1) := by decide +kernel
theorem dX5_leaves_0 : decode cX5_leaves 0 = .ok (.aload_n 0, 1) := by decide +kernel
theorem dX5_leaves_1 : decode cX5_leaves 1 = .ok (.iload_n 1, 1) := by decide +kernel
theorem dX5_leaves_2 : decode cX5_leaves 2 = .ok (.bipush 6, 2) := by decide +kernel
theorem dX5_leaves_4 : decode cX5_leaves 4 = .ok (.invokevirtual 96, 3) := by decide +kernel
theorem dX5_leaves_7 : decode cX5_leaves 7 = .ok (.aload_n 0, 1) := by decide +kernel
theorem dX5_leaves_8 : decode cX5_leaves 8 = .ok (.getfield 7, 3) := by decide +kernel
theorem dX5_leaves_11 : decode cX5_leaves 11 = .ok (.iconst 1, 1) := by decide +kernel
theorem dX5_leaves_12 : decode cX5_leaves 12 = .ok (.iaload, 1) := by decide +kernel
theorem dX5_leaves_13 : decode cX5_leaves 13 = .ok (.isub, 1) := by decide +kernel
theorem dX5_leaves_14 : decode cX5_leaves 14 = .ok (.istore_n 2, 1) := by decide +kernel
theorem dX5_leaves_15 : decode cX5_leaves 15 = .ok (.aload_n 0, 1) := by decide +kernel
theorem dX5_leaves_16 : decode cX5_leaves 16 = .ok (.iload_n 1, 1) := by decide +kernel
theorem dX5_leaves_17 : decode cX5_leaves 17 = .ok (.invokevirtual 125, 3) := by decide +kernel
theorem dX5_leaves_20 : decode cX5_leaves 20 = .ok (.iload_n 2, 1) := by decide +kernel
theorem dX5_leaves_21 : decode cX5_leaves 21 = .ok (.ireturn, 1) := by decide +kernel
theorem dX5_leave_0 : decode cX5_leave 0 = .ok (.aload_n 0, 1) := by decide +kernel
theorem dX5_leave_1 : decode cX5_leave 1 = .ok (.invokevirtual 129, 3) := by decide +kernel
theorem dX5_leave_4 : decode cX5_leave 4 = .ok (.aload_n 0, 1) := by decide +kernel
theorem dX5_leave_5 : decode cX5_leave 5 = .ok (.iload_n 1, 1) := by decide +kernel
theorem dX5_leave_6 : decode cX5_leave 6 = .ok (.invokevirtual 151, 3) := by decide +kernel
theorem dX5_leave_9 : decode cX5_leave 9 = .ok (.ifCond .ne 9, 3) := by decide +kernel
theorem dX5_leave_12 : decode cX5_leave 12 = .ok (.aload_n 0, 1) := by decide +kernel
theorem dX5_leave_13 : decode cX5_leave 13 = .ok (.iconst 1, 1) := by decide +kernel
theorem dX5_leave_14 : decode cX5_leave 14 = .ok (.invokevirtual 88, 3) := by decide +kernel
theorem dX5_leave_17 : decode cX5_leave 17 = .ok (.ireturn, 1) := by decide +kernel
theorem dX5_leave_18 : decode cX5_leave 18 = .ok (.aload_n 0, 1) := by decide +kernel
theorem dX5_leave_19 : decode cX5_leave 19 = .ok (.iload_n 1, 1) := by decide +kernel
theorem dX5_leave_20 : decode cX5_leave 20 = .ok (.invokevirtual 216, 3) := by decide +kernel
theorem dX5_leave_23 : decode cX5_leave 23 = .ok (.ifCond .eq 11, 3) := by decide +kernel
theorem dX5_leave_26 : decode cX5_leave 26 = .ok (.aload_n 0, 1) := by decide +kernel
theorem dX5_leave_27 : decode cX5_leave 27 = .ok (.iconst 2, 1) := by decide +kernel
theorem dX5_leave_28 : decode cX5_leave 28 = .ok (.invokevirtual 139, 3) := by decide +kernel
theorem dX5_leave_31 : decode cX5_leave 31 = .ok (.goto 12, 3) := by decide +kernel
theorem dX5_leave_34 : decode cX5_leave 34 = .ok (.aload_n 0, 1) := by decide +kernel
theorem dX5_leave_35 : decode cX5_leave 35 = .ok (.aload_n 0, 1) := by decide +kernel
theorem dX5_leave_36 : decode cX5_leave 36 = .ok (.iload_n 1, 1) := by decide +kernel
theorem dX5_leave_37 : decode cX5_leave 37 = .ok (.invokevirtual 219, 3) := by decide +kernel
theorem dX5_leave_40 : decode cX5_leave 40 = .ok (.invokevirtual 145, 3) := by decide +kernel
theorem dX5_leave_43 : decode cX5_leave 43 = .ok (.ireturn, 1) := by decide +kernel
theorem dX5_treatyOf_0 : decode cX5_treatyOf 0 = .ok (.sipush 130, 3) := by decide +kernel
theorem dX5_treatyOf_3 : decode cX5_treatyOf 3 = .ok (.iload_n 0, 1) := by decide +kernel
theorem dX5_treatyOf_4 : decode cX5_treatyOf 4 = .ok (.iload_n 1, 1) := by decide +kernel
theorem dX5_treatyOf_5 : decode cX5_treatyOf 5 = .ok (.if_icmp .ge 11, 3) := by decide +kernel
theorem dX5_treatyOf_8 : decode cX5_treatyOf 8 = .ok (.iconst 5, 1) := by decide +kernel
theorem dX5_treatyOf_9 : decode cX5_treatyOf 9 = .ok (.iload_n 0, 1) := by decide +kernel
theorem dX5_treatyOf_10 : decode cX5_treatyOf 10 = .ok (.imul, 1) := by decide +kernel
theorem dX5_treatyOf_11 : decode cX5_treatyOf 11 = .ok (.iload_n 1, 1) := by decide +kernel
theorem dX5_treatyOf_12 : decode cX5_treatyOf 12 = .ok (.iadd, 1) := by decide +kernel
theorem dX5_treatyOf_13 : decode cX5_treatyOf 13 = .ok (.goto 8, 3) := by decide +kernel
theorem dX5_treatyOf_16 : decode cX5_treatyOf 16 = .ok (.iconst 5, 1) := by decide +kernel
theorem dX5_treatyOf_17 : decode cX5_treatyOf 17 = .ok (.iload_n 1, 1) := by decide +kernel
theorem dX5_treatyOf_18 : decode cX5_treatyOf 18 = .ok (.imul, 1) := by decide +kernel
theorem dX5_treatyOf_19 : decode cX5_treatyOf 19 = .ok (.iload_n 0, 1) := by decide +kernel
theorem dX5_treatyOf_20 : decode cX5_treatyOf 20 = .ok (.iadd, 1) := by decide +kernel
theorem dX5_treatyOf_21 : decode cX5_treatyOf 21 = .ok (.iadd, 1) := by decide +kernel
theorem dX5_treatyOf_22 : decode cX5_treatyOf 22 = .ok (.ireturn, 1) := by decide +kernel
theorem dX5_cannotMove_0 : decode cX5_cannotMove 0 = .ok (.aload_n 0, 1) := by decide +kernel
theorem dX5_cannotMove_1 : decode cX5_cannotMove 1 = .ok (.iload_n 1, 1) := by decide +kernel
theorem dX5_cannotMove_2 : decode cX5_cannotMove 2 = .ok (.invokevirtual 204, 3) := by decide +kernel
theorem dX5_cannotMove_5 : decode cX5_cannotMove 5 = .ok (.ifCond .ne 11, 3) := by decide +kernel
theorem dX5_cannotMove_8 : decode cX5_cannotMove 8 = .ok (.aload_n 0, 1) := by decide +kernel
theorem dX5_cannotMove_9 : decode cX5_cannotMove 9 = .ok (.iload_n 1, 1) := by decide +kernel
theorem dX5_cannotMove_10 : decode cX5_cannotMove 10 = .ok (.invokevirtual 213, 3) := by decide +kernel
theorem dX5_cannotMove_13 : decode cX5_cannotMove 13 = .ok (.ifCond .eq 5, 3) := by decide +kernel
theorem dX5_cannotMove_16 : decode cX5_cannotMove 16 = .ok (.iconst 1, 1) := by decide +kernel
theorem dX5_cannotMove_17 : decode cX5_cannotMove 17 = .ok (.ireturn, 1) := by decide +kernel
theorem dX5_cannotMove_18 : decode cX5_cannotMove 18 = .ok (.aload_n 0, 1) := by decide +kernel
theorem dX5_cannotMove_19 : decode cX5_cannotMove 19 = .ok (.iload_n 1, 1) := by decide +kernel
theorem dX5_cannotMove_20 : decode cX5_cannotMove 20 = .ok (.iconst 3, 1) := by decide +kernel
theorem dX5_cannotMove_21 : decode cX5_cannotMove 21 = .ok (.invokevirtual 96, 3) := by decide +kernel
theorem dX5_cannotMove_24 : decode cX5_cannotMove 24 = .ok (.istore_n 3, 1) := by decide +kernel
theorem dX5_cannotMove_25 : decode cX5_cannotMove 25 = .ok (.iload_n 3, 1) := by decide +kernel
theorem dX5_cannotMove_26 : decode cX5_cannotMove 26 = .ok (.iload_n 2, 1) := by decide +kernel
theorem dX5_cannotMove_27 : decode cX5_cannotMove 27 = .ok (.if_icmp .ne 7, 3) := by decide +kernel
theorem dX5_cannotMove_30 : decode cX5_cannotMove 30 = .ok (.iconst 0, 1) := by decide +kernel
theorem dX5_cannotMove_31 : decode cX5_cannotMove 31 = .ok (.goto 13, 3) := by decide +kernel
theorem dX5_cannotMove_34 : decode cX5_cannotMove 34 = .ok (.aload_n 0, 1) := by decide +kernel
theorem dX5_cannotMove_35 : decode cX5_cannotMove 35 = .ok (.getfield 7, 3) := by decide +kernel
theorem dX5_cannotMove_38 : decode cX5_cannotMove 38 = .ok (.iload_n 3, 1) := by decide +kernel
theorem dX5_cannotMove_39 : decode cX5_cannotMove 39 = .ok (.iload_n 2, 1) := by decide +kernel
theorem dX5_cannotMove_40 : decode cX5_cannotMove 40 = .ok (.invokestatic 222, 3) := by decide +kernel
theorem dX5_cannotMove_43 : decode cX5_cannotMove 43 = .ok (.iaload, 1) := by decide +kernel
theorem dX5_cannotMove_44 : decode cX5_cannotMove 44 = .ok (.istore 4, 2) := by decide +kernel
theorem dX5_cannotMove_46 : decode cX5_cannotMove 46 = .ok (.aload_n 0, 1) := by decide +kernel
theorem dX5_cannotMove_47 : decode cX5_cannotMove 47 = .ok (.iload 4, 2) := by decide +kernel
theorem dX5_cannotMove_49 : decode cX5_cannotMove 49 = .ok (.ifCond .ne 7, 3) := by decide +kernel
theorem dX5_cannotMove_52 : decode cX5_cannotMove 52 = .ok (.iconst 1, 1) := by decide +kernel
theorem dX5_cannotMove_53 : decode cX5_cannotMove 53 = .ok (.goto 4, 3) := by decide +kernel
theorem dX5_cannotMove_56 : decode cX5_cannotMove 56 = .ok (.iconst 0, 1) := by decide +kernel
theorem dX5_cannotMove_57 : decode cX5_cannotMove 57 = .ok (.bipush 12, 2) := by decide +kernel
theorem dX5_cannotMove_59 : decode cX5_cannotMove 59 = .ok (.iload_n 3, 1) := by decide +kernel
theorem dX5_cannotMove_60 : decode cX5_cannotMove 60 = .ok (.invokevirtual 121, 3) := by decide +kernel
theorem dX5_cannotMove_63 : decode cX5_cannotMove 63 = .ok (.ifCond .ne 42, 3) := by decide +kernel
theorem dX5_cannotMove_66 : decode cX5_cannotMove 66 = .ok (.aload_n 0, 1) := by decide +kernel
theorem dX5_cannotMove_67 : decode cX5_cannotMove 67 = .ok (.iload 4, 2) := by decide +kernel
theorem dX5_cannotMove_69 : decode cX5_cannotMove 69 = .ok (.bipush 120, 2) := by decide +kernel
theorem dX5_cannotMove_71 : decode cX5_cannotMove 71 = .ok (.if_icmp .ne 20, 3) := by decide +kernel
theorem dX5_cannotMove_74 : decode cX5_cannotMove 74 = .ok (.aload_n 0, 1) := by decide +kernel
theorem dX5_cannotMove_75 : decode cX5_cannotMove 75 = .ok (.iload_n 2, 1) := by decide +kernel
theorem dX5_cannotMove_76 : decode cX5_cannotMove 76 = .ok (.invokevirtual 195, 3) := by decide +kernel
theorem dX5_cannotMove_79 : decode cX5_cannotMove 79 = .ok (.aload_n 0, 1) := by decide +kernel
theorem dX5_cannotMove_80 : decode cX5_cannotMove 80 = .ok (.iload_n 3, 1) := by decide +kernel
theorem dX5_cannotMove_81 : decode cX5_cannotMove 81 = .ok (.invokevirtual 195, 3) := by decide +kernel
theorem dX5_cannotMove_84 : decode cX5_cannotMove 84 = .ok (.if_icmp .lt 7, 3) := by decide +kernel
theorem dX5_cannotMove_87 : decode cX5_cannotMove 87 = .ok (.iconst 1, 1) := by decide +kernel
theorem dX5_cannotMove_88 : decode cX5_cannotMove 88 = .ok (.goto 4, 3) := by decide +kernel
theorem dX5_cannotMove_91 : decode cX5_cannotMove 91 = .ok (.iconst 0, 1) := by decide +kernel
theorem dX5_cannotMove_92 : decode cX5_cannotMove 92 = .ok (.bipush 13, 2) := by decide +kernel
theorem dX5_cannotMove_94 : decode cX5_cannotMove 94 = .ok (.aload_n 0, 1) := by decide +kernel
theorem dX5_cannotMove_95 : decode cX5_cannotMove 95 = .ok (.iload_n 3, 1) := by decide +kernel
theorem dX5_cannotMove_96 : decode cX5_cannotMove 96 = .ok (.invokevirtual 195, 3) := by decide +kernel
theorem dX5_cannotMove_99 : decode cX5_cannotMove 99 = .ok (.invokevirtual 121, 3) := by decide +kernel
theorem dX5_cannotMove_102 : decode cX5_cannotMove 102 = .ok (.ifCond .eq 5, 3) := by decide +kernel
theorem dX5_cannotMove_105 : decode cX5_cannotMove 105 = .ok (.iconst 1, 1) := by decide +kernel
theorem dX5_cannotMove_106 : decode cX5_cannotMove 106 = .ok (.ireturn, 1) := by decide +kernel
theorem dX5_cannotMove_107 : decode cX5_cannotMove 107 = .ok (.aload_n 0, 1) := by decide +kernel
theorem dX5_cannotMove_108 : decode cX5_cannotMove 108 = .ok (.aload_n 0, 1) := by decide +kernel
theorem dX5_cannotMove_109 : decode cX5_cannotMove 109 = .ok (.iload_n 2, 1) := by decide +kernel
theorem dX5_cannotMove_110 : decode cX5_cannotMove 110 = .ok (.invokevirtual 195, 3) := by decide +kernel
theorem dX5_cannotMove_113 : decode cX5_cannotMove 113 = .ok (.aload_n 0, 1) := by decide +kernel
theorem dX5_cannotMove_114 : decode cX5_cannotMove 114 = .ok (.getfield 7, 3) := by decide +kernel
theorem dX5_cannotMove_117 : decode cX5_cannotMove 117 = .ok (.bipush 120, 2) := by decide +kernel
theorem dX5_cannotMove_119 : decode cX5_cannotMove 119 = .ok (.iload_n 2, 1) := by decide +kernel
theorem dX5_cannotMove_120 : decode cX5_cannotMove 120 = .ok (.iadd, 1) := by decide +kernel
theorem dX5_cannotMove_121 : decode cX5_cannotMove 121 = .ok (.iaload, 1) := by decide +kernel
theorem dX5_cannotMove_122 : decode cX5_cannotMove 122 = .ok (.if_icmp .lt 7, 3) := by decide +kernel
theorem dX5_cannotMove_125 : decode cX5_cannotMove 125 = .ok (.iconst 1, 1) := by decide +kernel
theorem dX5_cannotMove_126 : decode cX5_cannotMove 126 = .ok (.goto 4, 3) := by decide +kernel
theorem dX5_cannotMove_129 : decode cX5_cannotMove 129 = .ok (.iconst 0, 1) := by decide +kernel
theorem dX5_cannotMove_130 : decode cX5_cannotMove 130 = .ok (.bipush 14, 2) := by decide +kernel
theorem dX5_cannotMove_132 : decode cX5_cannotMove 132 = .ok (.aload_n 0, 1) := by decide +kernel
theorem dX5_cannotMove_133 : decode cX5_cannotMove 133 = .ok (.getfield 7, 3) := by decide +kernel
theorem dX5_cannotMove_136 : decode cX5_cannotMove 136 = .ok (.bipush 120, 2) := by decide +kernel
theorem dX5_cannotMove_138 : decode cX5_cannotMove 138 = .ok (.iload_n 2, 1) := by decide +kernel
theorem dX5_cannotMove_139 : decode cX5_cannotMove 139 = .ok (.iadd, 1) := by decide +kernel
theorem dX5_cannotMove_140 : decode cX5_cannotMove 140 = .ok (.iaload, 1) := by decide +kernel
theorem dX5_cannotMove_141 : decode cX5_cannotMove 141 = .ok (.invokevirtual 121, 3) := by decide +kernel
theorem dX5_cannotMove_144 : decode cX5_cannotMove 144 = .ok (.ifCond .ne 24, 3) := by decide +kernel
theorem dX5_cannotMove_147 : decode cX5_cannotMove 147 = .ok (.aload_n 0, 1) := by decide +kernel
theorem dX5_cannotMove_148 : decode cX5_cannotMove 148 = .ok (.aload_n 0, 1) := by decide +kernel
theorem dX5_cannotMove_149 : decode cX5_cannotMove 149 = .ok (.iload_n 2, 1) := by decide +kernel
theorem dX5_cannotMove_150 : decode cX5_cannotMove 150 = .ok (.aload_n 0, 1) := by decide +kernel
theorem dX5_cannotMove_151 : decode cX5_cannotMove 151 = .ok (.iload_n 1, 1) := by decide +kernel
theorem dX5_cannotMove_152 : decode cX5_cannotMove 152 = .ok (.iconst 0, 1) := by decide +kernel
theorem dX5_cannotMove_153 : decode cX5_cannotMove 153 = .ok (.invokevirtual 96, 3) := by decide +kernel
theorem dX5_cannotMove_156 : decode cX5_cannotMove 156 = .ok (.invokevirtual 198, 3) := by decide +kernel
theorem dX5_cannotMove_159 : decode cX5_cannotMove 159 = .ok (.bipush 15, 2) := by decide +kernel
theorem dX5_cannotMove_161 : decode cX5_cannotMove 161 = .ok (.iload_n 1, 1) := by decide +kernel
theorem dX5_cannotMove_162 : decode cX5_cannotMove 162 = .ok (.invokevirtual 121, 3) := by decide +kernel
theorem dX5_cannotMove_165 : decode cX5_cannotMove 165 = .ok (.ifCond .eq 7, 3) := by decide +kernel
theorem dX5_cannotMove_168 : decode cX5_cannotMove 168 = .ok (.iconst 1, 1) := by decide +kernel
theorem dX5_cannotMove_169 : decode cX5_cannotMove 169 = .ok (.goto 4, 3) := by decide +kernel
theorem dX5_cannotMove_172 : decode cX5_cannotMove 172 = .ok (.iconst 0, 1) := by decide +kernel
theorem dX5_cannotMove_173 : decode cX5_cannotMove 173 = .ok (.ireturn, 1) := by decide +kernel
theorem dX5_moves_0 : decode cX5_moves 0 = .ok (.aload_n 0, 1) := by decide +kernel
theorem dX5_moves_1 : decode cX5_moves 1 = .ok (.getfield 7, 3) := by decide +kernel
theorem dX5_moves_4 : decode cX5_moves 4 = .ok (.iconst 1, 1) := by decide +kernel
theorem dX5_moves_5 : decode cX5_moves 5 = .ok (.iaload, 1) := by decide +kernel
theorem dX5_moves_6 : decode cX5_moves 6 = .ok (.iconst 3, 1) := by decide +kernel
theorem dX5_moves_7 : decode cX5_moves 7 = .ok (.iadd, 1) := by decide +kernel
theorem dX5_moves_8 : decode cX5_moves 8 = .ok (.istore_n 3, 1) := by decide +kernel
theorem dX5_moves_9 : decode cX5_moves 9 = .ok (.aload_n 0, 1) := by decide +kernel
theorem dX5_moves_10 : decode cX5_moves 10 = .ok (.getfield 7, 3) := by decide +kernel
theorem dX5_moves_13 : decode cX5_moves 13 = .ok (.aload_n 0, 1) := by decide +kernel
theorem dX5_moves_14 : decode cX5_moves 14 = .ok (.iload_n 1, 1) := by decide +kernel
theorem dX5_moves_15 : decode cX5_moves 15 = .ok (.iconst 3, 1) := by decide +kernel
theorem dX5_moves_16 : decode cX5_moves 16 = .ok (.invokevirtual 96, 3) := by decide +kernel
theorem dX5_moves_19 : decode cX5_moves 19 = .ok (.iload_n 2, 1) := by decide +kernel
theorem dX5_moves_20 : decode cX5_moves 20 = .ok (.invokestatic 222, 3) := by decide +kernel
theorem dX5_moves_23 : decode cX5_moves 23 = .ok (.iaload, 1) := by decide +kernel
theorem dX5_moves_24 : decode cX5_moves 24 = .ok (.bipush 115, 2) := by decide +kernel
theorem dX5_moves_26 : decode cX5_moves 26 = .ok (.if_icmp .ne 22, 3) := by decide +kernel
theorem dX5_moves_29 : decode cX5_moves 29 = .ok (.aload_n 0, 1) := by decide +kernel
theorem dX5_moves_30 : decode cX5_moves 30 = .ok (.iload_n 1, 1) := by decide +kernel
theorem dX5_moves_31 : decode cX5_moves 31 = .ok (.bipush 6, 2) := by decide +kernel
theorem dX5_moves_33 : decode cX5_moves 33 = .ok (.invokevirtual 96, 3) := by decide +kernel
theorem dX5_moves_36 : decode cX5_moves 36 = .ok (.iload_n 3, 1) := by decide +kernel
theorem dX5_moves_37 : decode cX5_moves 37 = .ok (.if_icmp .le 11, 3) := by decide +kernel
theorem dX5_moves_40 : decode cX5_moves 40 = .ok (.aload_n 0, 1) := by decide +kernel
theorem dX5_moves_41 : decode cX5_moves 41 = .ok (.iload_n 1, 1) := by decide +kernel
theorem dX5_moves_42 : decode cX5_moves 42 = .ok (.bipush 6, 2) := by decide +kernel
theorem dX5_moves_44 : decode cX5_moves 44 = .ok (.iload_n 3, 1) := by decide +kernel
theorem dX5_moves_45 : decode cX5_moves 45 = .ok (.invokevirtual 117, 3) := by decide +kernel
theorem dX5_moves_48 : decode cX5_moves 48 = .ok (.aload_n 0, 1) := by decide +kernel
theorem dX5_moves_49 : decode cX5_moves 49 = .ok (.iload_n 1, 1) := by decide +kernel
theorem dX5_moves_50 : decode cX5_moves 50 = .ok (.iconst 3, 1) := by decide +kernel
theorem dX5_moves_51 : decode cX5_moves 51 = .ok (.iload_n 2, 1) := by decide +kernel
theorem dX5_moves_52 : decode cX5_moves 52 = .ok (.invokevirtual 117, 3) := by decide +kernel
theorem dX5_moves_55 : decode cX5_moves 55 = .ok (.aload_n 0, 1) := by decide +kernel
theorem dX5_moves_56 : decode cX5_moves 56 = .ok (.iload_n 1, 1) := by decide +kernel
theorem dX5_moves_57 : decode cX5_moves 57 = .ok (.bipush 6, 2) := by decide +kernel
theorem dX5_moves_59 : decode cX5_moves 59 = .ok (.invokevirtual 96, 3) := by decide +kernel
theorem dX5_moves_62 : decode cX5_moves 62 = .ok (.ireturn, 1) := by decide +kernel
theorem dX5_move_0 : decode cX5_move 0 = .ok (.aload_n 0, 1) := by decide +kernel
theorem dX5_move_1 : decode cX5_move 1 = .ok (.invokevirtual 129, 3) := by decide +kernel
theorem dX5_move_4 : decode cX5_move 4 = .ok (.aload_n 0, 1) := by decide +kernel
theorem dX5_move_5 : decode cX5_move 5 = .ok (.iload_n 1, 1) := by decide +kernel
theorem dX5_move_6 : decode cX5_move 6 = .ok (.invokevirtual 151, 3) := by decide +kernel
theorem dX5_move_9 : decode cX5_move 9 = .ok (.ifCond .eq 10, 3) := by decide +kernel
theorem dX5_move_12 : decode cX5_move 12 = .ok (.iload_n 2, 1) := by decide +kernel
theorem dX5_move_13 : decode cX5_move 13 = .ok (.invokestatic 168, 3) := by decide +kernel
theorem dX5_move_16 : decode cX5_move 16 = .ok (.ifCond .ne 9, 3) := by decide +kernel
theorem dX5_move_19 : decode cX5_move 19 = .ok (.aload_n 0, 1) := by decide +kernel
theorem dX5_move_20 : decode cX5_move 20 = .ok (.iconst 1, 1) := by decide +kernel
theorem dX5_move_21 : decode cX5_move 21 = .ok (.invokevirtual 88, 3) := by decide +kernel
theorem dX5_move_24 : decode cX5_move 24 = .ok (.ireturn, 1) := by decide +kernel
theorem dX5_move_25 : decode cX5_move 25 = .ok (.aload_n 0, 1) := by decide +kernel
theorem dX5_move_26 : decode cX5_move 26 = .ok (.iload_n 1, 1) := by decide +kernel
theorem dX5_move_27 : decode cX5_move 27 = .ok (.iload_n 2, 1) := by decide +kernel
theorem dX5_move_28 : decode cX5_move 28 = .ok (.invokevirtual 225, 3) := by decide +kernel
theorem dX5_move_31 : decode cX5_move 31 = .ok (.ifCond .eq 11, 3) := by decide +kernel
theorem dX5_move_34 : decode cX5_move 34 = .ok (.aload_n 0, 1) := by decide +kernel
theorem dX5_move_35 : decode cX5_move 35 = .ok (.iconst 2, 1) := by decide +kernel
theorem dX5_move_36 : decode cX5_move 36 = .ok (.invokevirtual 139, 3) := by decide +kernel
theorem dX5_move_39 : decode cX5_move 39 = .ok (.goto 13, 3) := by decide +kernel
theorem dX5_move_42 : decode cX5_move 42 = .ok (.aload_n 0, 1) := by decide +kernel
theorem dX5_move_43 : decode cX5_move 43 = .ok (.aload_n 0, 1) := by decide +kernel
theorem dX5_move_44 : decode cX5_move 44 = .ok (.iload_n 1, 1) := by decide +kernel
theorem dX5_move_45 : decode cX5_move 45 = .ok (.iload_n 2, 1) := by decide +kernel
theorem dX5_move_46 : decode cX5_move 46 = .ok (.invokevirtual 228, 3) := by decide +kernel
theorem dX5_move_49 : decode cX5_move 49 = .ok (.invokevirtual 145, 3) := by decide +kernel
theorem dX5_move_52 : decode cX5_move 52 = .ok (.ireturn, 1) := by decide +kernel
theorem dX5_cannotPair_0 : decode cX5_cannotPair 0 = .ok (.aload_n 0, 1) := by decide +kernel
theorem dX5_cannotPair_1 : decode cX5_cannotPair 1 = .ok (.iload_n 1, 1) := by decide +kernel
theorem dX5_cannotPair_2 : decode cX5_cannotPair 2 = .ok (.invokevirtual 204, 3) := by decide +kernel
theorem dX5_cannotPair_5 : decode cX5_cannotPair 5 = .ok (.ifCond .ne 46, 3) := by decide +kernel
theorem dX5_cannotPair_8 : decode cX5_cannotPair 8 = .ok (.aload_n 0, 1) := by decide +kernel
theorem dX5_cannotPair_9 : decode cX5_cannotPair 9 = .ok (.iload_n 2, 1) := by decide +kernel
theorem dX5_cannotPair_10 : decode cX5_cannotPair 10 = .ok (.invokevirtual 204, 3) := by decide +kernel
theorem dX5_cannotPair_13 : decode cX5_cannotPair 13 = .ok (.ifCond .ne 38, 3) := by decide +kernel
theorem dX5_cannotPair_16 : decode cX5_cannotPair 16 = .ok (.aload_n 0, 1) := by decide +kernel
theorem dX5_cannotPair_17 : decode cX5_cannotPair 17 = .ok (.aload_n 0, 1) := by decide +kernel
theorem dX5_cannotPair_18 : decode cX5_cannotPair 18 = .ok (.iload_n 1, 1) := by decide +kernel
theorem dX5_cannotPair_19 : decode cX5_cannotPair 19 = .ok (.iconst 3, 1) := by decide +kernel
theorem dX5_cannotPair_20 : decode cX5_cannotPair 20 = .ok (.invokevirtual 96, 3) := by decide +kernel
theorem dX5_cannotPair_23 : decode cX5_cannotPair 23 = .ok (.aload_n 0, 1) := by decide +kernel
theorem dX5_cannotPair_24 : decode cX5_cannotPair 24 = .ok (.iload_n 2, 1) := by decide +kernel
theorem dX5_cannotPair_25 : decode cX5_cannotPair 25 = .ok (.iconst 3, 1) := by decide +kernel
theorem dX5_cannotPair_26 : decode cX5_cannotPair 26 = .ok (.invokevirtual 96, 3) := by decide +kernel
theorem dX5_cannotPair_29 : decode cX5_cannotPair 29 = .ok (.if_icmp .eq 7, 3) := by decide +kernel
theorem dX5_cannotPair_32 : decode cX5_cannotPair 32 = .ok (.iconst 1, 1) := by decide +kernel
theorem dX5_cannotPair_33 : decode cX5_cannotPair 33 = .ok (.goto 4, 3) := by decide +kernel
theorem dX5_cannotPair_36 : decode cX5_cannotPair 36 = .ok (.iconst 0, 1) := by decide +kernel
theorem dX5_cannotPair_37 : decode cX5_cannotPair 37 = .ok (.bipush 10, 2) := by decide +kernel
theorem dX5_cannotPair_39 : decode cX5_cannotPair 39 = .ok (.aload_n 0, 1) := by decide +kernel
theorem dX5_cannotPair_40 : decode cX5_cannotPair 40 = .ok (.iload_n 2, 1) := by decide +kernel
theorem dX5_cannotPair_41 : decode cX5_cannotPair 41 = .ok (.iconst 3, 1) := by decide +kernel
theorem dX5_cannotPair_42 : decode cX5_cannotPair 42 = .ok (.invokevirtual 96, 3) := by decide +kernel
theorem dX5_cannotPair_45 : decode cX5_cannotPair 45 = .ok (.invokevirtual 121, 3) := by decide +kernel
theorem dX5_cannotPair_48 : decode cX5_cannotPair 48 = .ok (.ifCond .eq 5, 3) := by decide +kernel
theorem dX5_cannotPair_51 : decode cX5_cannotPair 51 = .ok (.iconst 1, 1) := by decide +kernel
theorem dX5_cannotPair_52 : decode cX5_cannotPair 52 = .ok (.ireturn, 1) := by decide +kernel
theorem dX5_cannotPair_53 : decode cX5_cannotPair 53 = .ok (.aload_n 0, 1) := by decide +kernel
theorem dX5_cannotPair_54 : decode cX5_cannotPair 54 = .ok (.iload_n 1, 1) := by decide +kernel
theorem dX5_cannotPair_55 : decode cX5_cannotPair 55 = .ok (.invokevirtual 213, 3) := by decide +kernel
theorem dX5_cannotPair_58 : decode cX5_cannotPair 58 = .ok (.ifCond .ne 40, 3) := by decide +kernel
theorem dX5_cannotPair_61 : decode cX5_cannotPair 61 = .ok (.aload_n 0, 1) := by decide +kernel
theorem dX5_cannotPair_62 : decode cX5_cannotPair 62 = .ok (.iload_n 2, 1) := by decide +kernel
theorem dX5_cannotPair_63 : decode cX5_cannotPair 63 = .ok (.invokevirtual 213, 3) := by decide +kernel
theorem dX5_cannotPair_66 : decode cX5_cannotPair 66 = .ok (.ifCond .ne 32, 3) := by decide +kernel
theorem dX5_cannotPair_69 : decode cX5_cannotPair 69 = .ok (.aload_n 0, 1) := by decide +kernel
theorem dX5_cannotPair_70 : decode cX5_cannotPair 70 = .ok (.aload_n 0, 1) := by decide +kernel
theorem dX5_cannotPair_71 : decode cX5_cannotPair 71 = .ok (.iload_n 1, 1) := by decide +kernel
theorem dX5_cannotPair_72 : decode cX5_cannotPair 72 = .ok (.iload_n 2, 1) := by decide +kernel
theorem dX5_cannotPair_73 : decode cX5_cannotPair 73 = .ok (.invokevirtual 162, 3) := by decide +kernel
theorem dX5_cannotPair_76 : decode cX5_cannotPair 76 = .ok (.ifCond .ne 7, 3) := by decide +kernel
theorem dX5_cannotPair_79 : decode cX5_cannotPair 79 = .ok (.iconst 1, 1) := by decide +kernel
theorem dX5_cannotPair_80 : decode cX5_cannotPair 80 = .ok (.goto 4, 3) := by decide +kernel
theorem dX5_cannotPair_83 : decode cX5_cannotPair 83 = .ok (.iconst 0, 1) := by decide +kernel
theorem dX5_cannotPair_84 : decode cX5_cannotPair 84 = .ok (.bipush 11, 2) := by decide +kernel
theorem dX5_cannotPair_86 : decode cX5_cannotPair 86 = .ok (.aload_n 0, 1) := by decide +kernel
theorem dX5_cannotPair_87 : decode cX5_cannotPair 87 = .ok (.iload_n 2, 1) := by decide +kernel
theorem dX5_cannotPair_88 : decode cX5_cannotPair 88 = .ok (.iconst 1, 1) := by decide +kernel
theorem dX5_cannotPair_89 : decode cX5_cannotPair 89 = .ok (.invokevirtual 96, 3) := by decide +kernel
theorem dX5_cannotPair_92 : decode cX5_cannotPair 92 = .ok (.invokevirtual 121, 3) := by decide +kernel
theorem dX5_cannotPair_95 : decode cX5_cannotPair 95 = .ok (.ifCond .eq 7, 3) := by decide +kernel
theorem dX5_cannotPair_98 : decode cX5_cannotPair 98 = .ok (.iconst 1, 1) := by decide +kernel
theorem dX5_cannotPair_99 : decode cX5_cannotPair 99 = .ok (.goto 4, 3) := by decide +kernel
theorem dX5_cannotPair_102 : decode cX5_cannotPair 102 = .ok (.iconst 0, 1) := by decide +kernel
theorem dX5_cannotPair_103 : decode cX5_cannotPair 103 = .ok (.ireturn, 1) := by decide +kernel
theorem dX5_pairs_0 : decode cX5_pairs 0 = .ok (.aload_n 0, 1) := by decide +kernel
theorem dX5_pairs_1 : decode cX5_pairs 1 = .ok (.iload_n 1, 1) := by decide +kernel
theorem dX5_pairs_2 : decode cX5_pairs 2 = .ok (.bipush 7, 2) := by decide +kernel
theorem dX5_pairs_4 : decode cX5_pairs 4 = .ok (.iload_n 2, 1) := by decide +kernel
theorem dX5_pairs_5 : decode cX5_pairs 5 = .ok (.invokevirtual 117, 3) := by decide +kernel
theorem dX5_pairs_8 : decode cX5_pairs 8 = .ok (.aload_n 0, 1) := by decide +kernel
theorem dX5_pairs_9 : decode cX5_pairs 9 = .ok (.iload_n 2, 1) := by decide +kernel
theorem dX5_pairs_10 : decode cX5_pairs 10 = .ok (.bipush 7, 2) := by decide +kernel
theorem dX5_pairs_12 : decode cX5_pairs 12 = .ok (.iload_n 1, 1) := by decide +kernel
theorem dX5_pairs_13 : decode cX5_pairs 13 = .ok (.invokevirtual 117, 3) := by decide +kernel
theorem dX5_pairs_16 : decode cX5_pairs 16 = .ok (.aload_n 0, 1) := by decide +kernel
theorem dX5_pairs_17 : decode cX5_pairs 17 = .ok (.aload_n 0, 1) := by decide +kernel
theorem dX5_pairs_18 : decode cX5_pairs 18 = .ok (.iload_n 1, 1) := by decide +kernel
theorem dX5_pairs_19 : decode cX5_pairs 19 = .ok (.iconst 3, 1) := by decide +kernel
theorem dX5_pairs_20 : decode cX5_pairs 20 = .ok (.invokevirtual 96, 3) := by decide +kernel
theorem dX5_pairs_23 : decode cX5_pairs 23 = .ok (.invokevirtual 231, 3) := by decide +kernel
theorem dX5_pairs_26 : decode cX5_pairs 26 = .ok (.ireturn, 1) := by decide +kernel
theorem dX5_pair_0 : decode cX5_pair 0 = .ok (.aload_n 0, 1) := by decide +kernel
theorem dX5_pair_1 : decode cX5_pair 1 = .ok (.invokevirtual 129, 3) := by decide +kernel
theorem dX5_pair_4 : decode cX5_pair 4 = .ok (.aload_n 0, 1) := by decide +kernel
theorem dX5_pair_5 : decode cX5_pair 5 = .ok (.iload_n 1, 1) := by decide +kernel
theorem dX5_pair_6 : decode cX5_pair 6 = .ok (.invokevirtual 151, 3) := by decide +kernel
theorem dX5_pair_9 : decode cX5_pair 9 = .ok (.ifCond .eq 11, 3) := by decide +kernel
theorem dX5_pair_12 : decode cX5_pair 12 = .ok (.aload_n 0, 1) := by decide +kernel
theorem dX5_pair_13 : decode cX5_pair 13 = .ok (.iload_n 2, 1) := by decide +kernel
theorem dX5_pair_14 : decode cX5_pair 14 = .ok (.invokevirtual 151, 3) := by decide +kernel
theorem dX5_pair_17 : decode cX5_pair 17 = .ok (.ifCond .ne 9, 3) := by decide +kernel
theorem dX5_pair_20 : decode cX5_pair 20 = .ok (.aload_n 0, 1) := by decide +kernel
theorem dX5_pair_21 : decode cX5_pair 21 = .ok (.iconst 1, 1) := by decide +kernel
theorem dX5_pair_22 : decode cX5_pair 22 = .ok (.invokevirtual 88, 3) := by decide +kernel
theorem dX5_pair_25 : decode cX5_pair 25 = .ok (.ireturn, 1) := by decide +kernel
theorem dX5_pair_26 : decode cX5_pair 26 = .ok (.iload_n 1, 1) := by decide +kernel
theorem dX5_pair_27 : decode cX5_pair 27 = .ok (.iload_n 2, 1) := by decide +kernel
theorem dX5_pair_28 : decode cX5_pair 28 = .ok (.if_icmp .ne 9, 3) := by decide +kernel
theorem dX5_pair_31 : decode cX5_pair 31 = .ok (.aload_n 0, 1) := by decide +kernel
theorem dX5_pair_32 : decode cX5_pair 32 = .ok (.iconst 2, 1) := by decide +kernel
theorem dX5_pair_33 : decode cX5_pair 33 = .ok (.invokevirtual 88, 3) := by decide +kernel
theorem dX5_pair_36 : decode cX5_pair 36 = .ok (.ireturn, 1) := by decide +kernel
theorem dX5_pair_37 : decode cX5_pair 37 = .ok (.aload_n 0, 1) := by decide +kernel
theorem dX5_pair_38 : decode cX5_pair 38 = .ok (.iload_n 1, 1) := by decide +kernel
theorem dX5_pair_39 : decode cX5_pair 39 = .ok (.iload_n 2, 1) := by decide +kernel
theorem dX5_pair_40 : decode cX5_pair 40 = .ok (.invokevirtual 234, 3) := by decide +kernel
theorem dX5_pair_43 : decode cX5_pair 43 = .ok (.ifCond .eq 11, 3) := by decide +kernel
theorem dX5_pair_46 : decode cX5_pair 46 = .ok (.aload_n 0, 1) := by decide +kernel
theorem dX5_pair_47 : decode cX5_pair 47 = .ok (.iconst 3, 1) := by decide +kernel
theorem dX5_pair_48 : decode cX5_pair 48 = .ok (.invokevirtual 139, 3) := by decide +kernel
theorem dX5_pair_51 : decode cX5_pair 51 = .ok (.goto 13, 3) := by decide +kernel
theorem dX5_pair_54 : decode cX5_pair 54 = .ok (.aload_n 0, 1) := by decide +kernel
theorem dX5_pair_55 : decode cX5_pair 55 = .ok (.aload_n 0, 1) := by decide +kernel
theorem dX5_pair_56 : decode cX5_pair 56 = .ok (.iload_n 1, 1) := by decide +kernel
theorem dX5_pair_57 : decode cX5_pair 57 = .ok (.iload_n 2, 1) := by decide +kernel
theorem dX5_pair_58 : decode cX5_pair 58 = .ok (.invokevirtual 237, 3) := by decide +kernel
theorem dX5_pair_61 : decode cX5_pair 61 = .ok (.invokevirtual 145, 3) := by decide +kernel
theorem dX5_pair_64 : decode cX5_pair 64 = .ok (.ireturn, 1) := by decide +kernel
theorem dX5_cannotSeparate_0 : decode cX5_cannotSeparate 0 = .ok (.aload_n 0, 1) := by decide +kernel
theorem dX5_cannotSeparate_1 : decode cX5_cannotSeparate 1 = .ok (.aload_n 0, 1) := by decide +kernel
theorem dX5_cannotSeparate_2 : decode cX5_cannotSeparate 2 = .ok (.iload_n 1, 1) := by decide +kernel
theorem dX5_cannotSeparate_3 : decode cX5_cannotSeparate 3 = .ok (.invokevirtual 110, 3) := by decide +kernel
theorem dX5_cannotSeparate_6 : decode cX5_cannotSeparate 6 = .ok (.ifCond .ne 7, 3) := by decide +kernel
theorem dX5_cannotSeparate_9 : decode cX5_cannotSeparate 9 = .ok (.iconst 1, 1) := by decide +kernel
theorem dX5_cannotSeparate_10 : decode cX5_cannotSeparate 10 = .ok (.goto 4, 3) := by decide +kernel
theorem dX5_cannotSeparate_13 : decode cX5_cannotSeparate 13 = .ok (.iconst 0, 1) := by decide +kernel
theorem dX5_cannotSeparate_14 : decode cX5_cannotSeparate 14 = .ok (.bipush 9, 2) := by decide +kernel
theorem dX5_cannotSeparate_16 : decode cX5_cannotSeparate 16 = .ok (.iload_n 1, 1) := by decide +kernel
theorem dX5_cannotSeparate_17 : decode cX5_cannotSeparate 17 = .ok (.invokevirtual 121, 3) := by decide +kernel
theorem dX5_cannotSeparate_20 : decode cX5_cannotSeparate 20 = .ok (.ireturn, 1) := by decide +kernel
theorem dX5_separates_0 : decode cX5_separates 0 = .ok (.aload_n 0, 1) := by decide +kernel
theorem dX5_separates_1 : decode cX5_separates 1 = .ok (.iload_n 1, 1) := by decide +kernel
theorem dX5_separates_2 : decode cX5_separates 2 = .ok (.bipush 7, 2) := by decide +kernel
theorem dX5_separates_4 : decode cX5_separates 4 = .ok (.invokevirtual 96, 3) := by decide +kernel
theorem dX5_separates_7 : decode cX5_separates 7 = .ok (.istore_n 2, 1) := by decide +kernel
theorem dX5_separates_8 : decode cX5_separates 8 = .ok (.aload_n 0, 1) := by decide +kernel
theorem dX5_separates_9 : decode cX5_separates 9 = .ok (.iload_n 1, 1) := by decide +kernel
theorem dX5_separates_10 : decode cX5_separates 10 = .ok (.bipush 7, 2) := by decide +kernel
theorem dX5_separates_12 : decode cX5_separates 12 = .ok (.iconst (-1), 1) := by decide +kernel
theorem dX5_separates_13 : decode cX5_separates 13 = .ok (.invokevirtual 117, 3) := by decide +kernel
theorem dX5_separates_16 : decode cX5_separates 16 = .ok (.aload_n 0, 1) := by decide +kernel
theorem dX5_separates_17 : decode cX5_separates 17 = .ok (.iload_n 2, 1) := by decide +kernel
theorem dX5_separates_18 : decode cX5_separates 18 = .ok (.bipush 7, 2) := by decide +kernel
theorem dX5_separates_20 : decode cX5_separates 20 = .ok (.iconst (-1), 1) := by decide +kernel
theorem dX5_separates_21 : decode cX5_separates 21 = .ok (.invokevirtual 117, 3) := by decide +kernel
theorem dX5_separates_24 : decode cX5_separates 24 = .ok (.iload_n 2, 1) := by decide +kernel
theorem dX5_separates_25 : decode cX5_separates 25 = .ok (.ireturn, 1) := by decide +kernel
theorem dX5_separate_0 : decode cX5_separate 0 = .ok (.aload_n 0, 1) := by decide +kernel
theorem dX5_separate_1 : decode cX5_separate 1 = .ok (.invokevirtual 129, 3) := by decide +kernel
theorem dX5_separate_4 : decode cX5_separate 4 = .ok (.aload_n 0, 1) := by decide +kernel
theorem dX5_separate_5 : decode cX5_separate 5 = .ok (.iload_n 1, 1) := by decide +kernel
theorem dX5_separate_6 : decode cX5_separate 6 = .ok (.invokevirtual 151, 3) := by decide +kernel
theorem dX5_separate_9 : decode cX5_separate 9 = .ok (.ifCond .ne 9, 3) := by decide +kernel
theorem dX5_separate_12 : decode cX5_separate 12 = .ok (.aload_n 0, 1) := by decide +kernel
theorem dX5_separate_13 : decode cX5_separate 13 = .ok (.iconst 1, 1) := by decide +kernel
theorem dX5_separate_14 : decode cX5_separate 14 = .ok (.invokevirtual 88, 3) := by decide +kernel
theorem dX5_separate_17 : decode cX5_separate 17 = .ok (.ireturn, 1) := by decide +kernel
theorem dX5_separate_18 : decode cX5_separate 18 = .ok (.aload_n 0, 1) := by decide +kernel
theorem dX5_separate_19 : decode cX5_separate 19 = .ok (.iload_n 1, 1) := by decide +kernel
theorem dX5_separate_20 : decode cX5_separate 20 = .ok (.invokevirtual 240, 3) := by decide +kernel
theorem dX5_separate_23 : decode cX5_separate 23 = .ok (.ifCond .eq 11, 3) := by decide +kernel
theorem dX5_separate_26 : decode cX5_separate 26 = .ok (.aload_n 0, 1) := by decide +kernel
theorem dX5_separate_27 : decode cX5_separate 27 = .ok (.iconst 2, 1) := by decide +kernel
theorem dX5_separate_28 : decode cX5_separate 28 = .ok (.invokevirtual 139, 3) := by decide +kernel
theorem dX5_separate_31 : decode cX5_separate 31 = .ok (.goto 12, 3) := by decide +kernel
theorem dX5_separate_34 : decode cX5_separate 34 = .ok (.aload_n 0, 1) := by decide +kernel
theorem dX5_separate_35 : decode cX5_separate 35 = .ok (.aload_n 0, 1) := by decide +kernel
theorem dX5_separate_36 : decode cX5_separate 36 = .ok (.iload_n 1, 1) := by decide +kernel
theorem dX5_separate_37 : decode cX5_separate 37 = .ok (.invokevirtual 243, 3) := by decide +kernel
theorem dX5_separate_40 : decode cX5_separate 40 = .ok (.invokevirtual 145, 3) := by decide +kernel
theorem dX5_separate_43 : decode cX5_separate 43 = .ok (.ireturn, 1) := by decide +kernel
theorem dX5_pairCount_0 : decode cX5_pairCount 0 = .ok (.aload_n 0, 1) := by decide +kernel
theorem dX5_pairCount_1 : decode cX5_pairCount 1 = .ok (.iload_n 1, 1) := by decide +kernel
theorem dX5_pairCount_2 : decode cX5_pairCount 2 = .ok (.invokestatic 168, 3) := by decide +kernel
theorem dX5_pairCount_5 : decode cX5_pairCount 5 = .ok (.invokevirtual 154, 3) := by decide +kernel
theorem dX5_pairCount_8 : decode cX5_pairCount 8 = .ok (.ifCond .le 7, 3) := by decide +kernel
theorem dX5_pairCount_11 : decode cX5_pairCount 11 = .ok (.iconst 0, 1) := by decide +kernel
theorem dX5_pairCount_12 : decode cX5_pairCount 12 = .ok (.goto 8, 3) := by decide +kernel
theorem dX5_pairCount_15 : decode cX5_pairCount 15 = .ok (.aload_n 0, 1) := by decide +kernel
theorem dX5_pairCount_16 : decode cX5_pairCount 16 = .ok (.iload_n 1, 1) := by decide +kernel
theorem dX5_pairCount_17 : decode cX5_pairCount 17 = .ok (.invokevirtual 231, 3) := by decide +kernel
theorem dX5_pairCount_20 : decode cX5_pairCount 20 = .ok (.ireturn, 1) := by decide +kernel
theorem dX5_single_0 : decode cX5_single 0 = .ok (.iconst 0, 1) := by decide +kernel
theorem dX5_single_1 : decode cX5_single 1 = .ok (.istore 4, 2) := by decide +kernel
theorem dX5_single_3 : decode cX5_single 3 = .ok (.iconst 0, 1) := by decide +kernel
theorem dX5_single_4 : decode cX5_single 4 = .ok (.istore 5, 2) := by decide +kernel
theorem dX5_single_6 : decode cX5_single 6 = .ok (.iload 5, 2) := by decide +kernel
theorem dX5_single_8 : decode cX5_single 8 = .ok (.aload_n 0, 1) := by decide +kernel
theorem dX5_single_9 : decode cX5_single 9 = .ok (.getfield 7, 3) := by decide +kernel
theorem dX5_single_12 : decode cX5_single 12 = .ok (.iconst 0, 1) := by decide +kernel
theorem dX5_single_13 : decode cX5_single 13 = .ok (.iaload, 1) := by decide +kernel
theorem dX5_single_14 : decode cX5_single 14 = .ok (.if_icmp .ge 60, 3) := by decide +kernel
theorem dX5_single_17 : decode cX5_single 17 = .ok (.iload 4, 2) := by decide +kernel
theorem dX5_single_19 : decode cX5_single 19 = .ok (.aload_n 0, 1) := by decide +kernel
theorem dX5_single_20 : decode cX5_single 20 = .ok (.iload 5, 2) := by decide +kernel
theorem dX5_single_22 : decode cX5_single 22 = .ok (.iload_n 1, 1) := by decide +kernel
theorem dX5_single_23 : decode cX5_single 23 = .ok (.invokevirtual 104, 3) := by decide +kernel
theorem dX5_single_26 : decode cX5_single 26 = .ok (.ifCond .eq 38, 3) := by decide +kernel
theorem dX5_single_29 : decode cX5_single 29 = .ok (.aload_n 0, 1) := by decide +kernel
theorem dX5_single_30 : decode cX5_single 30 = .ok (.iload 5, 2) := by decide +kernel
theorem dX5_single_32 : decode cX5_single 32 = .ok (.invokevirtual 110, 3) := by decide +kernel
theorem dX5_single_35 : decode cX5_single 35 = .ok (.ifCond .ne 29, 3) := by decide +kernel
theorem dX5_single_38 : decode cX5_single 38 = .ok (.aload_n 0, 1) := by decide +kernel
theorem dX5_single_39 : decode cX5_single 39 = .ok (.iload 5, 2) := by decide +kernel
theorem dX5_single_41 : decode cX5_single 41 = .ok (.iconst 1, 1) := by decide +kernel
theorem dX5_single_42 : decode cX5_single 42 = .ok (.invokevirtual 96, 3) := by decide +kernel
theorem dX5_single_45 : decode cX5_single 45 = .ok (.iload_n 2, 1) := by decide +kernel
theorem dX5_single_46 : decode cX5_single 46 = .ok (.if_icmp .ne 18, 3) := by decide +kernel
theorem dX5_single_49 : decode cX5_single 49 = .ok (.aload_n 0, 1) := by decide +kernel
theorem dX5_single_50 : decode cX5_single 50 = .ok (.iload 5, 2) := by decide +kernel
theorem dX5_single_52 : decode cX5_single 52 = .ok (.iconst 0, 1) := by decide +kernel
theorem dX5_single_53 : decode cX5_single 53 = .ok (.invokevirtual 96, 3) := by decide +kernel
theorem dX5_single_56 : decode cX5_single 56 = .ok (.iload_n 3, 1) := by decide +kernel
theorem dX5_single_57 : decode cX5_single 57 = .ok (.if_icmp .ne 7, 3) := by decide +kernel
theorem dX5_single_60 : decode cX5_single 60 = .ok (.iconst 1, 1) := by decide +kernel
theorem dX5_single_61 : decode cX5_single 61 = .ok (.goto 4, 3) := by decide +kernel
theorem dX5_single_64 : decode cX5_single 64 = .ok (.iconst 0, 1) := by decide +kernel
theorem dX5_single_65 : decode cX5_single 65 = .ok (.iadd, 1) := by decide +kernel
theorem dX5_single_66 : decode cX5_single 66 = .ok (.istore 4, 2) := by decide +kernel
theorem dX5_single_68 : decode cX5_single 68 = .ok (.iinc 5 1, 3) := by decide +kernel
theorem dX5_single_71 : decode cX5_single 71 = .ok (.goto (-65), 3) := by decide +kernel
theorem dX5_single_74 : decode cX5_single 74 = .ok (.iload 4, 2) := by decide +kernel
theorem dX5_single_76 : decode cX5_single 76 = .ok (.ireturn, 1) := by decide +kernel
theorem dX5_possible_0 : decode cX5_possible 0 = .ok (.aload_n 0, 1) := by decide +kernel
theorem dX5_possible_1 : decode cX5_possible 1 = .ok (.iload_n 1, 1) := by decide +kernel
theorem dX5_possible_2 : decode cX5_possible 2 = .ok (.invokestatic 168, 3) := by decide +kernel
theorem dX5_possible_5 : decode cX5_possible 5 = .ok (.invokevirtual 154, 3) := by decide +kernel
theorem dX5_possible_8 : decode cX5_possible 8 = .ok (.ifCond .le 5, 3) := by decide +kernel
theorem dX5_possible_11 : decode cX5_possible 11 = .ok (.iconst 0, 1) := by decide +kernel
theorem dX5_possible_12 : decode cX5_possible 12 = .ok (.ireturn, 1) := by decide +kernel
theorem dX5_possible_13 : decode cX5_possible 13 = .ok (.iconst 0, 1) := by decide +kernel
theorem dX5_possible_14 : decode cX5_possible 14 = .ok (.istore_n 2, 1) := by decide +kernel
theorem dX5_possible_15 : decode cX5_possible 15 = .ok (.iconst 1, 1) := by decide +kernel
theorem dX5_possible_16 : decode cX5_possible 16 = .ok (.istore_n 3, 1) := by decide +kernel
theorem dX5_possible_17 : decode cX5_possible 17 = .ok (.iload_n 3, 1) := by decide +kernel
theorem dX5_possible_18 : decode cX5_possible 18 = .ok (.bipush 10, 2) := by decide +kernel
theorem dX5_possible_20 : decode cX5_possible 20 = .ok (.if_icmp .ge 109, 3) := by decide +kernel
theorem dX5_possible_23 : decode cX5_possible 23 = .ok (.aload_n 0, 1) := by decide +kernel
theorem dX5_possible_24 : decode cX5_possible 24 = .ok (.iload_n 1, 1) := by decide +kernel
theorem dX5_possible_25 : decode cX5_possible 25 = .ok (.iload_n 3, 1) := by decide +kernel
theorem dX5_possible_26 : decode cX5_possible 26 = .ok (.bipush 114, 2) := by decide +kernel
theorem dX5_possible_28 : decode cX5_possible 28 = .ok (.invokevirtual 246, 3) := by decide +kernel
theorem dX5_possible_31 : decode cX5_possible 31 = .ok (.istore 4, 2) := by decide +kernel
theorem dX5_possible_33 : decode cX5_possible 33 = .ok (.aload_n 0, 1) := by decide +kernel
theorem dX5_possible_34 : decode cX5_possible 34 = .ok (.iload_n 1, 1) := by decide +kernel
theorem dX5_possible_35 : decode cX5_possible 35 = .ok (.iload_n 3, 1) := by decide +kernel
theorem dX5_possible_36 : decode cX5_possible 36 = .ok (.bipush 103, 2) := by decide +kernel
theorem dX5_possible_38 : decode cX5_possible 38 = .ok (.invokevirtual 246, 3) := by decide +kernel
theorem dX5_possible_41 : decode cX5_possible 41 = .ok (.istore 5, 2) := by decide +kernel
theorem dX5_possible_43 : decode cX5_possible 43 = .ok (.aload_n 0, 1) := by decide +kernel
theorem dX5_possible_44 : decode cX5_possible 44 = .ok (.iload_n 1, 1) := by decide +kernel
theorem dX5_possible_45 : decode cX5_possible 45 = .ok (.iload_n 3, 1) := by decide +kernel
theorem dX5_possible_46 : decode cX5_possible 46 = .ok (.bipush 98, 2) := by decide +kernel
theorem dX5_possible_48 : decode cX5_possible 48 = .ok (.invokevirtual 246, 3) := by decide +kernel
theorem dX5_possible_51 : decode cX5_possible 51 = .ok (.istore 6, 2) := by decide +kernel
theorem dX5_possible_53 : decode cX5_possible 53 = .ok (.aload_n 0, 1) := by decide +kernel
theorem dX5_possible_54 : decode cX5_possible 54 = .ok (.iload_n 1, 1) := by decide +kernel
theorem dX5_possible_55 : decode cX5_possible 55 = .ok (.iload_n 3, 1) := by decide +kernel
theorem dX5_possible_56 : decode cX5_possible 56 = .ok (.bipush 119, 2) := by decide +kernel
theorem dX5_possible_58 : decode cX5_possible 58 = .ok (.invokevirtual 246, 3) := by decide +kernel
theorem dX5_possible_61 : decode cX5_possible 61 = .ok (.istore 7, 2) := by decide +kernel
theorem dX5_possible_63 : decode cX5_possible 63 = .ok (.iload 4, 2) := by decide +kernel
theorem dX5_possible_65 : decode cX5_possible 65 = .ok (.iconst 2, 1) := by decide +kernel
theorem dX5_possible_66 : decode cX5_possible 66 = .ok (.irem, 1) := by decide +kernel
theorem dX5_possible_67 : decode cX5_possible 67 = .ok (.iload 5, 2) := by decide +kernel
theorem dX5_possible_69 : decode cX5_possible 69 = .ok (.iconst 2, 1) := by decide +kernel
theorem dX5_possible_70 : decode cX5_possible 70 = .ok (.irem, 1) := by decide +kernel
theorem dX5_possible_71 : decode cX5_possible 71 = .ok (.iadd, 1) := by decide +kernel
theorem dX5_possible_72 : decode cX5_possible 72 = .ok (.iload 6, 2) := by decide +kernel
theorem dX5_possible_74 : decode cX5_possible 74 = .ok (.iconst 2, 1) := by decide +kernel
theorem dX5_possible_75 : decode cX5_possible 75 = .ok (.irem, 1) := by decide +kernel
theorem dX5_possible_76 : decode cX5_possible 76 = .ok (.iadd, 1) := by decide +kernel
theorem dX5_possible_77 : decode cX5_possible 77 = .ok (.istore 8, 2) := by decide +kernel
theorem dX5_possible_79 : decode cX5_possible 79 = .ok (.iload 8, 2) := by decide +kernel
theorem dX5_possible_81 : decode cX5_possible 81 = .ok (.iload 7, 2) := by decide +kernel
theorem dX5_possible_83 : decode cX5_possible 83 = .ok (.if_icmp .ge 8, 3) := by decide +kernel
theorem dX5_possible_86 : decode cX5_possible 86 = .ok (.iload 8, 2) := by decide +kernel
theorem dX5_possible_88 : decode cX5_possible 88 = .ok (.goto 5, 3) := by decide +kernel
theorem dX5_possible_91 : decode cX5_possible 91 = .ok (.iload 7, 2) := by decide +kernel
theorem dX5_possible_93 : decode cX5_possible 93 = .ok (.istore 9, 2) := by decide +kernel
theorem dX5_possible_95 : decode cX5_possible 95 = .ok (.iload_n 2, 1) := by decide +kernel
theorem dX5_possible_96 : decode cX5_possible 96 = .ok (.iload 4, 2) := by decide +kernel
theorem dX5_possible_98 : decode cX5_possible 98 = .ok (.iconst 2, 1) := by decide +kernel
theorem dX5_possible_99 : decode cX5_possible 99 = .ok (.idiv, 1) := by decide +kernel
theorem dX5_possible_100 : decode cX5_possible 100 = .ok (.iload 5, 2) := by decide +kernel
theorem dX5_possible_102 : decode cX5_possible 102 = .ok (.iconst 2, 1) := by decide +kernel
theorem dX5_possible_103 : decode cX5_possible 103 = .ok (.idiv, 1) := by decide +kernel
theorem dX5_possible_104 : decode cX5_possible 104 = .ok (.iadd, 1) := by decide +kernel
theorem dX5_possible_105 : decode cX5_possible 105 = .ok (.iload 6, 2) := by decide +kernel
theorem dX5_possible_107 : decode cX5_possible 107 = .ok (.iconst 2, 1) := by decide +kernel
theorem dX5_possible_108 : decode cX5_possible 108 = .ok (.idiv, 1) := by decide +kernel
theorem dX5_possible_109 : decode cX5_possible 109 = .ok (.iadd, 1) := by decide +kernel
theorem dX5_possible_110 : decode cX5_possible 110 = .ok (.iload 9, 2) := by decide +kernel
theorem dX5_possible_112 : decode cX5_possible 112 = .ok (.iadd, 1) := by decide +kernel
theorem dX5_possible_113 : decode cX5_possible 113 = .ok (.iload 7, 2) := by decide +kernel
theorem dX5_possible_115 : decode cX5_possible 115 = .ok (.iload 9, 2) := by decide +kernel
theorem dX5_possible_117 : decode cX5_possible 117 = .ok (.isub, 1) := by decide +kernel
theorem dX5_possible_118 : decode cX5_possible 118 = .ok (.iconst 2, 1) := by decide +kernel
theorem dX5_possible_119 : decode cX5_possible 119 = .ok (.idiv, 1) := by decide +kernel
theorem dX5_possible_120 : decode cX5_possible 120 = .ok (.iadd, 1) := by decide +kernel
theorem dX5_possible_121 : decode cX5_possible 121 = .ok (.iadd, 1) := by decide +kernel
theorem dX5_possible_122 : decode cX5_possible 122 = .ok (.istore_n 2, 1) := by decide +kernel
theorem dX5_possible_123 : decode cX5_possible 123 = .ok (.iinc 3 1, 3) := by decide +kernel
theorem dX5_possible_126 : decode cX5_possible 126 = .ok (.goto (-109), 3) := by decide +kernel
theorem dX5_possible_129 : decode cX5_possible 129 = .ok (.iload_n 2, 1) := by decide +kernel
theorem dX5_possible_130 : decode cX5_possible 130 = .ok (.ireturn, 1) := by decide +kernel
theorem dX5_possiblePairs_0 : decode cX5_possiblePairs 0 = .ok (.aload_n 0, 1) := by decide +kernel
theorem dX5_possiblePairs_1 : decode cX5_possiblePairs 1 = .ok (.iload_n 1, 1) := by decide +kernel
theorem dX5_possiblePairs_2 : decode cX5_possiblePairs 2 = .ok (.invokevirtual 250, 3) := by decide +kernel
theorem dX5_possiblePairs_5 : decode cX5_possiblePairs 5 = .ok (.ireturn, 1) := by decide +kernel
theorem dX5_possiblePairsByColours_0 : decode cX5_possiblePairsByColours 0 = .ok (.aload_n 0, 1) := by decide +kernel
theorem dX5_possiblePairsByColours_1 : decode cX5_possiblePairsByColours 1 = .ok (.iload_n 1, 1) := by decide +kernel
theorem dX5_possiblePairsByColours_2 : decode cX5_possiblePairsByColours 2 = .ok (.invokevirtual 250, 3) := by decide +kernel
theorem dX5_possiblePairsByColours_5 : decode cX5_possiblePairsByColours 5 = .ok (.ireturn, 1) := by decide +kernel
theorem dX5_limits_0 : decode cX5_limits 0 = .ok (.aload_n 0, 1) := by decide +kernel
theorem dX5_limits_1 : decode cX5_limits 1 = .ok (.getfield 7, 3) := by decide +kernel
theorem dX5_limits_4 : decode cX5_limits 4 = .ok (.bipush 120, 2) := by decide +kernel
theorem dX5_limits_6 : decode cX5_limits 6 = .ok (.iload_n 1, 1) := by decide +kernel
theorem dX5_limits_7 : decode cX5_limits 7 = .ok (.iadd, 1) := by decide +kernel
theorem dX5_limits_8 : decode cX5_limits 8 = .ok (.iaload, 1) := by decide +kernel
theorem dX5_limits_9 : decode cX5_limits 9 = .ok (.istore_n 3, 1) := by decide +kernel
theorem dX5_limits_10 : decode cX5_limits 10 = .ok (.aload_n 0, 1) := by decide +kernel
theorem dX5_limits_11 : decode cX5_limits 11 = .ok (.getfield 7, 3) := by decide +kernel
theorem dX5_limits_14 : decode cX5_limits 14 = .ok (.bipush 120, 2) := by decide +kernel
theorem dX5_limits_16 : decode cX5_limits 16 = .ok (.iload_n 1, 1) := by decide +kernel
theorem dX5_limits_17 : decode cX5_limits 17 = .ok (.iadd, 1) := by decide +kernel
theorem dX5_limits_18 : decode cX5_limits 18 = .ok (.iload_n 2, 1) := by decide +kernel
theorem dX5_limits_19 : decode cX5_limits 19 = .ok (.iastore, 1) := by decide +kernel
theorem dX5_limits_20 : decode cX5_limits 20 = .ok (.iload_n 3, 1) := by decide +kernel
theorem dX5_limits_21 : decode cX5_limits 21 = .ok (.ireturn, 1) := by decide +kernel
theorem dX5_setQuota_0 : decode cX5_setQuota 0 = .ok (.aload_n 0, 1) := by decide +kernel
theorem dX5_setQuota_1 : decode cX5_setQuota 1 = .ok (.invokevirtual 129, 3) := by decide +kernel
theorem dX5_setQuota_4 : decode cX5_setQuota 4 = .ok (.iload_n 1, 1) := by decide +kernel
theorem dX5_setQuota_5 : decode cX5_setQuota 5 = .ok (.invokestatic 168, 3) := by decide +kernel
theorem dX5_setQuota_8 : decode cX5_setQuota 8 = .ok (.ifCond .ne 9, 3) := by decide +kernel
theorem dX5_setQuota_11 : decode cX5_setQuota 11 = .ok (.aload_n 0, 1) := by decide +kernel
theorem dX5_setQuota_12 : decode cX5_setQuota 12 = .ok (.iconst 1, 1) := by decide +kernel
theorem dX5_setQuota_13 : decode cX5_setQuota 13 = .ok (.invokevirtual 88, 3) := by decide +kernel
theorem dX5_setQuota_16 : decode cX5_setQuota 16 = .ok (.ireturn, 1) := by decide +kernel
theorem dX5_setQuota_17 : decode cX5_setQuota 17 = .ok (.iload_n 2, 1) := by decide +kernel
theorem dX5_setQuota_18 : decode cX5_setQuota 18 = .ok (.iconst 0, 1) := by decide +kernel
theorem dX5_setQuota_19 : decode cX5_setQuota 19 = .ok (.bipush 9, 2) := by decide +kernel
theorem dX5_setQuota_21 : decode cX5_setQuota 21 = .ok (.invokestatic 92, 3) := by decide +kernel
theorem dX5_setQuota_24 : decode cX5_setQuota 24 = .ok (.ifCond .eq 16, 3) := by decide +kernel
theorem dX5_setQuota_27 : decode cX5_setQuota 27 = .ok (.aload_n 0, 1) := by decide +kernel
theorem dX5_setQuota_28 : decode cX5_setQuota 28 = .ok (.aload_n 0, 1) := by decide +kernel
theorem dX5_setQuota_29 : decode cX5_setQuota 29 = .ok (.iload_n 1, 1) := by decide +kernel
theorem dX5_setQuota_30 : decode cX5_setQuota 30 = .ok (.iload_n 2, 1) := by decide +kernel
theorem dX5_setQuota_31 : decode cX5_setQuota 31 = .ok (.invokevirtual 253, 3) := by decide +kernel
theorem dX5_setQuota_34 : decode cX5_setQuota 34 = .ok (.invokevirtual 145, 3) := by decide +kernel
theorem dX5_setQuota_37 : decode cX5_setQuota 37 = .ok (.goto 8, 3) := by decide +kernel
theorem dX5_setQuota_40 : decode cX5_setQuota 40 = .ok (.aload_n 0, 1) := by decide +kernel
theorem dX5_setQuota_41 : decode cX5_setQuota 41 = .ok (.iconst 2, 1) := by decide +kernel
theorem dX5_setQuota_42 : decode cX5_setQuota 42 = .ok (.invokevirtual 88, 3) := by decide +kernel
theorem dX5_setQuota_45 : decode cX5_setQuota 45 = .ok (.ireturn, 1) := by decide +kernel
theorem dX5_bans_0 : decode cX5_bans 0 = .ok (.aload_n 0, 1) := by decide +kernel
theorem dX5_bans_1 : decode cX5_bans 1 = .ok (.iload_n 1, 1) := by decide +kernel
theorem dX5_bans_2 : decode cX5_bans 2 = .ok (.iload_n 2, 1) := by decide +kernel
theorem dX5_bans_3 : decode cX5_bans 3 = .ok (.invokevirtual 198, 3) := by decide +kernel
theorem dX5_bans_6 : decode cX5_bans 6 = .ok (.ifCond .eq 7, 3) := by decide +kernel
theorem dX5_bans_9 : decode cX5_bans 9 = .ok (.iconst 1, 1) := by decide +kernel
theorem dX5_bans_10 : decode cX5_bans 10 = .ok (.goto 4, 3) := by decide +kernel
theorem dX5_bans_13 : decode cX5_bans 13 = .ok (.iconst 0, 1) := by decide +kernel
theorem dX5_bans_14 : decode cX5_bans 14 = .ok (.istore 4, 2) := by decide +kernel
theorem dX5_bans_16 : decode cX5_bans 16 = .ok (.aload_n 0, 1) := by decide +kernel
theorem dX5_bans_17 : decode cX5_bans 17 = .ok (.getfield 7, 3) := by decide +kernel
theorem dX5_bans_20 : decode cX5_bans 20 = .ok (.bipush 125, 2) := by decide +kernel
theorem dX5_bans_22 : decode cX5_bans 22 = .ok (.iload_n 1, 1) := by decide +kernel
theorem dX5_bans_23 : decode cX5_bans 23 = .ok (.iadd, 1) := by decide +kernel
theorem dX5_bans_24 : decode cX5_bans 24 = .ok (.dup2, 1) := by decide +kernel
theorem dX5_bans_25 : decode cX5_bans 25 = .ok (.iaload, 1) := by decide +kernel
theorem dX5_bans_26 : decode cX5_bans 26 = .ok (.iload_n 3, 1) := by decide +kernel
theorem dX5_bans_27 : decode cX5_bans 27 = .ok (.iload 4, 2) := by decide +kernel
theorem dX5_bans_29 : decode cX5_bans 29 = .ok (.isub, 1) := by decide +kernel
theorem dX5_bans_30 : decode cX5_bans 30 = .ok (.iload_n 2, 1) := by decide +kernel
theorem dX5_bans_31 : decode cX5_bans 31 = .ok (.invokestatic 114, 3) := by decide +kernel
theorem dX5_bans_34 : decode cX5_bans 34 = .ok (.imul, 1) := by decide +kernel
theorem dX5_bans_35 : decode cX5_bans 35 = .ok (.iadd, 1) := by decide +kernel
theorem dX5_bans_36 : decode cX5_bans 36 = .ok (.iastore, 1) := by decide +kernel
theorem dX5_bans_37 : decode cX5_bans 37 = .ok (.iload_n 3, 1) := by decide +kernel
theorem dX5_bans_38 : decode cX5_bans 38 = .ok (.iload 4, 2) := by decide +kernel
theorem dX5_bans_40 : decode cX5_bans 40 = .ok (.if_icmp .ne 7, 3) := by decide +kernel
theorem dX5_bans_43 : decode cX5_bans 43 = .ok (.iconst 0, 1) := by decide +kernel
theorem dX5_bans_44 : decode cX5_bans 44 = .ok (.goto 4, 3) := by decide +kernel
theorem dX5_bans_47 : decode cX5_bans 47 = .ok (.iconst 1, 1) := by decide +kernel
theorem dX5_bans_48 : decode cX5_bans 48 = .ok (.ireturn, 1) := by decide +kernel
theorem dX5_banned_0 : decode cX5_banned 0 = .ok (.aload_n 0, 1) := by decide +kernel
theorem dX5_banned_1 : decode cX5_banned 1 = .ok (.invokevirtual 129, 3) := by decide +kernel
theorem dX5_banned_4 : decode cX5_banned 4 = .ok (.iload_n 1, 1) := by decide +kernel
theorem dX5_banned_5 : decode cX5_banned 5 = .ok (.invokestatic 168, 3) := by decide +kernel
theorem dX5_banned_8 : decode cX5_banned 8 = .ok (.ifCond .ne 9, 3) := by decide +kernel
theorem dX5_banned_11 : decode cX5_banned 11 = .ok (.aload_n 0, 1) := by decide +kernel
theorem dX5_banned_12 : decode cX5_banned 12 = .ok (.iconst 1, 1) := by decide +kernel
theorem dX5_banned_13 : decode cX5_banned 13 = .ok (.invokevirtual 88, 3) := by decide +kernel
theorem dX5_banned_16 : decode cX5_banned 16 = .ok (.ireturn, 1) := by decide +kernel
theorem dX5_banned_17 : decode cX5_banned 17 = .ok (.iload_n 2, 1) := by decide +kernel
theorem dX5_banned_18 : decode cX5_banned 18 = .ok (.invokestatic 114, 3) := by decide +kernel
theorem dX5_banned_21 : decode cX5_banned 21 = .ok (.ifCond .le 17, 3) := by decide +kernel
theorem dX5_banned_24 : decode cX5_banned 24 = .ok (.aload_n 0, 1) := by decide +kernel
theorem dX5_banned_25 : decode cX5_banned 25 = .ok (.aload_n 0, 1) := by decide +kernel
theorem dX5_banned_26 : decode cX5_banned 26 = .ok (.iload_n 1, 1) := by decide +kernel
theorem dX5_banned_27 : decode cX5_banned 27 = .ok (.iload_n 2, 1) := by decide +kernel
theorem dX5_banned_28 : decode cX5_banned 28 = .ok (.iload_n 3, 1) := by decide +kernel
theorem dX5_banned_29 : decode cX5_banned 29 = .ok (.invokevirtual 256, 3) := by decide +kernel
theorem dX5_banned_32 : decode cX5_banned 32 = .ok (.invokevirtual 145, 3) := by decide +kernel
theorem dX5_banned_35 : decode cX5_banned 35 = .ok (.goto 8, 3) := by decide +kernel
theorem dX5_banned_38 : decode cX5_banned 38 = .ok (.aload_n 0, 1) := by decide +kernel
theorem dX5_banned_39 : decode cX5_banned 39 = .ok (.iconst 2, 1) := by decide +kernel
theorem dX5_banned_40 : decode cX5_banned 40 = .ok (.invokevirtual 88, 3) := by decide +kernel
theorem dX5_banned_43 : decode cX5_banned 43 = .ok (.ireturn, 1) := by decide +kernel
theorem dX5_ban_0 : decode cX5_ban 0 = .ok (.aload_n 0, 1) := by decide +kernel
theorem dX5_ban_1 : decode cX5_ban 1 = .ok (.iload_n 1, 1) := by decide +kernel
theorem dX5_ban_2 : decode cX5_ban 2 = .ok (.iload_n 2, 1) := by decide +kernel
theorem dX5_ban_3 : decode cX5_ban 3 = .ok (.iconst 1, 1) := by decide +kernel
theorem dX5_ban_4 : decode cX5_ban 4 = .ok (.invokevirtual 259, 3) := by decide +kernel
theorem dX5_ban_7 : decode cX5_ban 7 = .ok (.iconst 1, 1) := by decide +kernel
theorem dX5_ban_8 : decode cX5_ban 8 = .ok (.if_icmp .ne 7, 3) := by decide +kernel
theorem dX5_ban_11 : decode cX5_ban 11 = .ok (.iconst 1, 1) := by decide +kernel
theorem dX5_ban_12 : decode cX5_ban 12 = .ok (.goto 4, 3) := by decide +kernel
theorem dX5_ban_15 : decode cX5_ban 15 = .ok (.iconst 0, 1) := by decide +kernel
theorem dX5_ban_16 : decode cX5_ban 16 = .ok (.ireturn, 1) := by decide +kernel
theorem dX5_unban_0 : decode cX5_unban 0 = .ok (.aload_n 0, 1) := by decide +kernel
theorem dX5_unban_1 : decode cX5_unban 1 = .ok (.iload_n 1, 1) := by decide +kernel
theorem dX5_unban_2 : decode cX5_unban 2 = .ok (.iload_n 2, 1) := by decide +kernel
theorem dX5_unban_3 : decode cX5_unban 3 = .ok (.iconst 0, 1) := by decide +kernel
theorem dX5_unban_4 : decode cX5_unban 4 = .ok (.invokevirtual 259, 3) := by decide +kernel
theorem dX5_unban_7 : decode cX5_unban 7 = .ok (.iconst 1, 1) := by decide +kernel
theorem dX5_unban_8 : decode cX5_unban 8 = .ok (.if_icmp .ne 7, 3) := by decide +kernel
theorem dX5_unban_11 : decode cX5_unban 11 = .ok (.iconst 1, 1) := by decide +kernel
theorem dX5_unban_12 : decode cX5_unban 12 = .ok (.goto 4, 3) := by decide +kernel
theorem dX5_unban_15 : decode cX5_unban 15 = .ok (.iconst 0, 1) := by decide +kernel
theorem dX5_unban_16 : decode cX5_unban 16 = .ok (.ireturn, 1) := by decide +kernel
theorem dX5_treaties_0 : decode cX5_treaties 0 = .ok (.iconst 0, 1) := by decide +kernel
theorem dX5_treaties_1 : decode cX5_treaties 1 = .ok (.istore_n 1, 1) := by decide +kernel
theorem dX5_treaties_2 : decode cX5_treaties 2 = .ok (.iconst 0, 1) := by decide +kernel
theorem dX5_treaties_3 : decode cX5_treaties 3 = .ok (.istore_n 2, 1) := by decide +kernel
theorem dX5_treaties_4 : decode cX5_treaties 4 = .ok (.iload_n 2, 1) := by decide +kernel
theorem dX5_treaties_5 : decode cX5_treaties 5 = .ok (.bipush 25, 2) := by decide +kernel
theorem dX5_treaties_7 : decode cX5_treaties 7 = .ok (.if_icmp .ge 30, 3) := by decide +kernel
theorem dX5_treaties_10 : decode cX5_treaties 10 = .ok (.iload_n 1, 1) := by decide +kernel
theorem dX5_treaties_11 : decode cX5_treaties 11 = .ok (.aload_n 0, 1) := by decide +kernel
theorem dX5_treaties_12 : decode cX5_treaties 12 = .ok (.getfield 7, 3) := by decide +kernel
theorem dX5_treaties_15 : decode cX5_treaties 15 = .ok (.sipush 130, 3) := by decide +kernel
theorem dX5_treaties_18 : decode cX5_treaties 18 = .ok (.iload_n 2, 1) := by decide +kernel
theorem dX5_treaties_19 : decode cX5_treaties 19 = .ok (.iadd, 1) := by decide +kernel
theorem dX5_treaties_20 : decode cX5_treaties 20 = .ok (.iaload, 1) := by decide +kernel
theorem dX5_treaties_21 : decode cX5_treaties 21 = .ok (.ifCond .le 7, 3) := by decide +kernel
theorem dX5_treaties_24 : decode cX5_treaties 24 = .ok (.iconst 1, 1) := by decide +kernel
theorem dX5_treaties_25 : decode cX5_treaties 25 = .ok (.goto 4, 3) := by decide +kernel
theorem dX5_treaties_28 : decode cX5_treaties 28 = .ok (.iconst 0, 1) := by decide +kernel
theorem dX5_treaties_29 : decode cX5_treaties 29 = .ok (.iadd, 1) := by decide +kernel
theorem dX5_treaties_30 : decode cX5_treaties 30 = .ok (.istore_n 1, 1) := by decide +kernel
theorem dX5_treaties_31 : decode cX5_treaties 31 = .ok (.iinc 2 1, 3) := by decide +kernel
theorem dX5_treaties_34 : decode cX5_treaties 34 = .ok (.goto (-30), 3) := by decide +kernel
theorem dX5_treaties_37 : decode cX5_treaties 37 = .ok (.iload_n 1, 1) := by decide +kernel
theorem dX5_treaties_38 : decode cX5_treaties 38 = .ok (.ireturn, 1) := by decide +kernel
theorem dX5_isClause_0 : decode cX5_isClause 0 = .ok (.iload_n 0, 1) := by decide +kernel
theorem dX5_isClause_1 : decode cX5_isClause 1 = .ok (.bipush 111, 2) := by decide +kernel
theorem dX5_isClause_3 : decode cX5_isClause 3 = .ok (.if_icmp .eq 15, 3) := by decide +kernel
theorem dX5_isClause_6 : decode cX5_isClause 6 = .ok (.iload_n 0, 1) := by decide +kernel
theorem dX5_isClause_7 : decode cX5_isClause 7 = .ok (.bipush 115, 2) := by decide +kernel
theorem dX5_isClause_9 : decode cX5_isClause 9 = .ok (.if_icmp .eq 9, 3) := by decide +kernel
theorem dX5_isClause_12 : decode cX5_isClause 12 = .ok (.iload_n 0, 1) := by decide +kernel
theorem dX5_isClause_13 : decode cX5_isClause 13 = .ok (.bipush 120, 2) := by decide +kernel
theorem dX5_isClause_15 : decode cX5_isClause 15 = .ok (.if_icmp .ne 7, 3) := by decide +kernel
theorem dX5_isClause_18 : decode cX5_isClause 18 = .ok (.iconst 1, 1) := by decide +kernel
theorem dX5_isClause_19 : decode cX5_isClause 19 = .ok (.goto 4, 3) := by decide +kernel
theorem dX5_isClause_22 : decode cX5_isClause 22 = .ok (.iconst 0, 1) := by decide +kernel
theorem dX5_isClause_23 : decode cX5_isClause 23 = .ok (.ireturn, 1) := by decide +kernel
theorem dX5_cannotSign_0 : decode cX5_cannotSign 0 = .ok (.aload_n 0, 1) := by decide +kernel
theorem dX5_cannotSign_1 : decode cX5_cannotSign 1 = .ok (.aload_n 0, 1) := by decide +kernel
theorem dX5_cannotSign_2 : decode cX5_cannotSign 2 = .ok (.getfield 7, 3) := by decide +kernel
theorem dX5_cannotSign_5 : decode cX5_cannotSign 5 = .ok (.iload_n 1, 1) := by decide +kernel
theorem dX5_cannotSign_6 : decode cX5_cannotSign 6 = .ok (.iload_n 2, 1) := by decide +kernel
theorem dX5_cannotSign_7 : decode cX5_cannotSign 7 = .ok (.invokestatic 222, 3) := by decide +kernel
theorem dX5_cannotSign_10 : decode cX5_cannotSign 10 = .ok (.iaload, 1) := by decide +kernel
theorem dX5_cannotSign_11 : decode cX5_cannotSign 11 = .ok (.ifCond .le 7, 3) := by decide +kernel
theorem dX5_cannotSign_14 : decode cX5_cannotSign 14 = .ok (.iconst 1, 1) := by decide +kernel
theorem dX5_cannotSign_15 : decode cX5_cannotSign 15 = .ok (.goto 4, 3) := by decide +kernel
theorem dX5_cannotSign_18 : decode cX5_cannotSign 18 = .ok (.iconst 0, 1) := by decide +kernel
theorem dX5_cannotSign_19 : decode cX5_cannotSign 19 = .ok (.bipush 16, 2) := by decide +kernel
theorem dX5_cannotSign_21 : decode cX5_cannotSign 21 = .ok (.aload_n 0, 1) := by decide +kernel
theorem dX5_cannotSign_22 : decode cX5_cannotSign 22 = .ok (.invokevirtual 262, 3) := by decide +kernel
theorem dX5_cannotSign_25 : decode cX5_cannotSign 25 = .ok (.invokevirtual 121, 3) := by decide +kernel
theorem dX5_cannotSign_28 : decode cX5_cannotSign 28 = .ok (.ireturn, 1) := by decide +kernel
theorem dX5_signs_0 : decode cX5_signs 0 = .ok (.aload_n 0, 1) := by decide +kernel
theorem dX5_signs_1 : decode cX5_signs 1 = .ok (.getfield 7, 3) := by decide +kernel
theorem dX5_signs_4 : decode cX5_signs 4 = .ok (.iload_n 1, 1) := by decide +kernel
theorem dX5_signs_5 : decode cX5_signs 5 = .ok (.iload_n 2, 1) := by decide +kernel
theorem dX5_signs_6 : decode cX5_signs 6 = .ok (.invokestatic 222, 3) := by decide +kernel
theorem dX5_signs_9 : decode cX5_signs 9 = .ok (.iload_n 3, 1) := by decide +kernel
theorem dX5_signs_10 : decode cX5_signs 10 = .ok (.iastore, 1) := by decide +kernel
theorem dX5_signs_11 : decode cX5_signs 11 = .ok (.aload_n 0, 1) := by decide +kernel
theorem dX5_signs_12 : decode cX5_signs 12 = .ok (.invokevirtual 262, 3) := by decide +kernel
theorem dX5_signs_15 : decode cX5_signs 15 = .ok (.ireturn, 1) := by decide +kernel
theorem dX5_signTreaty_0 : decode cX5_signTreaty 0 = .ok (.aload_n 0, 1) := by decide +kernel
theorem dX5_signTreaty_1 : decode cX5_signTreaty 1 = .ok (.invokevirtual 129, 3) := by decide +kernel
theorem dX5_signTreaty_4 : decode cX5_signTreaty 4 = .ok (.iload_n 1, 1) := by decide +kernel
theorem dX5_signTreaty_5 : decode cX5_signTreaty 5 = .ok (.invokestatic 168, 3) := by decide +kernel
theorem dX5_signTreaty_8 : decode cX5_signTreaty 8 = .ok (.ifCond .eq 10, 3) := by decide +kernel
theorem dX5_signTreaty_11 : decode cX5_signTreaty 11 = .ok (.iload_n 2, 1) := by decide +kernel
theorem dX5_signTreaty_12 : decode cX5_signTreaty 12 = .ok (.invokestatic 168, 3) := by decide +kernel
theorem dX5_signTreaty_15 : decode cX5_signTreaty 15 = .ok (.ifCond .ne 9, 3) := by decide +kernel
theorem dX5_signTreaty_18 : decode cX5_signTreaty 18 = .ok (.aload_n 0, 1) := by decide +kernel
theorem dX5_signTreaty_19 : decode cX5_signTreaty 19 = .ok (.iconst 1, 1) := by decide +kernel
theorem dX5_signTreaty_20 : decode cX5_signTreaty 20 = .ok (.invokevirtual 88, 3) := by decide +kernel
theorem dX5_signTreaty_23 : decode cX5_signTreaty 23 = .ok (.ireturn, 1) := by decide +kernel
theorem dX5_signTreaty_24 : decode cX5_signTreaty 24 = .ok (.iload_n 1, 1) := by decide +kernel
theorem dX5_signTreaty_25 : decode cX5_signTreaty 25 = .ok (.iload_n 2, 1) := by decide +kernel
theorem dX5_signTreaty_26 : decode cX5_signTreaty 26 = .ok (.if_icmp .eq 10, 3) := by decide +kernel
theorem dX5_signTreaty_29 : decode cX5_signTreaty 29 = .ok (.iload_n 3, 1) := by decide +kernel
theorem dX5_signTreaty_30 : decode cX5_signTreaty 30 = .ok (.invokestatic 266, 3) := by decide +kernel
theorem dX5_signTreaty_33 : decode cX5_signTreaty 33 = .ok (.ifCond .ne 9, 3) := by decide +kernel
theorem dX5_signTreaty_36 : decode cX5_signTreaty 36 = .ok (.aload_n 0, 1) := by decide +kernel
theorem dX5_signTreaty_37 : decode cX5_signTreaty 37 = .ok (.iconst 2, 1) := by decide +kernel
theorem dX5_signTreaty_38 : decode cX5_signTreaty 38 = .ok (.invokevirtual 88, 3) := by decide +kernel
theorem dX5_signTreaty_41 : decode cX5_signTreaty 41 = .ok (.ireturn, 1) := by decide +kernel
theorem dX5_signTreaty_42 : decode cX5_signTreaty 42 = .ok (.aload_n 0, 1) := by decide +kernel
theorem dX5_signTreaty_43 : decode cX5_signTreaty 43 = .ok (.iload_n 1, 1) := by decide +kernel
theorem dX5_signTreaty_44 : decode cX5_signTreaty 44 = .ok (.iload_n 2, 1) := by decide +kernel
theorem dX5_signTreaty_45 : decode cX5_signTreaty 45 = .ok (.invokevirtual 269, 3) := by decide +kernel
theorem dX5_signTreaty_48 : decode cX5_signTreaty 48 = .ok (.ifCond .eq 11, 3) := by decide +kernel
theorem dX5_signTreaty_51 : decode cX5_signTreaty 51 = .ok (.aload_n 0, 1) := by decide +kernel
theorem dX5_signTreaty_52 : decode cX5_signTreaty 52 = .ok (.iconst 3, 1) := by decide +kernel
theorem dX5_signTreaty_53 : decode cX5_signTreaty 53 = .ok (.invokevirtual 139, 3) := by decide +kernel
theorem dX5_signTreaty_56 : decode cX5_signTreaty 56 = .ok (.goto 14, 3) := by decide +kernel
theorem dX5_signTreaty_59 : decode cX5_signTreaty 59 = .ok (.aload_n 0, 1) := by decide +kernel
theorem dX5_signTreaty_60 : decode cX5_signTreaty 60 = .ok (.aload_n 0, 1) := by decide +kernel
theorem dX5_signTreaty_61 : decode cX5_signTreaty 61 = .ok (.iload_n 1, 1) := by decide +kernel
theorem dX5_signTreaty_62 : decode cX5_signTreaty 62 = .ok (.iload_n 2, 1) := by decide +kernel
theorem dX5_signTreaty_63 : decode cX5_signTreaty 63 = .ok (.iload_n 3, 1) := by decide +kernel
theorem dX5_signTreaty_64 : decode cX5_signTreaty 64 = .ok (.invokevirtual 272, 3) := by decide +kernel
theorem dX5_signTreaty_67 : decode cX5_signTreaty 67 = .ok (.invokevirtual 145, 3) := by decide +kernel
theorem dX5_signTreaty_70 : decode cX5_signTreaty 70 = .ok (.ireturn, 1) := by decide +kernel
theorem dX5_noTreaty_0 : decode cX5_noTreaty 0 = .ok (.iload_n 1, 1) := by decide +kernel
theorem dX5_noTreaty_1 : decode cX5_noTreaty 1 = .ok (.invokestatic 168, 3) := by decide +kernel
theorem dX5_noTreaty_4 : decode cX5_noTreaty 4 = .ok (.ifCond .eq 10, 3) := by decide +kernel
theorem dX5_noTreaty_7 : decode cX5_noTreaty 7 = .ok (.iload_n 2, 1) := by decide +kernel
theorem dX5_noTreaty_8 : decode cX5_noTreaty 8 = .ok (.invokestatic 168, 3) := by decide +kernel
theorem dX5_noTreaty_11 : decode cX5_noTreaty 11 = .ok (.ifCond .ne 7, 3) := by decide +kernel
theorem dX5_noTreaty_14 : decode cX5_noTreaty 14 = .ok (.iconst 1, 1) := by decide +kernel
theorem dX5_noTreaty_15 : decode cX5_noTreaty 15 = .ok (.goto 21, 3) := by decide +kernel
theorem dX5_noTreaty_18 : decode cX5_noTreaty 18 = .ok (.aload_n 0, 1) := by decide +kernel
theorem dX5_noTreaty_19 : decode cX5_noTreaty 19 = .ok (.getfield 7, 3) := by decide +kernel
theorem dX5_noTreaty_22 : decode cX5_noTreaty 22 = .ok (.iload_n 1, 1) := by decide +kernel
theorem dX5_noTreaty_23 : decode cX5_noTreaty 23 = .ok (.iload_n 2, 1) := by decide +kernel
theorem dX5_noTreaty_24 : decode cX5_noTreaty 24 = .ok (.invokestatic 222, 3) := by decide +kernel
theorem dX5_noTreaty_27 : decode cX5_noTreaty 27 = .ok (.iaload, 1) := by decide +kernel
theorem dX5_noTreaty_28 : decode cX5_noTreaty 28 = .ok (.ifCond .ne 7, 3) := by decide +kernel
theorem dX5_noTreaty_31 : decode cX5_noTreaty 31 = .ok (.iconst 2, 1) := by decide +kernel
theorem dX5_noTreaty_32 : decode cX5_noTreaty 32 = .ok (.goto 4, 3) := by decide +kernel
theorem dX5_noTreaty_35 : decode cX5_noTreaty 35 = .ok (.iconst 0, 1) := by decide +kernel
theorem dX5_noTreaty_36 : decode cX5_noTreaty 36 = .ok (.ireturn, 1) := by decide +kernel
theorem dX5_endTreaty_0 : decode cX5_endTreaty 0 = .ok (.aload_n 0, 1) := by decide +kernel
theorem dX5_endTreaty_1 : decode cX5_endTreaty 1 = .ok (.invokevirtual 129, 3) := by decide +kernel
theorem dX5_endTreaty_4 : decode cX5_endTreaty 4 = .ok (.aload_n 0, 1) := by decide +kernel
theorem dX5_endTreaty_5 : decode cX5_endTreaty 5 = .ok (.iload_n 1, 1) := by decide +kernel
theorem dX5_endTreaty_6 : decode cX5_endTreaty 6 = .ok (.iload_n 2, 1) := by decide +kernel
theorem dX5_endTreaty_7 : decode cX5_endTreaty 7 = .ok (.invokevirtual 275, 3) := by decide +kernel
theorem dX5_endTreaty_10 : decode cX5_endTreaty 10 = .ok (.istore_n 3, 1) := by decide +kernel
theorem dX5_endTreaty_11 : decode cX5_endTreaty 11 = .ok (.iload_n 3, 1) := by decide +kernel
theorem dX5_endTreaty_12 : decode cX5_endTreaty 12 = .ok (.ifCond .le 11, 3) := by decide +kernel
theorem dX5_endTreaty_15 : decode cX5_endTreaty 15 = .ok (.aload_n 0, 1) := by decide +kernel
theorem dX5_endTreaty_16 : decode cX5_endTreaty 16 = .ok (.iload_n 3, 1) := by decide +kernel
theorem dX5_endTreaty_17 : decode cX5_endTreaty 17 = .ok (.invokevirtual 88, 3) := by decide +kernel
theorem dX5_endTreaty_20 : decode cX5_endTreaty 20 = .ok (.goto 14, 3) := by decide +kernel
theorem dX5_endTreaty_23 : decode cX5_endTreaty 23 = .ok (.aload_n 0, 1) := by decide +kernel
theorem dX5_endTreaty_24 : decode cX5_endTreaty 24 = .ok (.aload_n 0, 1) := by decide +kernel
theorem dX5_endTreaty_25 : decode cX5_endTreaty 25 = .ok (.iload_n 1, 1) := by decide +kernel
theorem dX5_endTreaty_26 : decode cX5_endTreaty 26 = .ok (.iload_n 2, 1) := by decide +kernel
theorem dX5_endTreaty_27 : decode cX5_endTreaty 27 = .ok (.iconst 0, 1) := by decide +kernel
theorem dX5_endTreaty_28 : decode cX5_endTreaty 28 = .ok (.invokevirtual 272, 3) := by decide +kernel
theorem dX5_endTreaty_31 : decode cX5_endTreaty 31 = .ok (.invokevirtual 145, 3) := by decide +kernel
theorem dX5_endTreaty_34 : decode cX5_endTreaty 34 = .ok (.ireturn, 1) := by decide +kernel
theorem dX5_clauseOf_0 : decode cX5_clauseOf 0 = .ok (.aload_n 0, 1) := by decide +kernel
theorem dX5_clauseOf_1 : decode cX5_clauseOf 1 = .ok (.aload_n 0, 1) := by decide +kernel
theorem dX5_clauseOf_2 : decode cX5_clauseOf 2 = .ok (.iload_n 1, 1) := by decide +kernel
theorem dX5_clauseOf_3 : decode cX5_clauseOf 3 = .ok (.iload_n 2, 1) := by decide +kernel
theorem dX5_clauseOf_4 : decode cX5_clauseOf 4 = .ok (.invokevirtual 275, 3) := by decide +kernel
theorem dX5_clauseOf_7 : decode cX5_clauseOf 7 = .ok (.putfield 25, 3) := by decide +kernel
theorem dX5_clauseOf_10 : decode cX5_clauseOf 10 = .ok (.aload_n 0, 1) := by decide +kernel
theorem dX5_clauseOf_11 : decode cX5_clauseOf 11 = .ok (.getfield 25, 3) := by decide +kernel
theorem dX5_clauseOf_14 : decode cX5_clauseOf 14 = .ok (.ifCond .le 8, 3) := by decide +kernel
theorem dX5_clauseOf_17 : decode cX5_clauseOf 17 = .ok (.bipush 32, 2) := by decide +kernel
theorem dX5_clauseOf_19 : decode cX5_clauseOf 19 = .ok (.goto 14, 3) := by decide +kernel
theorem dX5_clauseOf_22 : decode cX5_clauseOf 22 = .ok (.aload_n 0, 1) := by decide +kernel
theorem dX5_clauseOf_23 : decode cX5_clauseOf 23 = .ok (.getfield 7, 3) := by decide +kernel
theorem dX5_clauseOf_26 : decode cX5_clauseOf 26 = .ok (.iload_n 1, 1) := by decide +kernel
theorem dX5_clauseOf_27 : decode cX5_clauseOf 27 = .ok (.iload_n 2, 1) := by decide +kernel
theorem dX5_clauseOf_28 : decode cX5_clauseOf 28 = .ok (.invokestatic 222, 3) := by decide +kernel
theorem dX5_clauseOf_31 : decode cX5_clauseOf 31 = .ok (.iaload, 1) := by decide +kernel
theorem dX5_clauseOf_32 : decode cX5_clauseOf 32 = .ok (.i2c, 1) := by decide +kernel
theorem dX5_clauseOf_33 : decode cX5_clauseOf 33 = .ok (.ireturn, 1) := by decide +kernel
theorem dX5_quotaOf_0 : decode cX5_quotaOf 0 = .ok (.aload_n 0, 1) := by decide +kernel
theorem dX5_quotaOf_1 : decode cX5_quotaOf 1 = .ok (.iload_n 1, 1) := by decide +kernel
theorem dX5_quotaOf_2 : decode cX5_quotaOf 2 = .ok (.invokestatic 168, 3) := by decide +kernel
theorem dX5_quotaOf_5 : decode cX5_quotaOf 5 = .ok (.invokevirtual 154, 3) := by decide +kernel
theorem dX5_quotaOf_8 : decode cX5_quotaOf 8 = .ok (.ifCond .le 7, 3) := by decide +kernel
theorem dX5_quotaOf_11 : decode cX5_quotaOf 11 = .ok (.iconst 0, 1) := by decide +kernel
theorem dX5_quotaOf_12 : decode cX5_quotaOf 12 = .ok (.goto 12, 3) := by decide +kernel
theorem dX5_quotaOf_15 : decode cX5_quotaOf 15 = .ok (.aload_n 0, 1) := by decide +kernel
theorem dX5_quotaOf_16 : decode cX5_quotaOf 16 = .ok (.getfield 7, 3) := by decide +kernel
theorem dX5_quotaOf_19 : decode cX5_quotaOf 19 = .ok (.bipush 120, 2) := by decide +kernel
theorem dX5_quotaOf_21 : decode cX5_quotaOf 21 = .ok (.iload_n 1, 1) := by decide +kernel
theorem dX5_quotaOf_22 : decode cX5_quotaOf 22 = .ok (.iadd, 1) := by decide +kernel
theorem dX5_quotaOf_23 : decode cX5_quotaOf 23 = .ok (.iaload, 1) := by decide +kernel
theorem dX5_quotaOf_24 : decode cX5_quotaOf 24 = .ok (.ireturn, 1) := by decide +kernel
theorem dX5_residents_0 : decode cX5_residents 0 = .ok (.aload_n 0, 1) := by decide +kernel
theorem dX5_residents_1 : decode cX5_residents 1 = .ok (.iload_n 1, 1) := by decide +kernel
theorem dX5_residents_2 : decode cX5_residents 2 = .ok (.invokestatic 168, 3) := by decide +kernel
theorem dX5_residents_5 : decode cX5_residents 5 = .ok (.invokevirtual 154, 3) := by decide +kernel
theorem dX5_residents_8 : decode cX5_residents 8 = .ok (.ifCond .le 7, 3) := by decide +kernel
theorem dX5_residents_11 : decode cX5_residents 11 = .ok (.iconst 0, 1) := by decide +kernel
theorem dX5_residents_12 : decode cX5_residents 12 = .ok (.goto 8, 3) := by decide +kernel
theorem dX5_residents_15 : decode cX5_residents 15 = .ok (.aload_n 0, 1) := by decide +kernel
theorem dX5_residents_16 : decode cX5_residents 16 = .ok (.iload_n 1, 1) := by decide +kernel
theorem dX5_residents_17 : decode cX5_residents 17 = .ok (.invokevirtual 195, 3) := by decide +kernel
theorem dX5_residents_20 : decode cX5_residents 20 = .ok (.ireturn, 1) := by decide +kernel
theorem dX5_residentAt_0 : decode cX5_residentAt 0 = .ok (.aload_n 0, 1) := by decide +kernel
theorem dX5_residentAt_1 : decode cX5_residentAt 1 = .ok (.iload_n 1, 1) := by decide +kernel
theorem dX5_residentAt_2 : decode cX5_residentAt 2 = .ok (.invokestatic 168, 3) := by decide +kernel
theorem dX5_residentAt_5 : decode cX5_residentAt 5 = .ok (.invokevirtual 154, 3) := by decide +kernel
theorem dX5_residentAt_8 : decode cX5_residentAt 8 = .ok (.ifCond .le 5, 3) := by decide +kernel
theorem dX5_residentAt_11 : decode cX5_residentAt 11 = .ok (.iconst 0, 1) := by decide +kernel
theorem dX5_residentAt_12 : decode cX5_residentAt 12 = .ok (.ireturn, 1) := by decide +kernel
theorem dX5_residentAt_13 : decode cX5_residentAt 13 = .ok (.iconst 0, 1) := by decide +kernel
theorem dX5_residentAt_14 : decode cX5_residentAt 14 = .ok (.istore_n 3, 1) := by decide +kernel
theorem dX5_residentAt_15 : decode cX5_residentAt 15 = .ok (.iconst 0, 1) := by decide +kernel
theorem dX5_residentAt_16 : decode cX5_residentAt 16 = .ok (.istore 4, 2) := by decide +kernel
theorem dX5_residentAt_18 : decode cX5_residentAt 18 = .ok (.iload 4, 2) := by decide +kernel
theorem dX5_residentAt_20 : decode cX5_residentAt 20 = .ok (.aload_n 0, 1) := by decide +kernel
theorem dX5_residentAt_21 : decode cX5_residentAt 21 = .ok (.getfield 7, 3) := by decide +kernel
theorem dX5_residentAt_24 : decode cX5_residentAt 24 = .ok (.iconst 0, 1) := by decide +kernel
theorem dX5_residentAt_25 : decode cX5_residentAt 25 = .ok (.iaload, 1) := by decide +kernel
theorem dX5_residentAt_26 : decode cX5_residentAt 26 = .ok (.if_icmp .ge 33, 3) := by decide +kernel
theorem dX5_residentAt_29 : decode cX5_residentAt 29 = .ok (.aload_n 0, 1) := by decide +kernel
theorem dX5_residentAt_30 : decode cX5_residentAt 30 = .ok (.iload 4, 2) := by decide +kernel
theorem dX5_residentAt_32 : decode cX5_residentAt 32 = .ok (.iload_n 1, 1) := by decide +kernel
theorem dX5_residentAt_33 : decode cX5_residentAt 33 = .ok (.invokevirtual 104, 3) := by decide +kernel
theorem dX5_residentAt_36 : decode cX5_residentAt 36 = .ok (.ifCond .ne 6, 3) := by decide +kernel
theorem dX5_residentAt_39 : decode cX5_residentAt 39 = .ok (.goto 14, 3) := by decide +kernel
theorem dX5_residentAt_42 : decode cX5_residentAt 42 = .ok (.iload_n 3, 1) := by decide +kernel
theorem dX5_residentAt_43 : decode cX5_residentAt 43 = .ok (.iload_n 2, 1) := by decide +kernel
theorem dX5_residentAt_44 : decode cX5_residentAt 44 = .ok (.if_icmp .ne 6, 3) := by decide +kernel
theorem dX5_residentAt_47 : decode cX5_residentAt 47 = .ok (.iload 4, 2) := by decide +kernel
theorem dX5_residentAt_49 : decode cX5_residentAt 49 = .ok (.ireturn, 1) := by decide +kernel
theorem dX5_residentAt_50 : decode cX5_residentAt 50 = .ok (.iinc 3 1, 3) := by decide +kernel
theorem dX5_residentAt_53 : decode cX5_residentAt 53 = .ok (.iinc 4 1, 3) := by decide +kernel
theorem dX5_residentAt_56 : decode cX5_residentAt 56 = .ok (.goto (-38), 3) := by decide +kernel
theorem dX5_residentAt_59 : decode cX5_residentAt 59 = .ok (.aload_n 0, 1) := by decide +kernel
theorem dX5_residentAt_60 : decode cX5_residentAt 60 = .ok (.iconst 2, 1) := by decide +kernel
theorem dX5_residentAt_61 : decode cX5_residentAt 61 = .ok (.invokevirtual 88, 3) := by decide +kernel
theorem dX5_residentAt_64 : decode cX5_residentAt 64 = .ok (.ireturn, 1) := by decide +kernel
theorem dX5_isBanned_0 : decode cX5_isBanned 0 = .ok (.aload_n 0, 1) := by decide +kernel
theorem dX5_isBanned_1 : decode cX5_isBanned 1 = .ok (.iload_n 1, 1) := by decide +kernel
theorem dX5_isBanned_2 : decode cX5_isBanned 2 = .ok (.invokestatic 168, 3) := by decide +kernel
theorem dX5_isBanned_5 : decode cX5_isBanned 5 = .ok (.ifCond .ne 7, 3) := by decide +kernel
theorem dX5_isBanned_8 : decode cX5_isBanned 8 = .ok (.iconst 1, 1) := by decide +kernel
theorem dX5_isBanned_9 : decode cX5_isBanned 9 = .ok (.goto 15, 3) := by decide +kernel
theorem dX5_isBanned_12 : decode cX5_isBanned 12 = .ok (.iload_n 2, 1) := by decide +kernel
theorem dX5_isBanned_13 : decode cX5_isBanned 13 = .ok (.invokestatic 114, 3) := by decide +kernel
theorem dX5_isBanned_16 : decode cX5_isBanned 16 = .ok (.ifCond .ne 7, 3) := by decide +kernel
theorem dX5_isBanned_19 : decode cX5_isBanned 19 = .ok (.iconst 2, 1) := by decide +kernel
theorem dX5_isBanned_20 : decode cX5_isBanned 20 = .ok (.goto 4, 3) := by decide +kernel
theorem dX5_isBanned_23 : decode cX5_isBanned 23 = .ok (.iconst 0, 1) := by decide +kernel
theorem dX5_isBanned_24 : decode cX5_isBanned 24 = .ok (.putfield 25, 3) := by decide +kernel
theorem dX5_isBanned_27 : decode cX5_isBanned 27 = .ok (.aload_n 0, 1) := by decide +kernel
theorem dX5_isBanned_28 : decode cX5_isBanned 28 = .ok (.getfield 25, 3) := by decide +kernel
theorem dX5_isBanned_31 : decode cX5_isBanned 31 = .ok (.ifCond .ne 16, 3) := by decide +kernel
theorem dX5_isBanned_34 : decode cX5_isBanned 34 = .ok (.aload_n 0, 1) := by decide +kernel
theorem dX5_isBanned_35 : decode cX5_isBanned 35 = .ok (.iload_n 1, 1) := by decide +kernel
theorem dX5_isBanned_36 : decode cX5_isBanned 36 = .ok (.iload_n 2, 1) := by decide +kernel
theorem dX5_isBanned_37 : decode cX5_isBanned 37 = .ok (.invokevirtual 198, 3) := by decide +kernel
theorem dX5_isBanned_40 : decode cX5_isBanned 40 = .ok (.ifCond .eq 7, 3) := by decide +kernel
theorem dX5_isBanned_43 : decode cX5_isBanned 43 = .ok (.iconst 1, 1) := by decide +kernel
theorem dX5_isBanned_44 : decode cX5_isBanned 44 = .ok (.goto 4, 3) := by decide +kernel
theorem dX5_isBanned_47 : decode cX5_isBanned 47 = .ok (.iconst 0, 1) := by decide +kernel
theorem dX5_isBanned_48 : decode cX5_isBanned 48 = .ok (.ireturn, 1) := by decide +kernel
theorem dX5_canMove_0 : decode cX5_canMove 0 = .ok (.aload_n 0, 1) := by decide +kernel
theorem dX5_canMove_1 : decode cX5_canMove 1 = .ok (.aload_n 0, 1) := by decide +kernel
theorem dX5_canMove_2 : decode cX5_canMove 2 = .ok (.iload_n 1, 1) := by decide +kernel
theorem dX5_canMove_3 : decode cX5_canMove 3 = .ok (.invokevirtual 151, 3) := by decide +kernel
theorem dX5_canMove_6 : decode cX5_canMove 6 = .ok (.ifCond .eq 14, 3) := by decide +kernel
theorem dX5_canMove_9 : decode cX5_canMove 9 = .ok (.iload_n 2, 1) := by decide +kernel
theorem dX5_canMove_10 : decode cX5_canMove 10 = .ok (.invokestatic 168, 3) := by decide +kernel
theorem dX5_canMove_13 : decode cX5_canMove 13 = .ok (.ifCond .eq 7, 3) := by decide +kernel
theorem dX5_canMove_16 : decode cX5_canMove 16 = .ok (.iconst 1, 1) := by decide +kernel
theorem dX5_canMove_17 : decode cX5_canMove 17 = .ok (.goto 4, 3) := by decide +kernel
theorem dX5_canMove_20 : decode cX5_canMove 20 = .ok (.iconst 0, 1) := by decide +kernel
theorem dX5_canMove_21 : decode cX5_canMove 21 = .ok (.invokevirtual 154, 3) := by decide +kernel
theorem dX5_canMove_24 : decode cX5_canMove 24 = .ok (.ifCond .ne 16, 3) := by decide +kernel
theorem dX5_canMove_27 : decode cX5_canMove 27 = .ok (.aload_n 0, 1) := by decide +kernel
theorem dX5_canMove_28 : decode cX5_canMove 28 = .ok (.iload_n 1, 1) := by decide +kernel
theorem dX5_canMove_29 : decode cX5_canMove 29 = .ok (.iload_n 2, 1) := by decide +kernel
theorem dX5_canMove_30 : decode cX5_canMove 30 = .ok (.invokevirtual 225, 3) := by decide +kernel
theorem dX5_canMove_33 : decode cX5_canMove 33 = .ok (.ifCond .ne 7, 3) := by decide +kernel
theorem dX5_canMove_36 : decode cX5_canMove 36 = .ok (.iconst 1, 1) := by decide +kernel
theorem dX5_canMove_37 : decode cX5_canMove 37 = .ok (.goto 4, 3) := by decide +kernel
theorem dX5_canMove_40 : decode cX5_canMove 40 = .ok (.iconst 0, 1) := by decide +kernel
theorem dX5_canMove_41 : decode cX5_canMove 41 = .ok (.ireturn, 1) := by decide +kernel
theorem dX5_passes_0 : decode cX5_passes 0 = .ok (.iconst 0, 1) := by decide +kernel
theorem dX5_passes_1 : decode cX5_passes 1 = .ok (.istore_n 2, 1) := by decide +kernel
theorem dX5_passes_2 : decode cX5_passes 2 = .ok (.iconst 0, 1) := by decide +kernel
theorem dX5_passes_3 : decode cX5_passes 3 = .ok (.istore_n 3, 1) := by decide +kernel
theorem dX5_passes_4 : decode cX5_passes 4 = .ok (.iload_n 3, 1) := by decide +kernel
theorem dX5_passes_5 : decode cX5_passes 5 = .ok (.iload_n 1, 1) := by decide +kernel
theorem dX5_passes_6 : decode cX5_passes 6 = .ok (.if_icmp .ge 87, 3) := by decide +kernel
theorem dX5_passes_9 : decode cX5_passes 9 = .ok (.aload_n 0, 1) := by decide +kernel
theorem dX5_passes_10 : decode cX5_passes 10 = .ok (.getfield 7, 3) := by decide +kernel
theorem dX5_passes_13 : decode cX5_passes 13 = .ok (.iconst 1, 1) := by decide +kernel
theorem dX5_passes_14 : decode cX5_passes 14 = .ok (.dup2, 1) := by decide +kernel
theorem dX5_passes_15 : decode cX5_passes 15 = .ok (.iaload, 1) := by decide +kernel
theorem dX5_passes_16 : decode cX5_passes 16 = .ok (.iconst 1, 1) := by decide +kernel
theorem dX5_passes_17 : decode cX5_passes 17 = .ok (.iadd, 1) := by decide +kernel
theorem dX5_passes_18 : decode cX5_passes 18 = .ok (.iastore, 1) := by decide +kernel
theorem dX5_passes_19 : decode cX5_passes 19 = .ok (.iconst 0, 1) := by decide +kernel
theorem dX5_passes_20 : decode cX5_passes 20 = .ok (.istore 4, 2) := by decide +kernel
theorem dX5_passes_22 : decode cX5_passes 22 = .ok (.iload 4, 2) := by decide +kernel
theorem dX5_passes_24 : decode cX5_passes 24 = .ok (.aload_n 0, 1) := by decide +kernel
theorem dX5_passes_25 : decode cX5_passes 25 = .ok (.getfield 7, 3) := by decide +kernel
theorem dX5_passes_28 : decode cX5_passes 28 = .ok (.iconst 0, 1) := by decide +kernel
theorem dX5_passes_29 : decode cX5_passes 29 = .ok (.iaload, 1) := by decide +kernel
theorem dX5_passes_30 : decode cX5_passes 30 = .ok (.if_icmp .ge 57, 3) := by decide +kernel
theorem dX5_passes_33 : decode cX5_passes 33 = .ok (.aload_n 0, 1) := by decide +kernel
theorem dX5_passes_34 : decode cX5_passes 34 = .ok (.iload 4, 2) := by decide +kernel
theorem dX5_passes_36 : decode cX5_passes 36 = .ok (.iconst 3, 1) := by decide +kernel
theorem dX5_passes_37 : decode cX5_passes 37 = .ok (.invokevirtual 100, 3) := by decide +kernel
theorem dX5_passes_40 : decode cX5_passes 40 = .ok (.ifCond .eq 41, 3) := by decide +kernel
theorem dX5_passes_43 : decode cX5_passes 43 = .ok (.aload_n 0, 1) := by decide +kernel
theorem dX5_passes_44 : decode cX5_passes 44 = .ok (.iload 4, 2) := by decide +kernel
theorem dX5_passes_46 : decode cX5_passes 46 = .ok (.invokevirtual 110, 3) := by decide +kernel
theorem dX5_passes_49 : decode cX5_passes 49 = .ok (.ifCond .ne 32, 3) := by decide +kernel
theorem dX5_passes_52 : decode cX5_passes 52 = .ok (.aload_n 0, 1) := by decide +kernel
theorem dX5_passes_53 : decode cX5_passes 53 = .ok (.iload 4, 2) := by decide +kernel
theorem dX5_passes_55 : decode cX5_passes 55 = .ok (.bipush 6, 2) := by decide +kernel
theorem dX5_passes_57 : decode cX5_passes 57 = .ok (.invokevirtual 96, 3) := by decide +kernel
theorem dX5_passes_60 : decode cX5_passes 60 = .ok (.aload_n 0, 1) := by decide +kernel
theorem dX5_passes_61 : decode cX5_passes 61 = .ok (.getfield 7, 3) := by decide +kernel
theorem dX5_passes_64 : decode cX5_passes 64 = .ok (.iconst 1, 1) := by decide +kernel
theorem dX5_passes_65 : decode cX5_passes 65 = .ok (.iaload, 1) := by decide +kernel
theorem dX5_passes_66 : decode cX5_passes 66 = .ok (.if_icmp .lt 6, 3) := by decide +kernel
theorem dX5_passes_69 : decode cX5_passes 69 = .ok (.goto 12, 3) := by decide +kernel
theorem dX5_passes_72 : decode cX5_passes 72 = .ok (.aload_n 0, 1) := by decide +kernel
theorem dX5_passes_73 : decode cX5_passes 73 = .ok (.iload 4, 2) := by decide +kernel
theorem dX5_passes_75 : decode cX5_passes 75 = .ok (.invokevirtual 125, 3) := by decide +kernel
theorem dX5_passes_78 : decode cX5_passes 78 = .ok (.iinc 2 1, 3) := by decide +kernel
theorem dX5_passes_81 : decode cX5_passes 81 = .ok (.iinc 4 1, 3) := by decide +kernel
theorem dX5_passes_84 : decode cX5_passes 84 = .ok (.goto (-62), 3) := by decide +kernel
theorem dX5_passes_87 : decode cX5_passes 87 = .ok (.iinc 3 1, 3) := by decide +kernel
theorem dX5_passes_90 : decode cX5_passes 90 = .ok (.goto (-86), 3) := by decide +kernel
theorem dX5_passes_93 : decode cX5_passes 93 = .ok (.aload_n 0, 1) := by decide +kernel
theorem dX5_passes_94 : decode cX5_passes 94 = .ok (.getfield 7, 3) := by decide +kernel
theorem dX5_passes_97 : decode cX5_passes 97 = .ok (.iconst 4, 1) := by decide +kernel
theorem dX5_passes_98 : decode cX5_passes 98 = .ok (.dup2, 1) := by decide +kernel
theorem dX5_passes_99 : decode cX5_passes 99 = .ok (.iaload, 1) := by decide +kernel
theorem dX5_passes_100 : decode cX5_passes 100 = .ok (.iload_n 2, 1) := by decide +kernel
theorem dX5_passes_101 : decode cX5_passes 101 = .ok (.iadd, 1) := by decide +kernel
theorem dX5_passes_102 : decode cX5_passes 102 = .ok (.iastore, 1) := by decide +kernel
theorem dX5_passes_103 : decode cX5_passes 103 = .ok (.iload_n 2, 1) := by decide +kernel
theorem dX5_passes_104 : decode cX5_passes 104 = .ok (.ireturn, 1) := by decide +kernel
theorem dX5_passDays_0 : decode cX5_passDays 0 = .ok (.aload_n 0, 1) := by decide +kernel
theorem dX5_passDays_1 : decode cX5_passDays 1 = .ok (.invokevirtual 129, 3) := by decide +kernel
theorem dX5_passDays_4 : decode cX5_passDays 4 = .ok (.iload_n 1, 1) := by decide +kernel
theorem dX5_passDays_5 : decode cX5_passDays 5 = .ok (.iconst 1, 1) := by decide +kernel
theorem dX5_passDays_6 : decode cX5_passDays 6 = .ok (.bipush 20, 2) := by decide +kernel
theorem dX5_passDays_8 : decode cX5_passDays 8 = .ok (.invokestatic 92, 3) := by decide +kernel
theorem dX5_passDays_11 : decode cX5_passDays 11 = .ok (.ifCond .eq 15, 3) := by decide +kernel
theorem dX5_passDays_14 : decode cX5_passDays 14 = .ok (.aload_n 0, 1) := by decide +kernel
theorem dX5_passDays_15 : decode cX5_passDays 15 = .ok (.aload_n 0, 1) := by decide +kernel
theorem dX5_passDays_16 : decode cX5_passDays 16 = .ok (.iload_n 1, 1) := by decide +kernel
theorem dX5_passDays_17 : decode cX5_passDays 17 = .ok (.invokevirtual 278, 3) := by decide +kernel
theorem dX5_passDays_20 : decode cX5_passDays 20 = .ok (.invokevirtual 145, 3) := by decide +kernel
theorem dX5_passDays_23 : decode cX5_passDays 23 = .ok (.goto 8, 3) := by decide +kernel
theorem dX5_passDays_26 : decode cX5_passDays 26 = .ok (.aload_n 0, 1) := by decide +kernel
theorem dX5_passDays_27 : decode cX5_passDays 27 = .ok (.iconst 1, 1) := by decide +kernel
theorem dX5_passDays_28 : decode cX5_passDays 28 = .ok (.invokevirtual 88, 3) := by decide +kernel
theorem dX5_passDays_31 : decode cX5_passDays 31 = .ok (.ireturn, 1) := by decide +kernel
theorem dX5_day_0 : decode cX5_day 0 = .ok (.aload_n 0, 1) := by decide +kernel
theorem dX5_day_1 : decode cX5_day 1 = .ok (.aload_n 0, 1) := by decide +kernel
theorem dX5_day_2 : decode cX5_day 2 = .ok (.getfield 7, 3) := by decide +kernel
theorem dX5_day_5 : decode cX5_day 5 = .ok (.iconst 1, 1) := by decide +kernel
theorem dX5_day_6 : decode cX5_day 6 = .ok (.iaload, 1) := by decide +kernel
theorem dX5_day_7 : decode cX5_day 7 = .ok (.invokevirtual 148, 3) := by decide +kernel
theorem dX5_day_10 : decode cX5_day 10 = .ok (.ireturn, 1) := by decide +kernel
theorem dX5_wouldExpel_0 : decode cX5_wouldExpel 0 = .ok (.aload_n 0, 1) := by decide +kernel
theorem dX5_wouldExpel_1 : decode cX5_wouldExpel 1 = .ok (.iload_n 1, 1) := by decide +kernel
theorem dX5_wouldExpel_2 : decode cX5_wouldExpel 2 = .ok (.iconst 1, 1) := by decide +kernel
theorem dX5_wouldExpel_3 : decode cX5_wouldExpel 3 = .ok (.bipush 20, 2) := by decide +kernel
theorem dX5_wouldExpel_5 : decode cX5_wouldExpel 5 = .ok (.invokestatic 92, 3) := by decide +kernel
theorem dX5_wouldExpel_8 : decode cX5_wouldExpel 8 = .ok (.invokevirtual 154, 3) := by decide +kernel
theorem dX5_wouldExpel_11 : decode cX5_wouldExpel 11 = .ok (.ifCond .le 5, 3) := by decide +kernel
theorem dX5_wouldExpel_14 : decode cX5_wouldExpel 14 = .ok (.iconst 0, 1) := by decide +kernel
theorem dX5_wouldExpel_15 : decode cX5_wouldExpel 15 = .ok (.ireturn, 1) := by decide +kernel
theorem dX5_wouldExpel_16 : decode cX5_wouldExpel 16 = .ok (.aload_n 0, 1) := by decide +kernel
theorem dX5_wouldExpel_17 : decode cX5_wouldExpel 17 = .ok (.getfield 7, 3) := by decide +kernel
theorem dX5_wouldExpel_20 : decode cX5_wouldExpel 20 = .ok (.iconst 0, 1) := by decide +kernel
theorem dX5_wouldExpel_21 : decode cX5_wouldExpel 21 = .ok (.aload_n 0, 1) := by decide +kernel
theorem dX5_wouldExpel_22 : decode cX5_wouldExpel 22 = .ok (.getfield 16, 3) := by decide +kernel
theorem dX5_wouldExpel_25 : decode cX5_wouldExpel 25 = .ok (.iconst 0, 1) := by decide +kernel
theorem dX5_wouldExpel_26 : decode cX5_wouldExpel 26 = .ok (.invokestatic 84, 3) := by decide +kernel
theorem dX5_wouldExpel_29 : decode cX5_wouldExpel 29 = .ok (.aload_n 0, 1) := by decide +kernel
theorem dX5_wouldExpel_30 : decode cX5_wouldExpel 30 = .ok (.iload_n 1, 1) := by decide +kernel
theorem dX5_wouldExpel_31 : decode cX5_wouldExpel 31 = .ok (.invokevirtual 278, 3) := by decide +kernel
theorem dX5_wouldExpel_34 : decode cX5_wouldExpel 34 = .ok (.istore_n 2, 1) := by decide +kernel
theorem dX5_wouldExpel_35 : decode cX5_wouldExpel 35 = .ok (.aload_n 0, 1) := by decide +kernel
theorem dX5_wouldExpel_36 : decode cX5_wouldExpel 36 = .ok (.getfield 16, 3) := by decide +kernel
theorem dX5_wouldExpel_39 : decode cX5_wouldExpel 39 = .ok (.iconst 0, 1) := by decide +kernel
theorem dX5_wouldExpel_40 : decode cX5_wouldExpel 40 = .ok (.aload_n 0, 1) := by decide +kernel
theorem dX5_wouldExpel_41 : decode cX5_wouldExpel 41 = .ok (.getfield 7, 3) := by decide +kernel
theorem dX5_wouldExpel_44 : decode cX5_wouldExpel 44 = .ok (.iconst 0, 1) := by decide +kernel
theorem dX5_wouldExpel_45 : decode cX5_wouldExpel 45 = .ok (.invokestatic 84, 3) := by decide +kernel
theorem dX5_wouldExpel_48 : decode cX5_wouldExpel 48 = .ok (.iload_n 2, 1) := by decide +kernel
theorem dX5_wouldExpel_49 : decode cX5_wouldExpel 49 = .ok (.ireturn, 1) := by decide +kernel
theorem dX5_admittedCount_0 : decode cX5_admittedCount 0 = .ok (.aload_n 0, 1) := by decide +kernel
theorem dX5_admittedCount_1 : decode cX5_admittedCount 1 = .ok (.aload_n 0, 1) := by decide +kernel
theorem dX5_admittedCount_2 : decode cX5_admittedCount 2 = .ok (.getfield 7, 3) := by decide +kernel
theorem dX5_admittedCount_5 : decode cX5_admittedCount 5 = .ok (.iconst 2, 1) := by decide +kernel
theorem dX5_admittedCount_6 : decode cX5_admittedCount 6 = .ok (.iaload, 1) := by decide +kernel
theorem dX5_admittedCount_7 : decode cX5_admittedCount 7 = .ok (.invokevirtual 148, 3) := by decide +kernel
theorem dX5_admittedCount_10 : decode cX5_admittedCount 10 = .ok (.ireturn, 1) := by decide +kernel
theorem dX5_refusedCount_0 : decode cX5_refusedCount 0 = .ok (.aload_n 0, 1) := by decide +kernel
theorem dX5_refusedCount_1 : decode cX5_refusedCount 1 = .ok (.aload_n 0, 1) := by decide +kernel
theorem dX5_refusedCount_2 : decode cX5_refusedCount 2 = .ok (.getfield 7, 3) := by decide +kernel
theorem dX5_refusedCount_5 : decode cX5_refusedCount 5 = .ok (.iconst 3, 1) := by decide +kernel
theorem dX5_refusedCount_6 : decode cX5_refusedCount 6 = .ok (.iaload, 1) := by decide +kernel
theorem dX5_refusedCount_7 : decode cX5_refusedCount 7 = .ok (.invokevirtual 148, 3) := by decide +kernel
theorem dX5_refusedCount_10 : decode cX5_refusedCount 10 = .ok (.ireturn, 1) := by decide +kernel
theorem dX5_expelledCount_0 : decode cX5_expelledCount 0 = .ok (.aload_n 0, 1) := by decide +kernel
theorem dX5_expelledCount_1 : decode cX5_expelledCount 1 = .ok (.aload_n 0, 1) := by decide +kernel
theorem dX5_expelledCount_2 : decode cX5_expelledCount 2 = .ok (.getfield 7, 3) := by decide +kernel
theorem dX5_expelledCount_5 : decode cX5_expelledCount 5 = .ok (.iconst 4, 1) := by decide +kernel
theorem dX5_expelledCount_6 : decode cX5_expelledCount 6 = .ok (.iaload, 1) := by decide +kernel
theorem dX5_expelledCount_7 : decode cX5_expelledCount 7 = .ok (.invokevirtual 148, 3) := by decide +kernel
theorem dX5_expelledCount_10 : decode cX5_expelledCount 10 = .ok (.ireturn, 1) := by decide +kernel
theorem dX5_admissionBalance_0 : decode cX5_admissionBalance 0 = .ok (.aload_n 0, 1) := by decide +kernel
theorem dX5_admissionBalance_1 : decode cX5_admissionBalance 1 = .ok (.aload_n 0, 1) := by decide +kernel
theorem dX5_admissionBalance_2 : decode cX5_admissionBalance 2 = .ok (.getfield 7, 3) := by decide +kernel
theorem dX5_admissionBalance_5 : decode cX5_admissionBalance 5 = .ok (.iconst 2, 1) := by decide +kernel
theorem dX5_admissionBalance_6 : decode cX5_admissionBalance 6 = .ok (.iaload, 1) := by decide +kernel
theorem dX5_admissionBalance_7 : decode cX5_admissionBalance 7 = .ok (.aload_n 0, 1) := by decide +kernel
theorem dX5_admissionBalance_8 : decode cX5_admissionBalance 8 = .ok (.getfield 7, 3) := by decide +kernel
theorem dX5_admissionBalance_11 : decode cX5_admissionBalance 11 = .ok (.iconst 4, 1) := by decide +kernel
theorem dX5_admissionBalance_12 : decode cX5_admissionBalance 12 = .ok (.iaload, 1) := by decide +kernel
theorem dX5_admissionBalance_13 : decode cX5_admissionBalance 13 = .ok (.isub, 1) := by decide +kernel
theorem dX5_admissionBalance_14 : decode cX5_admissionBalance 14 = .ok (.invokevirtual 148, 3) := by decide +kernel
theorem dX5_admissionBalance_17 : decode cX5_admissionBalance 17 = .ok (.ireturn, 1) := by decide +kernel
theorem dX5_isFuller_0 : decode cX5_isFuller 0 = .ok (.aload_n 0, 1) := by decide +kernel
theorem dX5_isFuller_1 : decode cX5_isFuller 1 = .ok (.iload_n 1, 1) := by decide +kernel
theorem dX5_isFuller_2 : decode cX5_isFuller 2 = .ok (.invokevirtual 195, 3) := by decide +kernel
theorem dX5_isFuller_5 : decode cX5_isFuller 5 = .ok (.aload_n 0, 1) := by decide +kernel
theorem dX5_isFuller_6 : decode cX5_isFuller 6 = .ok (.iload_n 2, 1) := by decide +kernel
theorem dX5_isFuller_7 : decode cX5_isFuller 7 = .ok (.invokevirtual 195, 3) := by decide +kernel
theorem dX5_isFuller_10 : decode cX5_isFuller 10 = .ok (.if_icmp .eq 22, 3) := by decide +kernel
theorem dX5_isFuller_13 : decode cX5_isFuller 13 = .ok (.aload_n 0, 1) := by decide +kernel
theorem dX5_isFuller_14 : decode cX5_isFuller 14 = .ok (.iload_n 1, 1) := by decide +kernel
theorem dX5_isFuller_15 : decode cX5_isFuller 15 = .ok (.invokevirtual 195, 3) := by decide +kernel
theorem dX5_isFuller_18 : decode cX5_isFuller 18 = .ok (.aload_n 0, 1) := by decide +kernel
theorem dX5_isFuller_19 : decode cX5_isFuller 19 = .ok (.iload_n 2, 1) := by decide +kernel
theorem dX5_isFuller_20 : decode cX5_isFuller 20 = .ok (.invokevirtual 195, 3) := by decide +kernel
theorem dX5_isFuller_23 : decode cX5_isFuller 23 = .ok (.if_icmp .le 7, 3) := by decide +kernel
theorem dX5_isFuller_26 : decode cX5_isFuller 26 = .ok (.iconst 1, 1) := by decide +kernel
theorem dX5_isFuller_27 : decode cX5_isFuller 27 = .ok (.goto 4, 3) := by decide +kernel
theorem dX5_isFuller_30 : decode cX5_isFuller 30 = .ok (.iconst 0, 1) := by decide +kernel
theorem dX5_isFuller_31 : decode cX5_isFuller 31 = .ok (.ireturn, 1) := by decide +kernel
theorem dX5_isFuller_32 : decode cX5_isFuller 32 = .ok (.aload_n 0, 1) := by decide +kernel
theorem dX5_isFuller_33 : decode cX5_isFuller 33 = .ok (.iload_n 1, 1) := by decide +kernel
theorem dX5_isFuller_34 : decode cX5_isFuller 34 = .ok (.invokevirtual 231, 3) := by decide +kernel
theorem dX5_isFuller_37 : decode cX5_isFuller 37 = .ok (.aload_n 0, 1) := by decide +kernel
theorem dX5_isFuller_38 : decode cX5_isFuller 38 = .ok (.iload_n 2, 1) := by decide +kernel
theorem dX5_isFuller_39 : decode cX5_isFuller 39 = .ok (.invokevirtual 231, 3) := by decide +kernel
theorem dX5_isFuller_42 : decode cX5_isFuller 42 = .ok (.if_icmp .gt 21, 3) := by decide +kernel
theorem dX5_isFuller_45 : decode cX5_isFuller 45 = .ok (.aload_n 0, 1) := by decide +kernel
theorem dX5_isFuller_46 : decode cX5_isFuller 46 = .ok (.iload_n 1, 1) := by decide +kernel
theorem dX5_isFuller_47 : decode cX5_isFuller 47 = .ok (.invokevirtual 231, 3) := by decide +kernel
theorem dX5_isFuller_50 : decode cX5_isFuller 50 = .ok (.aload_n 0, 1) := by decide +kernel
theorem dX5_isFuller_51 : decode cX5_isFuller 51 = .ok (.iload_n 2, 1) := by decide +kernel
theorem dX5_isFuller_52 : decode cX5_isFuller 52 = .ok (.invokevirtual 231, 3) := by decide +kernel
theorem dX5_isFuller_55 : decode cX5_isFuller 55 = .ok (.if_icmp .ne 12, 3) := by decide +kernel
theorem dX5_isFuller_58 : decode cX5_isFuller 58 = .ok (.iload_n 1, 1) := by decide +kernel
theorem dX5_isFuller_59 : decode cX5_isFuller 59 = .ok (.iload_n 2, 1) := by decide +kernel
theorem dX5_isFuller_60 : decode cX5_isFuller 60 = .ok (.if_icmp .ge 7, 3) := by decide +kernel
theorem dX5_isFuller_63 : decode cX5_isFuller 63 = .ok (.iconst 1, 1) := by decide +kernel
theorem dX5_isFuller_64 : decode cX5_isFuller 64 = .ok (.goto 4, 3) := by decide +kernel
theorem dX5_isFuller_67 : decode cX5_isFuller 67 = .ok (.iconst 0, 1) := by decide +kernel
theorem dX5_isFuller_68 : decode cX5_isFuller 68 = .ok (.ireturn, 1) := by decide +kernel
theorem dX5_drawerByResidents_0 : decode cX5_drawerByResidents 0 = .ok (.aload_n 0, 1) := by decide +kernel
theorem dX5_drawerByResidents_1 : decode cX5_drawerByResidents 1 = .ok (.iconst 0, 1) := by decide +kernel
theorem dX5_drawerByResidents_2 : decode cX5_drawerByResidents 2 = .ok (.putfield 25, 3) := by decide +kernel
theorem dX5_drawerByResidents_5 : decode cX5_drawerByResidents 5 = .ok (.iconst 0, 1) := by decide +kernel
theorem dX5_drawerByResidents_6 : decode cX5_drawerByResidents 6 = .ok (.istore_n 2, 1) := by decide +kernel
theorem dX5_drawerByResidents_7 : decode cX5_drawerByResidents 7 = .ok (.iload_n 2, 1) := by decide +kernel
theorem dX5_drawerByResidents_8 : decode cX5_drawerByResidents 8 = .ok (.iconst 5, 1) := by decide +kernel
theorem dX5_drawerByResidents_9 : decode cX5_drawerByResidents 9 = .ok (.if_icmp .ge 51, 3) := by decide +kernel
theorem dX5_drawerByResidents_12 : decode cX5_drawerByResidents 12 = .ok (.iconst 0, 1) := by decide +kernel
theorem dX5_drawerByResidents_13 : decode cX5_drawerByResidents 13 = .ok (.istore_n 3, 1) := by decide +kernel
theorem dX5_drawerByResidents_14 : decode cX5_drawerByResidents 14 = .ok (.iconst 0, 1) := by decide +kernel
theorem dX5_drawerByResidents_15 : decode cX5_drawerByResidents 15 = .ok (.istore 4, 2) := by decide +kernel
theorem dX5_drawerByResidents_17 : decode cX5_drawerByResidents 17 = .ok (.iload 4, 2) := by decide +kernel
theorem dX5_drawerByResidents_19 : decode cX5_drawerByResidents 19 = .ok (.iconst 5, 1) := by decide +kernel
theorem dX5_drawerByResidents_20 : decode cX5_drawerByResidents 20 = .ok (.if_icmp .ge 27, 3) := by decide +kernel
theorem dX5_drawerByResidents_23 : decode cX5_drawerByResidents 23 = .ok (.iload_n 3, 1) := by decide +kernel
theorem dX5_drawerByResidents_24 : decode cX5_drawerByResidents 24 = .ok (.aload_n 0, 1) := by decide +kernel
theorem dX5_drawerByResidents_25 : decode cX5_drawerByResidents 25 = .ok (.iload 4, 2) := by decide +kernel
theorem dX5_drawerByResidents_27 : decode cX5_drawerByResidents 27 = .ok (.iload_n 2, 1) := by decide +kernel
theorem dX5_drawerByResidents_28 : decode cX5_drawerByResidents 28 = .ok (.invokevirtual 281, 3) := by decide +kernel
theorem dX5_drawerByResidents_31 : decode cX5_drawerByResidents 31 = .ok (.ifCond .eq 7, 3) := by decide +kernel
theorem dX5_drawerByResidents_34 : decode cX5_drawerByResidents 34 = .ok (.iconst 1, 1) := by decide +kernel
theorem dX5_drawerByResidents_35 : decode cX5_drawerByResidents 35 = .ok (.goto 4, 3) := by decide +kernel
theorem dX5_drawerByResidents_38 : decode cX5_drawerByResidents 38 = .ok (.iconst 0, 1) := by decide +kernel
theorem dX5_drawerByResidents_39 : decode cX5_drawerByResidents 39 = .ok (.iadd, 1) := by decide +kernel
theorem dX5_drawerByResidents_40 : decode cX5_drawerByResidents 40 = .ok (.istore_n 3, 1) := by decide +kernel
theorem dX5_drawerByResidents_41 : decode cX5_drawerByResidents 41 = .ok (.iinc 4 1, 3) := by decide +kernel
theorem dX5_drawerByResidents_44 : decode cX5_drawerByResidents 44 = .ok (.goto (-27), 3) := by decide +kernel
theorem dX5_drawerByResidents_47 : decode cX5_drawerByResidents 47 = .ok (.iload_n 3, 1) := by decide +kernel
theorem dX5_drawerByResidents_48 : decode cX5_drawerByResidents 48 = .ok (.iload_n 1, 1) := by decide +kernel
theorem dX5_drawerByResidents_49 : decode cX5_drawerByResidents 49 = .ok (.if_icmp .ne 5, 3) := by decide +kernel
theorem dX5_drawerByResidents_52 : decode cX5_drawerByResidents 52 = .ok (.iload_n 2, 1) := by decide +kernel
theorem dX5_drawerByResidents_53 : decode cX5_drawerByResidents 53 = .ok (.ireturn, 1) := by decide +kernel
theorem dX5_drawerByResidents_54 : decode cX5_drawerByResidents 54 = .ok (.iinc 2 1, 3) := by decide +kernel
theorem dX5_drawerByResidents_57 : decode cX5_drawerByResidents 57 = .ok (.goto (-50), 3) := by decide +kernel
theorem dX5_drawerByResidents_60 : decode cX5_drawerByResidents 60 = .ok (.aload_n 0, 1) := by decide +kernel
theorem dX5_drawerByResidents_61 : decode cX5_drawerByResidents 61 = .ok (.iconst 1, 1) := by decide +kernel
theorem dX5_drawerByResidents_62 : decode cX5_drawerByResidents 62 = .ok (.invokevirtual 88, 3) := by decide +kernel
theorem dX5_drawerByResidents_65 : decode cX5_drawerByResidents 65 = .ok (.ireturn, 1) := by decide +kernel
theorem dX5_meanSize_0 : decode cX5_meanSize 0 = .ok (.aload_n 0, 1) := by decide +kernel
theorem dX5_meanSize_1 : decode cX5_meanSize 1 = .ok (.aload_n 0, 1) := by decide +kernel
theorem dX5_meanSize_2 : decode cX5_meanSize 2 = .ok (.getfield 7, 3) := by decide +kernel
theorem dX5_meanSize_5 : decode cX5_meanSize 5 = .ok (.iconst 0, 1) := by decide +kernel
theorem dX5_meanSize_6 : decode cX5_meanSize 6 = .ok (.iaload, 1) := by decide +kernel
theorem dX5_meanSize_7 : decode cX5_meanSize 7 = .ok (.ifCond .le 7, 3) := by decide +kernel
theorem dX5_meanSize_10 : decode cX5_meanSize 10 = .ok (.iconst 1, 1) := by decide +kernel
theorem dX5_meanSize_11 : decode cX5_meanSize 11 = .ok (.goto 4, 3) := by decide +kernel
theorem dX5_meanSize_14 : decode cX5_meanSize 14 = .ok (.iconst 0, 1) := by decide +kernel
theorem dX5_meanSize_15 : decode cX5_meanSize 15 = .ok (.invokevirtual 154, 3) := by decide +kernel
theorem dX5_meanSize_18 : decode cX5_meanSize 18 = .ok (.ifCond .le 5, 3) := by decide +kernel
theorem dX5_meanSize_21 : decode cX5_meanSize 21 = .ok (.dconst 0, 1) := by decide +kernel
theorem dX5_meanSize_22 : decode cX5_meanSize 22 = .ok (.dreturn, 1) := by decide +kernel
theorem dX5_meanSize_23 : decode cX5_meanSize 23 = .ok (.iconst 0, 1) := by decide +kernel
theorem dX5_meanSize_24 : decode cX5_meanSize 24 = .ok (.istore_n 1, 1) := by decide +kernel
theorem dX5_meanSize_25 : decode cX5_meanSize 25 = .ok (.iconst 0, 1) := by decide +kernel
theorem dX5_meanSize_26 : decode cX5_meanSize 26 = .ok (.istore_n 2, 1) := by decide +kernel
theorem dX5_meanSize_27 : decode cX5_meanSize 27 = .ok (.iload_n 2, 1) := by decide +kernel
theorem dX5_meanSize_28 : decode cX5_meanSize 28 = .ok (.aload_n 0, 1) := by decide +kernel
theorem dX5_meanSize_29 : decode cX5_meanSize 29 = .ok (.getfield 7, 3) := by decide +kernel
theorem dX5_meanSize_32 : decode cX5_meanSize 32 = .ok (.iconst 0, 1) := by decide +kernel
theorem dX5_meanSize_33 : decode cX5_meanSize 33 = .ok (.iaload, 1) := by decide +kernel
theorem dX5_meanSize_34 : decode cX5_meanSize 34 = .ok (.if_icmp .ge 18, 3) := by decide +kernel
theorem dX5_meanSize_37 : decode cX5_meanSize 37 = .ok (.iload_n 1, 1) := by decide +kernel
theorem dX5_meanSize_38 : decode cX5_meanSize 38 = .ok (.aload_n 0, 1) := by decide +kernel
theorem dX5_meanSize_39 : decode cX5_meanSize 39 = .ok (.iload_n 2, 1) := by decide +kernel
theorem dX5_meanSize_40 : decode cX5_meanSize 40 = .ok (.iconst 1, 1) := by decide +kernel
theorem dX5_meanSize_41 : decode cX5_meanSize 41 = .ok (.invokevirtual 96, 3) := by decide +kernel
theorem dX5_meanSize_44 : decode cX5_meanSize 44 = .ok (.iadd, 1) := by decide +kernel
theorem dX5_meanSize_45 : decode cX5_meanSize 45 = .ok (.istore_n 1, 1) := by decide +kernel
theorem dX5_meanSize_46 : decode cX5_meanSize 46 = .ok (.iinc 2 1, 3) := by decide +kernel
theorem dX5_meanSize_49 : decode cX5_meanSize 49 = .ok (.goto (-22), 3) := by decide +kernel
theorem dX5_meanSize_52 : decode cX5_meanSize 52 = .ok (.iload_n 1, 1) := by decide +kernel
theorem dX5_meanSize_53 : decode cX5_meanSize 53 = .ok (.i2d, 1) := by decide +kernel
theorem dX5_meanSize_54 : decode cX5_meanSize 54 = .ok (.aload_n 0, 1) := by decide +kernel
theorem dX5_meanSize_55 : decode cX5_meanSize 55 = .ok (.getfield 7, 3) := by decide +kernel
theorem dX5_meanSize_58 : decode cX5_meanSize 58 = .ok (.iconst 0, 1) := by decide +kernel
theorem dX5_meanSize_59 : decode cX5_meanSize 59 = .ok (.iaload, 1) := by decide +kernel
theorem dX5_meanSize_60 : decode cX5_meanSize 60 = .ok (.i2d, 1) := by decide +kernel
theorem dX5_meanSize_61 : decode cX5_meanSize 61 = .ok (.ddiv, 1) := by decide +kernel
theorem dX5_meanSize_62 : decode cX5_meanSize 62 = .ok (.dreturn, 1) := by decide +kernel
theorem dX5_residentShare_0 : decode cX5_residentShare 0 = .ok (.aload_n 0, 1) := by decide +kernel
theorem dX5_residentShare_1 : decode cX5_residentShare 1 = .ok (.aload_n 0, 1) := by decide +kernel
theorem dX5_residentShare_2 : decode cX5_residentShare 2 = .ok (.getfield 7, 3) := by decide +kernel
theorem dX5_residentShare_5 : decode cX5_residentShare 5 = .ok (.iconst 0, 1) := by decide +kernel
theorem dX5_residentShare_6 : decode cX5_residentShare 6 = .ok (.iaload, 1) := by decide +kernel
theorem dX5_residentShare_7 : decode cX5_residentShare 7 = .ok (.ifCond .le 7, 3) := by decide +kernel
theorem dX5_residentShare_10 : decode cX5_residentShare 10 = .ok (.iconst 1, 1) := by decide +kernel
theorem dX5_residentShare_11 : decode cX5_residentShare 11 = .ok (.goto 4, 3) := by decide +kernel
theorem dX5_residentShare_14 : decode cX5_residentShare 14 = .ok (.iconst 0, 1) := by decide +kernel
theorem dX5_residentShare_15 : decode cX5_residentShare 15 = .ok (.invokevirtual 154, 3) := by decide +kernel
theorem dX5_residentShare_18 : decode cX5_residentShare 18 = .ok (.ifCond .le 5, 3) := by decide +kernel
theorem dX5_residentShare_21 : decode cX5_residentShare 21 = .ok (.fconst 0, 1) := by decide +kernel
theorem dX5_residentShare_22 : decode cX5_residentShare 22 = .ok (.freturn, 1) := by decide +kernel
theorem dX5_residentShare_23 : decode cX5_residentShare 23 = .ok (.iconst 0, 1) := by decide +kernel
theorem dX5_residentShare_24 : decode cX5_residentShare 24 = .ok (.istore_n 1, 1) := by decide +kernel
theorem dX5_residentShare_25 : decode cX5_residentShare 25 = .ok (.iconst 0, 1) := by decide +kernel
theorem dX5_residentShare_26 : decode cX5_residentShare 26 = .ok (.istore_n 2, 1) := by decide +kernel
theorem dX5_residentShare_27 : decode cX5_residentShare 27 = .ok (.iload_n 2, 1) := by decide +kernel
theorem dX5_residentShare_28 : decode cX5_residentShare 28 = .ok (.aload_n 0, 1) := by decide +kernel
theorem dX5_residentShare_29 : decode cX5_residentShare 29 = .ok (.getfield 7, 3) := by decide +kernel
theorem dX5_residentShare_32 : decode cX5_residentShare 32 = .ok (.iconst 0, 1) := by decide +kernel
theorem dX5_residentShare_33 : decode cX5_residentShare 33 = .ok (.iaload, 1) := by decide +kernel
theorem dX5_residentShare_34 : decode cX5_residentShare 34 = .ok (.if_icmp .ge 26, 3) := by decide +kernel
theorem dX5_residentShare_37 : decode cX5_residentShare 37 = .ok (.iload_n 1, 1) := by decide +kernel
theorem dX5_residentShare_38 : decode cX5_residentShare 38 = .ok (.aload_n 0, 1) := by decide +kernel
theorem dX5_residentShare_39 : decode cX5_residentShare 39 = .ok (.iload_n 2, 1) := by decide +kernel
theorem dX5_residentShare_40 : decode cX5_residentShare 40 = .ok (.iconst 3, 1) := by decide +kernel
theorem dX5_residentShare_41 : decode cX5_residentShare 41 = .ok (.invokevirtual 100, 3) := by decide +kernel
theorem dX5_residentShare_44 : decode cX5_residentShare 44 = .ok (.ifCond .eq 7, 3) := by decide +kernel
theorem dX5_residentShare_47 : decode cX5_residentShare 47 = .ok (.iconst 1, 1) := by decide +kernel
theorem dX5_residentShare_48 : decode cX5_residentShare 48 = .ok (.goto 4, 3) := by decide +kernel
theorem dX5_residentShare_51 : decode cX5_residentShare 51 = .ok (.iconst 0, 1) := by decide +kernel
theorem dX5_residentShare_52 : decode cX5_residentShare 52 = .ok (.iadd, 1) := by decide +kernel
theorem dX5_residentShare_53 : decode cX5_residentShare 53 = .ok (.istore_n 1, 1) := by decide +kernel
theorem dX5_residentShare_54 : decode cX5_residentShare 54 = .ok (.iinc 2 1, 3) := by decide +kernel
theorem dX5_residentShare_57 : decode cX5_residentShare 57 = .ok (.goto (-30), 3) := by decide +kernel
theorem dX5_residentShare_60 : decode cX5_residentShare 60 = .ok (.iload_n 1, 1) := by decide +kernel
theorem dX5_residentShare_61 : decode cX5_residentShare 61 = .ok (.i2f, 1) := by decide +kernel
theorem dX5_residentShare_62 : decode cX5_residentShare 62 = .ok (.aload_n 0, 1) := by decide +kernel
theorem dX5_residentShare_63 : decode cX5_residentShare 63 = .ok (.getfield 7, 3) := by decide +kernel
theorem dX5_residentShare_66 : decode cX5_residentShare 66 = .ok (.iconst 0, 1) := by decide +kernel
theorem dX5_residentShare_67 : decode cX5_residentShare 67 = .ok (.iaload, 1) := by decide +kernel
theorem dX5_residentShare_68 : decode cX5_residentShare 68 = .ok (.i2f, 1) := by decide +kernel
theorem dX5_residentShare_69 : decode cX5_residentShare 69 = .ok (.fdiv, 1) := by decide +kernel
theorem dX5_residentShare_70 : decode cX5_residentShare 70 = .ok (.freturn, 1) := by decide +kernel
theorem dX5_isConsistent_0 : decode cX5_isConsistent 0 = .ok (.aload_n 0, 1) := by decide +kernel
theorem dX5_isConsistent_1 : decode cX5_isConsistent 1 = .ok (.iconst 1, 1) := by decide +kernel
theorem dX5_isConsistent_2 : decode cX5_isConsistent 2 = .ok (.invokevirtual 148, 3) := by decide +kernel
theorem dX5_isConsistent_5 : decode cX5_isConsistent 5 = .ok (.iconst 1, 1) := by decide +kernel
theorem dX5_isConsistent_6 : decode cX5_isConsistent 6 = .ok (.if_icmp .ne 7, 3) := by decide +kernel
theorem dX5_isConsistent_9 : decode cX5_isConsistent 9 = .ok (.iconst 1, 1) := by decide +kernel
theorem dX5_isConsistent_10 : decode cX5_isConsistent 10 = .ok (.goto 4, 3) := by decide +kernel
theorem dX5_isConsistent_13 : decode cX5_isConsistent 13 = .ok (.iconst 0, 1) := by decide +kernel
theorem dX5_isConsistent_14 : decode cX5_isConsistent 14 = .ok (.ireturn, 1) := by decide +kernel
theorem dX5_write_0 : decode cX5_write 0 = .ok (.aload_n 0, 1) := by decide +kernel
theorem dX5_write_1 : decode cX5_write 1 = .ok (.getfield 54, 3) := by decide +kernel
theorem dX5_write_4 : decode cX5_write 4 = .ok (.aload_n 0, 1) := by decide +kernel
theorem dX5_write_5 : decode cX5_write 5 = .ok (.getfield 57, 3) := by decide +kernel
theorem dX5_write_8 : decode cX5_write 8 = .ok (.iload_n 1, 1) := by decide +kernel
theorem dX5_write_9 : decode cX5_write 9 = .ok (.iastore, 1) := by decide +kernel
theorem dX5_write_10 : decode cX5_write 10 = .ok (.aload_n 0, 1) := by decide +kernel
theorem dX5_write_11 : decode cX5_write 11 = .ok (.dup, 1) := by decide +kernel
theorem dX5_write_12 : decode cX5_write 12 = .ok (.getfield 57, 3) := by decide +kernel
theorem dX5_write_15 : decode cX5_write 15 = .ok (.iconst 1, 1) := by decide +kernel
theorem dX5_write_16 : decode cX5_write 16 = .ok (.iadd, 1) := by decide +kernel
theorem dX5_write_17 : decode cX5_write 17 = .ok (.putfield 57, 3) := by decide +kernel
theorem dX5_write_20 : decode cX5_write 20 = .ok (.return_, 1) := by decide +kernel
theorem dX5_writeNumber_0 : decode cX5_writeNumber 0 = .ok (.iconst 1, 1) := by decide +kernel
theorem dX5_writeNumber_1 : decode cX5_writeNumber 1 = .ok (.istore_n 2, 1) := by decide +kernel
theorem dX5_writeNumber_2 : decode cX5_writeNumber 2 = .ok (.iload_n 1, 1) := by decide +kernel
theorem dX5_writeNumber_3 : decode cX5_writeNumber 3 = .ok (.iload_n 2, 1) := by decide +kernel
theorem dX5_writeNumber_4 : decode cX5_writeNumber 4 = .ok (.idiv, 1) := by decide +kernel
theorem dX5_writeNumber_5 : decode cX5_writeNumber 5 = .ok (.bipush 9, 2) := by decide +kernel
theorem dX5_writeNumber_7 : decode cX5_writeNumber 7 = .ok (.if_icmp .le 11, 3) := by decide +kernel
theorem dX5_writeNumber_10 : decode cX5_writeNumber 10 = .ok (.iload_n 2, 1) := by decide +kernel
theorem dX5_writeNumber_11 : decode cX5_writeNumber 11 = .ok (.bipush 10, 2) := by decide +kernel
theorem dX5_writeNumber_13 : decode cX5_writeNumber 13 = .ok (.imul, 1) := by decide +kernel
theorem dX5_writeNumber_14 : decode cX5_writeNumber 14 = .ok (.istore_n 2, 1) := by decide +kernel
theorem dX5_writeNumber_15 : decode cX5_writeNumber 15 = .ok (.goto (-13), 3) := by decide +kernel
theorem dX5_writeNumber_18 : decode cX5_writeNumber 18 = .ok (.iload_n 2, 1) := by decide +kernel
theorem dX5_writeNumber_19 : decode cX5_writeNumber 19 = .ok (.ifCond .le 24, 3) := by decide +kernel
theorem dX5_writeNumber_22 : decode cX5_writeNumber 22 = .ok (.aload_n 0, 1) := by decide +kernel
theorem dX5_writeNumber_23 : decode cX5_writeNumber 23 = .ok (.bipush 48, 2) := by decide +kernel
theorem dX5_writeNumber_25 : decode cX5_writeNumber 25 = .ok (.iload_n 1, 1) := by decide +kernel
theorem dX5_writeNumber_26 : decode cX5_writeNumber 26 = .ok (.iload_n 2, 1) := by decide +kernel
theorem dX5_writeNumber_27 : decode cX5_writeNumber 27 = .ok (.idiv, 1) := by decide +kernel
theorem dX5_writeNumber_28 : decode cX5_writeNumber 28 = .ok (.bipush 10, 2) := by decide +kernel
theorem dX5_writeNumber_30 : decode cX5_writeNumber 30 = .ok (.irem, 1) := by decide +kernel
theorem dX5_writeNumber_31 : decode cX5_writeNumber 31 = .ok (.iadd, 1) := by decide +kernel
theorem dX5_writeNumber_32 : decode cX5_writeNumber 32 = .ok (.invokevirtual 284, 3) := by decide +kernel
theorem dX5_writeNumber_35 : decode cX5_writeNumber 35 = .ok (.iload_n 2, 1) := by decide +kernel
theorem dX5_writeNumber_36 : decode cX5_writeNumber 36 = .ok (.bipush 10, 2) := by decide +kernel
theorem dX5_writeNumber_38 : decode cX5_writeNumber 38 = .ok (.idiv, 1) := by decide +kernel
theorem dX5_writeNumber_39 : decode cX5_writeNumber 39 = .ok (.istore_n 2, 1) := by decide +kernel
theorem dX5_writeNumber_40 : decode cX5_writeNumber 40 = .ok (.goto (-22), 3) := by decide +kernel
theorem dX5_writeNumber_43 : decode cX5_writeNumber 43 = .ok (.return_, 1) := by decide +kernel
theorem dX5_writeSock_0 : decode cX5_writeSock 0 = .ok (.aload_n 0, 1) := by decide +kernel
theorem dX5_writeSock_1 : decode cX5_writeSock 1 = .ok (.aload_n 0, 1) := by decide +kernel
theorem dX5_writeSock_2 : decode cX5_writeSock 2 = .ok (.iload_n 1, 1) := by decide +kernel
theorem dX5_writeSock_3 : decode cX5_writeSock 3 = .ok (.invokevirtual 151, 3) := by decide +kernel
theorem dX5_writeSock_6 : decode cX5_writeSock 6 = .ok (.invokevirtual 154, 3) := by decide +kernel
theorem dX5_writeSock_9 : decode cX5_writeSock 9 = .ok (.ifCond .le 5, 3) := by decide +kernel
theorem dX5_writeSock_12 : decode cX5_writeSock 12 = .ok (.iconst 0, 1) := by decide +kernel
theorem dX5_writeSock_13 : decode cX5_writeSock 13 = .ok (.ireturn, 1) := by decide +kernel
theorem dX5_writeSock_14 : decode cX5_writeSock 14 = .ok (.aload_n 0, 1) := by decide +kernel
theorem dX5_writeSock_15 : decode cX5_writeSock 15 = .ok (.iconst 0, 1) := by decide +kernel
theorem dX5_writeSock_16 : decode cX5_writeSock 16 = .ok (.putfield 57, 3) := by decide +kernel
theorem dX5_writeSock_19 : decode cX5_writeSock 19 = .ok (.aload_n 0, 1) := by decide +kernel
theorem dX5_writeSock_20 : decode cX5_writeSock 20 = .ok (.iload_n 1, 1) := by decide +kernel
theorem dX5_writeSock_21 : decode cX5_writeSock 21 = .ok (.invokevirtual 287, 3) := by decide +kernel
theorem dX5_writeSock_24 : decode cX5_writeSock 24 = .ok (.aload_n 0, 1) := by decide +kernel
theorem dX5_writeSock_25 : decode cX5_writeSock 25 = .ok (.bipush 58, 2) := by decide +kernel
theorem dX5_writeSock_27 : decode cX5_writeSock 27 = .ok (.invokevirtual 284, 3) := by decide +kernel
theorem dX5_writeSock_30 : decode cX5_writeSock 30 = .ok (.aload_n 0, 1) := by decide +kernel
theorem dX5_writeSock_31 : decode cX5_writeSock 31 = .ok (.aload_n 0, 1) := by decide +kernel
theorem dX5_writeSock_32 : decode cX5_writeSock 32 = .ok (.iload_n 1, 1) := by decide +kernel
theorem dX5_writeSock_33 : decode cX5_writeSock 33 = .ok (.iconst 0, 1) := by decide +kernel
theorem dX5_writeSock_34 : decode cX5_writeSock 34 = .ok (.invokevirtual 96, 3) := by decide +kernel
theorem dX5_writeSock_37 : decode cX5_writeSock 37 = .ok (.invokevirtual 284, 3) := by decide +kernel
theorem dX5_writeSock_40 : decode cX5_writeSock 40 = .ok (.aload_n 0, 1) := by decide +kernel
theorem dX5_writeSock_41 : decode cX5_writeSock 41 = .ok (.aload_n 0, 1) := by decide +kernel
theorem dX5_writeSock_42 : decode cX5_writeSock 42 = .ok (.iload_n 1, 1) := by decide +kernel
theorem dX5_writeSock_43 : decode cX5_writeSock 43 = .ok (.iconst 1, 1) := by decide +kernel
theorem dX5_writeSock_44 : decode cX5_writeSock 44 = .ok (.invokevirtual 96, 3) := by decide +kernel
theorem dX5_writeSock_47 : decode cX5_writeSock 47 = .ok (.invokevirtual 287, 3) := by decide +kernel
theorem dX5_writeSock_50 : decode cX5_writeSock 50 = .ok (.aload_n 0, 1) := by decide +kernel
theorem dX5_writeSock_51 : decode cX5_writeSock 51 = .ok (.aload_n 0, 1) := by decide +kernel
theorem dX5_writeSock_52 : decode cX5_writeSock 52 = .ok (.iload_n 1, 1) := by decide +kernel
theorem dX5_writeSock_53 : decode cX5_writeSock 53 = .ok (.iconst 0, 1) := by decide +kernel
theorem dX5_writeSock_54 : decode cX5_writeSock 54 = .ok (.invokevirtual 100, 3) := by decide +kernel
theorem dX5_writeSock_57 : decode cX5_writeSock 57 = .ok (.ifCond .eq 8, 3) := by decide +kernel
theorem dX5_writeSock_60 : decode cX5_writeSock 60 = .ok (.bipush 45, 2) := by decide +kernel
theorem dX5_writeSock_62 : decode cX5_writeSock 62 = .ok (.goto 33, 3) := by decide +kernel
theorem dX5_writeSock_65 : decode cX5_writeSock 65 = .ok (.aload_n 0, 1) := by decide +kernel
theorem dX5_writeSock_66 : decode cX5_writeSock 66 = .ok (.iload_n 1, 1) := by decide +kernel
theorem dX5_writeSock_67 : decode cX5_writeSock 67 = .ok (.iconst 1, 1) := by decide +kernel
theorem dX5_writeSock_68 : decode cX5_writeSock 68 = .ok (.invokevirtual 100, 3) := by decide +kernel
theorem dX5_writeSock_71 : decode cX5_writeSock 71 = .ok (.ifCond .eq 8, 3) := by decide +kernel
theorem dX5_writeSock_74 : decode cX5_writeSock 74 = .ok (.bipush 63, 2) := by decide +kernel
theorem dX5_writeSock_76 : decode cX5_writeSock 76 = .ok (.goto 19, 3) := by decide +kernel
theorem dX5_writeSock_79 : decode cX5_writeSock 79 = .ok (.aload_n 0, 1) := by decide +kernel
theorem dX5_writeSock_80 : decode cX5_writeSock 80 = .ok (.iload_n 1, 1) := by decide +kernel
theorem dX5_writeSock_81 : decode cX5_writeSock 81 = .ok (.iconst 2, 1) := by decide +kernel
theorem dX5_writeSock_82 : decode cX5_writeSock 82 = .ok (.invokevirtual 100, 3) := by decide +kernel
theorem dX5_writeSock_85 : decode cX5_writeSock 85 = .ok (.ifCond .eq 8, 3) := by decide +kernel
theorem dX5_writeSock_88 : decode cX5_writeSock 88 = .ok (.bipush 120, 2) := by decide +kernel
theorem dX5_writeSock_90 : decode cX5_writeSock 90 = .ok (.goto 5, 3) := by decide +kernel
theorem dX5_writeSock_93 : decode cX5_writeSock 93 = .ok (.bipush 64, 2) := by decide +kernel
theorem dX5_writeSock_95 : decode cX5_writeSock 95 = .ok (.invokevirtual 284, 3) := by decide +kernel
theorem dX5_writeSock_98 : decode cX5_writeSock 98 = .ok (.aload_n 0, 1) := by decide +kernel
theorem dX5_writeSock_99 : decode cX5_writeSock 99 = .ok (.iload_n 1, 1) := by decide +kernel
theorem dX5_writeSock_100 : decode cX5_writeSock 100 = .ok (.iconst 0, 1) := by decide +kernel
theorem dX5_writeSock_101 : decode cX5_writeSock 101 = .ok (.invokevirtual 100, 3) := by decide +kernel
theorem dX5_writeSock_104 : decode cX5_writeSock 104 = .ok (.ifCond .eq 8, 3) := by decide +kernel
theorem dX5_writeSock_107 : decode cX5_writeSock 107 = .ok (.aload_n 0, 1) := by decide +kernel
theorem dX5_writeSock_108 : decode cX5_writeSock 108 = .ok (.getfield 57, 3) := by decide +kernel
theorem dX5_writeSock_111 : decode cX5_writeSock 111 = .ok (.ireturn, 1) := by decide +kernel
theorem dX5_writeSock_112 : decode cX5_writeSock 112 = .ok (.aload_n 0, 1) := by decide +kernel
theorem dX5_writeSock_113 : decode cX5_writeSock 113 = .ok (.aload_n 0, 1) := by decide +kernel
theorem dX5_writeSock_114 : decode cX5_writeSock 114 = .ok (.iload_n 1, 1) := by decide +kernel
theorem dX5_writeSock_115 : decode cX5_writeSock 115 = .ok (.iconst 3, 1) := by decide +kernel
theorem dX5_writeSock_116 : decode cX5_writeSock 116 = .ok (.invokevirtual 96, 3) := by decide +kernel
theorem dX5_writeSock_119 : decode cX5_writeSock 119 = .ok (.invokevirtual 287, 3) := by decide +kernel
theorem dX5_writeSock_122 : decode cX5_writeSock 122 = .ok (.aload_n 0, 1) := by decide +kernel
theorem dX5_writeSock_123 : decode cX5_writeSock 123 = .ok (.aload_n 0, 1) := by decide +kernel
theorem dX5_writeSock_124 : decode cX5_writeSock 124 = .ok (.iload_n 1, 1) := by decide +kernel
theorem dX5_writeSock_125 : decode cX5_writeSock 125 = .ok (.iconst 3, 1) := by decide +kernel
theorem dX5_writeSock_126 : decode cX5_writeSock 126 = .ok (.invokevirtual 100, 3) := by decide +kernel
theorem dX5_writeSock_129 : decode cX5_writeSock 129 = .ok (.ifCond .eq 8, 3) := by decide +kernel
theorem dX5_writeSock_132 : decode cX5_writeSock 132 = .ok (.bipush 60, 2) := by decide +kernel
theorem dX5_writeSock_134 : decode cX5_writeSock 134 = .ok (.goto 5, 3) := by decide +kernel
theorem dX5_writeSock_137 : decode cX5_writeSock 137 = .ok (.bipush 47, 2) := by decide +kernel
theorem dX5_writeSock_139 : decode cX5_writeSock 139 = .ok (.invokevirtual 284, 3) := by decide +kernel
theorem dX5_writeSock_142 : decode cX5_writeSock 142 = .ok (.aload_n 0, 1) := by decide +kernel
theorem dX5_writeSock_143 : decode cX5_writeSock 143 = .ok (.aload_n 0, 1) := by decide +kernel
theorem dX5_writeSock_144 : decode cX5_writeSock 144 = .ok (.iload_n 1, 1) := by decide +kernel
theorem dX5_writeSock_145 : decode cX5_writeSock 145 = .ok (.iconst 3, 1) := by decide +kernel
theorem dX5_writeSock_146 : decode cX5_writeSock 146 = .ok (.invokevirtual 100, 3) := by decide +kernel
theorem dX5_writeSock_149 : decode cX5_writeSock 149 = .ok (.ifCond .eq 13, 3) := by decide +kernel
theorem dX5_writeSock_152 : decode cX5_writeSock 152 = .ok (.aload_n 0, 1) := by decide +kernel
theorem dX5_writeSock_153 : decode cX5_writeSock 153 = .ok (.iload_n 1, 1) := by decide +kernel
theorem dX5_writeSock_154 : decode cX5_writeSock 154 = .ok (.bipush 6, 2) := by decide +kernel
theorem dX5_writeSock_156 : decode cX5_writeSock 156 = .ok (.invokevirtual 96, 3) := by decide +kernel
theorem dX5_writeSock_159 : decode cX5_writeSock 159 = .ok (.goto 9, 3) := by decide +kernel
theorem dX5_writeSock_162 : decode cX5_writeSock 162 = .ok (.aload_n 0, 1) := by decide +kernel
theorem dX5_writeSock_163 : decode cX5_writeSock 163 = .ok (.iload_n 1, 1) := by decide +kernel
theorem dX5_writeSock_164 : decode cX5_writeSock 164 = .ok (.iconst 4, 1) := by decide +kernel
theorem dX5_writeSock_165 : decode cX5_writeSock 165 = .ok (.invokevirtual 96, 3) := by decide +kernel
theorem dX5_writeSock_168 : decode cX5_writeSock 168 = .ok (.invokevirtual 287, 3) := by decide +kernel
theorem dX5_writeSock_171 : decode cX5_writeSock 171 = .ok (.aload_n 0, 1) := by decide +kernel
theorem dX5_writeSock_172 : decode cX5_writeSock 172 = .ok (.iload_n 1, 1) := by decide +kernel
theorem dX5_writeSock_173 : decode cX5_writeSock 173 = .ok (.invokevirtual 110, 3) := by decide +kernel
theorem dX5_writeSock_176 : decode cX5_writeSock 176 = .ok (.ifCond .ne 8, 3) := by decide +kernel
theorem dX5_writeSock_179 : decode cX5_writeSock 179 = .ok (.aload_n 0, 1) := by decide +kernel
theorem dX5_writeSock_180 : decode cX5_writeSock 180 = .ok (.getfield 57, 3) := by decide +kernel
theorem dX5_writeSock_183 : decode cX5_writeSock 183 = .ok (.ireturn, 1) := by decide +kernel
theorem dX5_writeSock_184 : decode cX5_writeSock 184 = .ok (.aload_n 0, 1) := by decide +kernel
theorem dX5_writeSock_185 : decode cX5_writeSock 185 = .ok (.bipush 43, 2) := by decide +kernel
theorem dX5_writeSock_187 : decode cX5_writeSock 187 = .ok (.invokevirtual 284, 3) := by decide +kernel
theorem dX5_writeSock_190 : decode cX5_writeSock 190 = .ok (.aload_n 0, 1) := by decide +kernel
theorem dX5_writeSock_191 : decode cX5_writeSock 191 = .ok (.aload_n 0, 1) := by decide +kernel
theorem dX5_writeSock_192 : decode cX5_writeSock 192 = .ok (.iload_n 1, 1) := by decide +kernel
theorem dX5_writeSock_193 : decode cX5_writeSock 193 = .ok (.bipush 7, 2) := by decide +kernel
theorem dX5_writeSock_195 : decode cX5_writeSock 195 = .ok (.invokevirtual 96, 3) := by decide +kernel
theorem dX5_writeSock_198 : decode cX5_writeSock 198 = .ok (.invokevirtual 287, 3) := by decide +kernel
theorem dX5_writeSock_201 : decode cX5_writeSock 201 = .ok (.aload_n 0, 1) := by decide +kernel
theorem dX5_writeSock_202 : decode cX5_writeSock 202 = .ok (.getfield 57, 3) := by decide +kernel
theorem dX5_writeSock_205 : decode cX5_writeSock 205 = .ok (.ireturn, 1) := by decide +kernel
theorem dX5_outputAt_0 : decode cX5_outputAt 0 = .ok (.aload_n 0, 1) := by decide +kernel
theorem dX5_outputAt_1 : decode cX5_outputAt 1 = .ok (.iload_n 1, 1) := by decide +kernel
theorem dX5_outputAt_2 : decode cX5_outputAt 2 = .ok (.iconst 0, 1) := by decide +kernel
theorem dX5_outputAt_3 : decode cX5_outputAt 3 = .ok (.aload_n 0, 1) := by decide +kernel
theorem dX5_outputAt_4 : decode cX5_outputAt 4 = .ok (.getfield 57, 3) := by decide +kernel
theorem dX5_outputAt_7 : decode cX5_outputAt 7 = .ok (.iconst 1, 1) := by decide +kernel
theorem dX5_outputAt_8 : decode cX5_outputAt 8 = .ok (.isub, 1) := by decide +kernel
theorem dX5_outputAt_9 : decode cX5_outputAt 9 = .ok (.invokestatic 92, 3) := by decide +kernel
theorem dX5_outputAt_12 : decode cX5_outputAt 12 = .ok (.invokevirtual 154, 3) := by decide +kernel
theorem dX5_outputAt_15 : decode cX5_outputAt 15 = .ok (.ifCond .le 8, 3) := by decide +kernel
theorem dX5_outputAt_18 : decode cX5_outputAt 18 = .ok (.bipush 32, 2) := by decide +kernel
theorem dX5_outputAt_20 : decode cX5_outputAt 20 = .ok (.goto 10, 3) := by decide +kernel
theorem dX5_outputAt_23 : decode cX5_outputAt 23 = .ok (.aload_n 0, 1) := by decide +kernel
theorem dX5_outputAt_24 : decode cX5_outputAt 24 = .ok (.getfield 54, 3) := by decide +kernel
theorem dX5_outputAt_27 : decode cX5_outputAt 27 = .ok (.iload_n 1, 1) := by decide +kernel
theorem dX5_outputAt_28 : decode cX5_outputAt 28 = .ok (.iaload, 1) := by decide +kernel
theorem dX5_outputAt_29 : decode cX5_outputAt 29 = .ok (.i2c, 1) := by decide +kernel
theorem dX5_outputAt_30 : decode cX5_outputAt 30 = .ok (.ireturn, 1) := by decide +kernel
theorem dX5_appendInput_0 : decode cX5_appendInput 0 = .ok (.aload_n 0, 1) := by decide +kernel
theorem dX5_appendInput_1 : decode cX5_appendInput 1 = .ok (.iload_n 1, 1) := by decide +kernel
theorem dX5_appendInput_2 : decode cX5_appendInput 2 = .ok (.bipush 32, 2) := by decide +kernel
theorem dX5_appendInput_4 : decode cX5_appendInput 4 = .ok (.bipush 126, 2) := by decide +kernel
theorem dX5_appendInput_6 : decode cX5_appendInput 6 = .ok (.invokestatic 92, 3) := by decide +kernel
theorem dX5_appendInput_9 : decode cX5_appendInput 9 = .ok (.ifCond .ne 7, 3) := by decide +kernel
theorem dX5_appendInput_12 : decode cX5_appendInput 12 = .ok (.iconst 1, 1) := by decide +kernel
theorem dX5_appendInput_13 : decode cX5_appendInput 13 = .ok (.goto 17, 3) := by decide +kernel
theorem dX5_appendInput_16 : decode cX5_appendInput 16 = .ok (.aload_n 0, 1) := by decide +kernel
theorem dX5_appendInput_17 : decode cX5_appendInput 17 = .ok (.getfield 69, 3) := by decide +kernel
theorem dX5_appendInput_20 : decode cX5_appendInput 20 = .ok (.bipush 60, 2) := by decide +kernel
theorem dX5_appendInput_22 : decode cX5_appendInput 22 = .ok (.if_icmp .ne 7, 3) := by decide +kernel
theorem dX5_appendInput_25 : decode cX5_appendInput 25 = .ok (.iconst 2, 1) := by decide +kernel
theorem dX5_appendInput_26 : decode cX5_appendInput 26 = .ok (.goto 4, 3) := by decide +kernel
theorem dX5_appendInput_29 : decode cX5_appendInput 29 = .ok (.iconst 0, 1) := by decide +kernel
theorem dX5_appendInput_30 : decode cX5_appendInput 30 = .ok (.putfield 25, 3) := by decide +kernel
theorem dX5_appendInput_33 : decode cX5_appendInput 33 = .ok (.aload_n 0, 1) := by decide +kernel
theorem dX5_appendInput_34 : decode cX5_appendInput 34 = .ok (.getfield 25, 3) := by decide +kernel
theorem dX5_appendInput_37 : decode cX5_appendInput 37 = .ok (.ifCond .le 5, 3) := by decide +kernel
theorem dX5_appendInput_40 : decode cX5_appendInput 40 = .ok (.iconst 0, 1) := by decide +kernel
theorem dX5_appendInput_41 : decode cX5_appendInput 41 = .ok (.ireturn, 1) := by decide +kernel
theorem dX5_appendInput_42 : decode cX5_appendInput 42 = .ok (.aload_n 0, 1) := by decide +kernel
theorem dX5_appendInput_43 : decode cX5_appendInput 43 = .ok (.getfield 60, 3) := by decide +kernel
theorem dX5_appendInput_46 : decode cX5_appendInput 46 = .ok (.aload_n 0, 1) := by decide +kernel
theorem dX5_appendInput_47 : decode cX5_appendInput 47 = .ok (.getfield 69, 3) := by decide +kernel
theorem dX5_appendInput_50 : decode cX5_appendInput 50 = .ok (.iload_n 1, 1) := by decide +kernel
theorem dX5_appendInput_51 : decode cX5_appendInput 51 = .ok (.iastore, 1) := by decide +kernel
theorem dX5_appendInput_52 : decode cX5_appendInput 52 = .ok (.aload_n 0, 1) := by decide +kernel
theorem dX5_appendInput_53 : decode cX5_appendInput 53 = .ok (.dup, 1) := by decide +kernel
theorem dX5_appendInput_54 : decode cX5_appendInput 54 = .ok (.getfield 69, 3) := by decide +kernel
theorem dX5_appendInput_57 : decode cX5_appendInput 57 = .ok (.iconst 1, 1) := by decide +kernel
theorem dX5_appendInput_58 : decode cX5_appendInput 58 = .ok (.iadd, 1) := by decide +kernel
theorem dX5_appendInput_59 : decode cX5_appendInput 59 = .ok (.putfield 69, 3) := by decide +kernel
theorem dX5_appendInput_62 : decode cX5_appendInput 62 = .ok (.aload_n 0, 1) := by decide +kernel
theorem dX5_appendInput_63 : decode cX5_appendInput 63 = .ok (.getfield 69, 3) := by decide +kernel
theorem dX5_appendInput_66 : decode cX5_appendInput 66 = .ok (.ireturn, 1) := by decide +kernel
theorem dX5_mark_0 : decode cX5_mark 0 = .ok (.aload_n 0, 1) := by decide +kernel
theorem dX5_mark_1 : decode cX5_mark 1 = .ok (.getfield 81, 3) := by decide +kernel
theorem dX5_mark_4 : decode cX5_mark 4 = .ok (.ifCond .ne 26, 3) := by decide +kernel
theorem dX5_mark_7 : decode cX5_mark 7 = .ok (.aload_n 0, 1) := by decide +kernel
theorem dX5_mark_8 : decode cX5_mark 8 = .ok (.getfield 75, 3) := by decide +kernel
theorem dX5_mark_11 : decode cX5_mark 11 = .ok (.aload_n 0, 1) := by decide +kernel
theorem dX5_mark_12 : decode cX5_mark 12 = .ok (.getfield 72, 3) := by decide +kernel
theorem dX5_mark_15 : decode cX5_mark 15 = .ok (.if_icmp .ge 15, 3) := by decide +kernel
theorem dX5_mark_18 : decode cX5_mark 18 = .ok (.aload_n 0, 1) := by decide +kernel
theorem dX5_mark_19 : decode cX5_mark 19 = .ok (.getfield 60, 3) := by decide +kernel
theorem dX5_mark_22 : decode cX5_mark 22 = .ok (.aload_n 0, 1) := by decide +kernel
theorem dX5_mark_23 : decode cX5_mark 23 = .ok (.getfield 75, 3) := by decide +kernel
theorem dX5_mark_26 : decode cX5_mark 26 = .ok (.iaload, 1) := by decide +kernel
theorem dX5_mark_27 : decode cX5_mark 27 = .ok (.goto 4, 3) := by decide +kernel
theorem dX5_mark_30 : decode cX5_mark 30 = .ok (.iconst (-1), 1) := by decide +kernel
theorem dX5_mark_31 : decode cX5_mark 31 = .ok (.ireturn, 1) := by decide +kernel
theorem dX5_next_0 : decode cX5_next 0 = .ok (.aload_n 0, 1) := by decide +kernel
theorem dX5_next_1 : decode cX5_next 1 = .ok (.dup, 1) := by decide +kernel
theorem dX5_next_2 : decode cX5_next 2 = .ok (.getfield 81, 3) := by decide +kernel
theorem dX5_next_5 : decode cX5_next 5 = .ok (.iload_n 1, 1) := by decide +kernel
theorem dX5_next_6 : decode cX5_next 6 = .ok (.ifCond .ne 7, 3) := by decide +kernel
theorem dX5_next_9 : decode cX5_next 9 = .ok (.iconst 1, 1) := by decide +kernel
theorem dX5_next_10 : decode cX5_next 10 = .ok (.goto 4, 3) := by decide +kernel
theorem dX5_next_13 : decode cX5_next 13 = .ok (.iconst 0, 1) := by decide +kernel
theorem dX5_next_14 : decode cX5_next 14 = .ok (.ior, 1) := by decide +kernel
theorem dX5_next_15 : decode cX5_next 15 = .ok (.putfield 81, 3) := by decide +kernel
theorem dX5_next_18 : decode cX5_next 18 = .ok (.aload_n 0, 1) := by decide +kernel
theorem dX5_next_19 : decode cX5_next 19 = .ok (.getfield 81, 3) := by decide +kernel
theorem dX5_next_22 : decode cX5_next 22 = .ok (.ifCond .eq 5, 3) := by decide +kernel
theorem dX5_next_25 : decode cX5_next 25 = .ok (.iconst 0, 1) := by decide +kernel
theorem dX5_next_26 : decode cX5_next 26 = .ok (.ireturn, 1) := by decide +kernel
theorem dX5_next_27 : decode cX5_next 27 = .ok (.aload_n 0, 1) := by decide +kernel
theorem dX5_next_28 : decode cX5_next 28 = .ok (.dup, 1) := by decide +kernel
theorem dX5_next_29 : decode cX5_next 29 = .ok (.getfield 75, 3) := by decide +kernel
theorem dX5_next_32 : decode cX5_next 32 = .ok (.iconst 1, 1) := by decide +kernel
theorem dX5_next_33 : decode cX5_next 33 = .ok (.iadd, 1) := by decide +kernel
theorem dX5_next_34 : decode cX5_next 34 = .ok (.putfield 75, 3) := by decide +kernel
theorem dX5_next_37 : decode cX5_next 37 = .ok (.aload_n 0, 1) := by decide +kernel
theorem dX5_next_38 : decode cX5_next 38 = .ok (.getfield 60, 3) := by decide +kernel
theorem dX5_next_41 : decode cX5_next 41 = .ok (.aload_n 0, 1) := by decide +kernel
theorem dX5_next_42 : decode cX5_next 42 = .ok (.getfield 75, 3) := by decide +kernel
theorem dX5_next_45 : decode cX5_next 45 = .ok (.iconst 1, 1) := by decide +kernel
theorem dX5_next_46 : decode cX5_next 46 = .ok (.isub, 1) := by decide +kernel
theorem dX5_next_47 : decode cX5_next 47 = .ok (.iaload, 1) := by decide +kernel
theorem dX5_next_48 : decode cX5_next 48 = .ok (.ireturn, 1) := by decide +kernel
theorem dX5_digit_0 : decode cX5_digit 0 = .ok (.aload_n 0, 1) := by decide +kernel
theorem dX5_digit_1 : decode cX5_digit 1 = .ok (.aload_n 0, 1) := by decide +kernel
theorem dX5_digit_2 : decode cX5_digit 2 = .ok (.invokevirtual 290, 3) := by decide +kernel
theorem dX5_digit_5 : decode cX5_digit 5 = .ok (.bipush 48, 2) := by decide +kernel
theorem dX5_digit_7 : decode cX5_digit 7 = .ok (.bipush 57, 2) := by decide +kernel
theorem dX5_digit_9 : decode cX5_digit 9 = .ok (.invokestatic 92, 3) := by decide +kernel
theorem dX5_digit_12 : decode cX5_digit 12 = .ok (.invokevirtual 293, 3) := by decide +kernel
theorem dX5_digit_15 : decode cX5_digit 15 = .ok (.bipush 48, 2) := by decide +kernel
theorem dX5_digit_17 : decode cX5_digit 17 = .ok (.isub, 1) := by decide +kernel
theorem dX5_digit_18 : decode cX5_digit 18 = .ok (.ireturn, 1) := by decide +kernel
theorem dX5_number_0 : decode cX5_number 0 = .ok (.aload_n 0, 1) := by decide +kernel
theorem dX5_number_1 : decode cX5_number 1 = .ok (.invokevirtual 296, 3) := by decide +kernel
theorem dX5_number_4 : decode cX5_number 4 = .ok (.istore_n 1, 1) := by decide +kernel
theorem dX5_number_5 : decode cX5_number 5 = .ok (.aload_n 0, 1) := by decide +kernel
theorem dX5_number_6 : decode cX5_number 6 = .ok (.invokevirtual 290, 3) := by decide +kernel
theorem dX5_number_9 : decode cX5_number 9 = .ok (.bipush 48, 2) := by decide +kernel
theorem dX5_number_11 : decode cX5_number 11 = .ok (.bipush 57, 2) := by decide +kernel
theorem dX5_number_13 : decode cX5_number 13 = .ok (.invokestatic 92, 3) := by decide +kernel
theorem dX5_number_16 : decode cX5_number 16 = .ok (.ifCond .eq 15, 3) := by decide +kernel
theorem dX5_number_19 : decode cX5_number 19 = .ok (.bipush 10, 2) := by decide +kernel
theorem dX5_number_21 : decode cX5_number 21 = .ok (.iload_n 1, 1) := by decide +kernel
theorem dX5_number_22 : decode cX5_number 22 = .ok (.imul, 1) := by decide +kernel
theorem dX5_number_23 : decode cX5_number 23 = .ok (.aload_n 0, 1) := by decide +kernel
theorem dX5_number_24 : decode cX5_number 24 = .ok (.invokevirtual 296, 3) := by decide +kernel
theorem dX5_number_27 : decode cX5_number 27 = .ok (.iadd, 1) := by decide +kernel
theorem dX5_number_28 : decode cX5_number 28 = .ok (.goto 4, 3) := by decide +kernel
theorem dX5_number_31 : decode cX5_number 31 = .ok (.iload_n 1, 1) := by decide +kernel
theorem dX5_number_32 : decode cX5_number 32 = .ok (.ireturn, 1) := by decide +kernel
theorem dX5_colour_0 : decode cX5_colour 0 = .ok (.aload_n 0, 1) := by decide +kernel
theorem dX5_colour_1 : decode cX5_colour 1 = .ok (.aload_n 0, 1) := by decide +kernel
theorem dX5_colour_2 : decode cX5_colour 2 = .ok (.invokevirtual 290, 3) := by decide +kernel
theorem dX5_colour_5 : decode cX5_colour 5 = .ok (.invokestatic 114, 3) := by decide +kernel
theorem dX5_colour_8 : decode cX5_colour 8 = .ok (.ifCond .le 7, 3) := by decide +kernel
theorem dX5_colour_11 : decode cX5_colour 11 = .ok (.iconst 1, 1) := by decide +kernel
theorem dX5_colour_12 : decode cX5_colour 12 = .ok (.goto 4, 3) := by decide +kernel
theorem dX5_colour_15 : decode cX5_colour 15 = .ok (.iconst 0, 1) := by decide +kernel
theorem dX5_colour_16 : decode cX5_colour 16 = .ok (.invokevirtual 293, 3) := by decide +kernel
theorem dX5_colour_19 : decode cX5_colour 19 = .ok (.ireturn, 1) := by decide +kernel
theorem dX5_clause_0 : decode cX5_clause 0 = .ok (.aload_n 0, 1) := by decide +kernel
theorem dX5_clause_1 : decode cX5_clause 1 = .ok (.aload_n 0, 1) := by decide +kernel
theorem dX5_clause_2 : decode cX5_clause 2 = .ok (.invokevirtual 290, 3) := by decide +kernel
theorem dX5_clause_5 : decode cX5_clause 5 = .ok (.invokestatic 266, 3) := by decide +kernel
theorem dX5_clause_8 : decode cX5_clause 8 = .ok (.invokevirtual 293, 3) := by decide +kernel
theorem dX5_clause_11 : decode cX5_clause 11 = .ok (.ireturn, 1) := by decide +kernel
theorem dX5_sign_0 : decode cX5_sign 0 = .ok (.aload_n 0, 1) := by decide +kernel
theorem dX5_sign_1 : decode cX5_sign 1 = .ok (.aload_n 0, 1) := by decide +kernel
theorem dX5_sign_2 : decode cX5_sign 2 = .ok (.invokevirtual 290, 3) := by decide +kernel
theorem dX5_sign_5 : decode cX5_sign 5 = .ok (.iload_n 1, 1) := by decide +kernel
theorem dX5_sign_6 : decode cX5_sign 6 = .ok (.if_icmp .ne 7, 3) := by decide +kernel
theorem dX5_sign_9 : decode cX5_sign 9 = .ok (.iconst 1, 1) := by decide +kernel
theorem dX5_sign_10 : decode cX5_sign 10 = .ok (.goto 4, 3) := by decide +kernel
theorem dX5_sign_13 : decode cX5_sign 13 = .ok (.iconst 0, 1) := by decide +kernel
theorem dX5_sign_14 : decode cX5_sign 14 = .ok (.invokevirtual 293, 3) := by decide +kernel
theorem dX5_sign_17 : decode cX5_sign 17 = .ok (.istore_n 2, 1) := by decide +kernel
theorem dX5_sign_18 : decode cX5_sign 18 = .ok (.return_, 1) := by decide +kernel
theorem dX5_keeps_0 : decode cX5_keeps 0 = .ok (.aload_n 0, 1) := by decide +kernel
theorem dX5_keeps_1 : decode cX5_keeps 1 = .ok (.getfield 66, 3) := by decide +kernel
theorem dX5_keeps_4 : decode cX5_keeps 4 = .ok (.iconst 3, 1) := by decide +kernel
theorem dX5_keeps_5 : decode cX5_keeps 5 = .ok (.aload_n 0, 1) := by decide +kernel
theorem dX5_keeps_6 : decode cX5_keeps 6 = .ok (.getfield 78, 3) := by decide +kernel
theorem dX5_keeps_9 : decode cX5_keeps 9 = .ok (.imul, 1) := by decide +kernel
theorem dX5_keeps_10 : decode cX5_keeps 10 = .ok (.iload_n 1, 1) := by decide +kernel
theorem dX5_keeps_11 : decode cX5_keeps 11 = .ok (.iastore, 1) := by decide +kernel
theorem dX5_keeps_12 : decode cX5_keeps 12 = .ok (.aload_n 0, 1) := by decide +kernel
theorem dX5_keeps_13 : decode cX5_keeps 13 = .ok (.getfield 66, 3) := by decide +kernel
theorem dX5_keeps_16 : decode cX5_keeps 16 = .ok (.iconst 3, 1) := by decide +kernel
theorem dX5_keeps_17 : decode cX5_keeps 17 = .ok (.aload_n 0, 1) := by decide +kernel
theorem dX5_keeps_18 : decode cX5_keeps 18 = .ok (.getfield 78, 3) := by decide +kernel
theorem dX5_keeps_21 : decode cX5_keeps 21 = .ok (.imul, 1) := by decide +kernel
theorem dX5_keeps_22 : decode cX5_keeps 22 = .ok (.iconst 1, 1) := by decide +kernel
theorem dX5_keeps_23 : decode cX5_keeps 23 = .ok (.iadd, 1) := by decide +kernel
theorem dX5_keeps_24 : decode cX5_keeps 24 = .ok (.iload_n 2, 1) := by decide +kernel
theorem dX5_keeps_25 : decode cX5_keeps 25 = .ok (.iastore, 1) := by decide +kernel
theorem dX5_keeps_26 : decode cX5_keeps 26 = .ok (.aload_n 0, 1) := by decide +kernel
theorem dX5_keeps_27 : decode cX5_keeps 27 = .ok (.getfield 66, 3) := by decide +kernel
theorem dX5_keeps_30 : decode cX5_keeps 30 = .ok (.iconst 3, 1) := by decide +kernel
theorem dX5_keeps_31 : decode cX5_keeps 31 = .ok (.aload_n 0, 1) := by decide +kernel
theorem dX5_keeps_32 : decode cX5_keeps 32 = .ok (.getfield 78, 3) := by decide +kernel
theorem dX5_keeps_35 : decode cX5_keeps 35 = .ok (.imul, 1) := by decide +kernel
theorem dX5_keeps_36 : decode cX5_keeps 36 = .ok (.iconst 2, 1) := by decide +kernel
theorem dX5_keeps_37 : decode cX5_keeps 37 = .ok (.iadd, 1) := by decide +kernel
theorem dX5_keeps_38 : decode cX5_keeps 38 = .ok (.iload_n 3, 1) := by decide +kernel
theorem dX5_keeps_39 : decode cX5_keeps 39 = .ok (.iastore, 1) := by decide +kernel
theorem dX5_keeps_40 : decode cX5_keeps 40 = .ok (.return_, 1) := by decide +kernel
theorem dX5_command_0 : decode cX5_command 0 = .ok (.aload_n 0, 1) := by decide +kernel
theorem dX5_command_1 : decode cX5_command 1 = .ok (.invokevirtual 290, 3) := by decide +kernel
theorem dX5_command_4 : decode cX5_command 4 = .ok (.istore_n 1, 1) := by decide +kernel
theorem dX5_command_5 : decode cX5_command 5 = .ok (.iconst 0, 1) := by decide +kernel
theorem dX5_command_6 : decode cX5_command 6 = .ok (.istore_n 2, 1) := by decide +kernel
theorem dX5_command_7 : decode cX5_command 7 = .ok (.aload_n 0, 1) := by decide +kernel
theorem dX5_command_8 : decode cX5_command 8 = .ok (.iload_n 1, 1) := by decide +kernel
theorem dX5_command_9 : decode cX5_command 9 = .ok (.bipush 110, 2) := by decide +kernel
theorem dX5_command_11 : decode cX5_command 11 = .ok (.if_icmp .eq 93, 3) := by decide +kernel
theorem dX5_command_14 : decode cX5_command 14 = .ok (.iload_n 1, 1) := by decide +kernel
theorem dX5_command_15 : decode cX5_command 15 = .ok (.bipush 97, 2) := by decide +kernel
theorem dX5_command_17 : decode cX5_command 17 = .ok (.if_icmp .eq 87, 3) := by decide +kernel
theorem dX5_command_20 : decode cX5_command 20 = .ok (.iload_n 1, 1) := by decide +kernel
theorem dX5_command_21 : decode cX5_command 21 = .ok (.bipush 119, 2) := by decide +kernel
theorem dX5_command_23 : decode cX5_command 23 = .ok (.if_icmp .eq 81, 3) := by decide +kernel
theorem dX5_command_26 : decode cX5_command 26 = .ok (.iload_n 1, 1) := by decide +kernel
theorem dX5_command_27 : decode cX5_command 27 = .ok (.bipush 112, 2) := by decide +kernel
theorem dX5_command_29 : decode cX5_command 29 = .ok (.if_icmp .eq 75, 3) := by decide +kernel
theorem dX5_command_32 : decode cX5_command 32 = .ok (.iload_n 1, 1) := by decide +kernel
theorem dX5_command_33 : decode cX5_command 33 = .ok (.bipush 100, 2) := by decide +kernel
theorem dX5_command_35 : decode cX5_command 35 = .ok (.if_icmp .eq 69, 3) := by decide +kernel
theorem dX5_command_38 : decode cX5_command 38 = .ok (.iload_n 1, 1) := by decide +kernel
theorem dX5_command_39 : decode cX5_command 39 = .ok (.bipush 114, 2) := by decide +kernel
theorem dX5_command_41 : decode cX5_command 41 = .ok (.if_icmp .eq 63, 3) := by decide +kernel
theorem dX5_command_44 : decode cX5_command 44 = .ok (.iload_n 1, 1) := by decide +kernel
theorem dX5_command_45 : decode cX5_command 45 = .ok (.bipush 108, 2) := by decide +kernel
theorem dX5_command_47 : decode cX5_command 47 = .ok (.if_icmp .eq 57, 3) := by decide +kernel
theorem dX5_command_50 : decode cX5_command 50 = .ok (.iload_n 1, 1) := by decide +kernel
theorem dX5_command_51 : decode cX5_command 51 = .ok (.bipush 109, 2) := by decide +kernel
theorem dX5_command_53 : decode cX5_command 53 = .ok (.if_icmp .eq 51, 3) := by decide +kernel
theorem dX5_command_56 : decode cX5_command 56 = .ok (.iload_n 1, 1) := by decide +kernel
theorem dX5_command_57 : decode cX5_command 57 = .ok (.bipush 106, 2) := by decide +kernel
theorem dX5_command_59 : decode cX5_command 59 = .ok (.if_icmp .eq 45, 3) := by decide +kernel
theorem dX5_command_62 : decode cX5_command 62 = .ok (.iload_n 1, 1) := by decide +kernel
theorem dX5_command_63 : decode cX5_command 63 = .ok (.bipush 107, 2) := by decide +kernel
theorem dX5_command_65 : decode cX5_command 65 = .ok (.if_icmp .eq 39, 3) := by decide +kernel
theorem dX5_command_68 : decode cX5_command 68 = .ok (.iload_n 1, 1) := by decide +kernel
theorem dX5_command_69 : decode cX5_command 69 = .ok (.bipush 113, 2) := by decide +kernel
theorem dX5_command_71 : decode cX5_command 71 = .ok (.if_icmp .eq 33, 3) := by decide +kernel
theorem dX5_command_74 : decode cX5_command 74 = .ok (.iload_n 1, 1) := by decide +kernel
theorem dX5_command_75 : decode cX5_command 75 = .ok (.bipush 98, 2) := by decide +kernel
theorem dX5_command_77 : decode cX5_command 77 = .ok (.if_icmp .eq 27, 3) := by decide +kernel
theorem dX5_command_80 : decode cX5_command 80 = .ok (.iload_n 1, 1) := by decide +kernel
theorem dX5_command_81 : decode cX5_command 81 = .ok (.bipush 117, 2) := by decide +kernel
theorem dX5_command_83 : decode cX5_command 83 = .ok (.if_icmp .eq 21, 3) := by decide +kernel
theorem dX5_command_86 : decode cX5_command 86 = .ok (.iload_n 1, 1) := by decide +kernel
theorem dX5_command_87 : decode cX5_command 87 = .ok (.bipush 116, 2) := by decide +kernel
theorem dX5_command_89 : decode cX5_command 89 = .ok (.if_icmp .eq 15, 3) := by decide +kernel
theorem dX5_command_92 : decode cX5_command 92 = .ok (.iload_n 1, 1) := by decide +kernel
theorem dX5_command_93 : decode cX5_command 93 = .ok (.bipush 101, 2) := by decide +kernel
theorem dX5_command_95 : decode cX5_command 95 = .ok (.if_icmp .eq 9, 3) := by decide +kernel
theorem dX5_command_98 : decode cX5_command 98 = .ok (.iload_n 1, 1) := by decide +kernel
theorem dX5_command_99 : decode cX5_command 99 = .ok (.bipush 121, 2) := by decide +kernel
theorem dX5_command_101 : decode cX5_command 101 = .ok (.if_icmp .ne 7, 3) := by decide +kernel
theorem dX5_command_104 : decode cX5_command 104 = .ok (.iconst 1, 1) := by decide +kernel
theorem dX5_command_105 : decode cX5_command 105 = .ok (.goto 4, 3) := by decide +kernel
theorem dX5_command_108 : decode cX5_command 108 = .ok (.iconst 0, 1) := by decide +kernel
theorem dX5_command_109 : decode cX5_command 109 = .ok (.invokevirtual 293, 3) := by decide +kernel
theorem dX5_command_112 : decode cX5_command 112 = .ok (.istore_n 3, 1) := by decide +kernel
theorem dX5_command_113 : decode cX5_command 113 = .ok (.aload_n 0, 1) := by decide +kernel
theorem dX5_command_114 : decode cX5_command 114 = .ok (.getfield 81, 3) := by decide +kernel
theorem dX5_command_117 : decode cX5_command 117 = .ok (.ifCond .eq 4, 3) := by decide +kernel
theorem dX5_command_120 : decode cX5_command 120 = .ok (.return_, 1) := by decide +kernel
theorem dX5_command_121 : decode cX5_command 121 = .ok (.aload_n 0, 1) := by decide +kernel
theorem dX5_command_122 : decode cX5_command 122 = .ok (.getfield 63, 3) := by decide +kernel
theorem dX5_command_125 : decode cX5_command 125 = .ok (.aload_n 0, 1) := by decide +kernel
theorem dX5_command_126 : decode cX5_command 126 = .ok (.getfield 78, 3) := by decide +kernel
theorem dX5_command_129 : decode cX5_command 129 = .ok (.iload_n 1, 1) := by decide +kernel
theorem dX5_command_130 : decode cX5_command 130 = .ok (.iastore, 1) := by decide +kernel
theorem dX5_command_131 : decode cX5_command 131 = .ok (.iload_n 1, 1) := by decide +kernel
theorem dX5_command_132 : decode cX5_command 132 = .ok (.tableswitch 286 97 117 #[118, 214, 286, 273, 255, 286, 286, 286, 286, 166, 286, 286, 118, 100, 286, 286, 190, 142, 286, 232, 214], 100) := by decide +kernel
theorem dX5_command_232 : decode cX5_command 232 = .ok (.aload_n 0, 1) := by decide +kernel
theorem dX5_command_233 : decode cX5_command 233 = .ok (.invokevirtual 299, 3) := by decide +kernel
theorem dX5_command_236 : decode cX5_command 236 = .ok (.istore_n 2, 1) := by decide +kernel
theorem dX5_command_237 : decode cX5_command 237 = .ok (.aload_n 0, 1) := by decide +kernel
theorem dX5_command_238 : decode cX5_command 238 = .ok (.iload_n 2, 1) := by decide +kernel
theorem dX5_command_239 : decode cX5_command 239 = .ok (.aload_n 0, 1) := by decide +kernel
theorem dX5_command_240 : decode cX5_command 240 = .ok (.invokevirtual 296, 3) := by decide +kernel
theorem dX5_command_243 : decode cX5_command 243 = .ok (.iconst 0, 1) := by decide +kernel
theorem dX5_command_244 : decode cX5_command 244 = .ok (.invokevirtual 302, 3) := by decide +kernel
theorem dX5_command_247 : decode cX5_command 247 = .ok (.goto 181, 3) := by decide +kernel
theorem dX5_command_250 : decode cX5_command 250 = .ok (.aload_n 0, 1) := by decide +kernel
theorem dX5_command_251 : decode cX5_command 251 = .ok (.invokevirtual 305, 3) := by decide +kernel
theorem dX5_command_254 : decode cX5_command 254 = .ok (.istore_n 2, 1) := by decide +kernel
theorem dX5_command_255 : decode cX5_command 255 = .ok (.aload_n 0, 1) := by decide +kernel
theorem dX5_command_256 : decode cX5_command 256 = .ok (.bipush 62, 2) := by decide +kernel
theorem dX5_command_258 : decode cX5_command 258 = .ok (.invokevirtual 308, 3) := by decide +kernel
theorem dX5_command_261 : decode cX5_command 261 = .ok (.aload_n 0, 1) := by decide +kernel
theorem dX5_command_262 : decode cX5_command 262 = .ok (.iload_n 2, 1) := by decide +kernel
theorem dX5_command_263 : decode cX5_command 263 = .ok (.aload_n 0, 1) := by decide +kernel
theorem dX5_command_264 : decode cX5_command 264 = .ok (.invokevirtual 296, 3) := by decide +kernel
theorem dX5_command_267 : decode cX5_command 267 = .ok (.iconst 0, 1) := by decide +kernel
theorem dX5_command_268 : decode cX5_command 268 = .ok (.invokevirtual 302, 3) := by decide +kernel
theorem dX5_command_271 : decode cX5_command 271 = .ok (.goto 157, 3) := by decide +kernel
theorem dX5_command_274 : decode cX5_command 274 = .ok (.aload_n 0, 1) := by decide +kernel
theorem dX5_command_275 : decode cX5_command 275 = .ok (.invokevirtual 305, 3) := by decide +kernel
theorem dX5_command_278 : decode cX5_command 278 = .ok (.istore_n 2, 1) := by decide +kernel
theorem dX5_command_279 : decode cX5_command 279 = .ok (.aload_n 0, 1) := by decide +kernel
theorem dX5_command_280 : decode cX5_command 280 = .ok (.bipush 43, 2) := by decide +kernel
theorem dX5_command_282 : decode cX5_command 282 = .ok (.invokevirtual 308, 3) := by decide +kernel
theorem dX5_command_285 : decode cX5_command 285 = .ok (.aload_n 0, 1) := by decide +kernel
theorem dX5_command_286 : decode cX5_command 286 = .ok (.iload_n 2, 1) := by decide +kernel
theorem dX5_command_287 : decode cX5_command 287 = .ok (.aload_n 0, 1) := by decide +kernel
theorem dX5_command_288 : decode cX5_command 288 = .ok (.invokevirtual 296, 3) := by decide +kernel
theorem dX5_command_291 : decode cX5_command 291 = .ok (.iconst 0, 1) := by decide +kernel
theorem dX5_command_292 : decode cX5_command 292 = .ok (.invokevirtual 302, 3) := by decide +kernel
theorem dX5_command_295 : decode cX5_command 295 = .ok (.goto 133, 3) := by decide +kernel
theorem dX5_command_298 : decode cX5_command 298 = .ok (.aload_n 0, 1) := by decide +kernel
theorem dX5_command_299 : decode cX5_command 299 = .ok (.invokevirtual 305, 3) := by decide +kernel
theorem dX5_command_302 : decode cX5_command 302 = .ok (.istore_n 2, 1) := by decide +kernel
theorem dX5_command_303 : decode cX5_command 303 = .ok (.aload_n 0, 1) := by decide +kernel
theorem dX5_command_304 : decode cX5_command 304 = .ok (.bipush 38, 2) := by decide +kernel
theorem dX5_command_306 : decode cX5_command 306 = .ok (.invokevirtual 308, 3) := by decide +kernel
theorem dX5_command_309 : decode cX5_command 309 = .ok (.aload_n 0, 1) := by decide +kernel
theorem dX5_command_310 : decode cX5_command 310 = .ok (.iload_n 2, 1) := by decide +kernel
theorem dX5_command_311 : decode cX5_command 311 = .ok (.aload_n 0, 1) := by decide +kernel
theorem dX5_command_312 : decode cX5_command 312 = .ok (.invokevirtual 305, 3) := by decide +kernel
theorem dX5_command_315 : decode cX5_command 315 = .ok (.iconst 0, 1) := by decide +kernel
theorem dX5_command_316 : decode cX5_command 316 = .ok (.invokevirtual 302, 3) := by decide +kernel
theorem dX5_command_319 : decode cX5_command 319 = .ok (.goto 109, 3) := by decide +kernel
theorem dX5_command_322 : decode cX5_command 322 = .ok (.aload_n 0, 1) := by decide +kernel
theorem dX5_command_323 : decode cX5_command 323 = .ok (.invokevirtual 296, 3) := by decide +kernel
theorem dX5_command_326 : decode cX5_command 326 = .ok (.istore_n 2, 1) := by decide +kernel
theorem dX5_command_327 : decode cX5_command 327 = .ok (.aload_n 0, 1) := by decide +kernel
theorem dX5_command_328 : decode cX5_command 328 = .ok (.bipush 61, 2) := by decide +kernel
theorem dX5_command_330 : decode cX5_command 330 = .ok (.invokevirtual 308, 3) := by decide +kernel
theorem dX5_command_333 : decode cX5_command 333 = .ok (.aload_n 0, 1) := by decide +kernel
theorem dX5_command_334 : decode cX5_command 334 = .ok (.iload_n 2, 1) := by decide +kernel
theorem dX5_command_335 : decode cX5_command 335 = .ok (.aload_n 0, 1) := by decide +kernel
theorem dX5_command_336 : decode cX5_command 336 = .ok (.invokevirtual 296, 3) := by decide +kernel
theorem dX5_command_339 : decode cX5_command 339 = .ok (.iconst 0, 1) := by decide +kernel
theorem dX5_command_340 : decode cX5_command 340 = .ok (.invokevirtual 302, 3) := by decide +kernel
theorem dX5_command_343 : decode cX5_command 343 = .ok (.goto 85, 3) := by decide +kernel
theorem dX5_command_346 : decode cX5_command 346 = .ok (.aload_n 0, 1) := by decide +kernel
theorem dX5_command_347 : decode cX5_command 347 = .ok (.invokevirtual 296, 3) := by decide +kernel
theorem dX5_command_350 : decode cX5_command 350 = .ok (.istore_n 2, 1) := by decide +kernel
theorem dX5_command_351 : decode cX5_command 351 = .ok (.aload_n 0, 1) := by decide +kernel
theorem dX5_command_352 : decode cX5_command 352 = .ok (.iload_n 2, 1) := by decide +kernel
theorem dX5_command_353 : decode cX5_command 353 = .ok (.aload_n 0, 1) := by decide +kernel
theorem dX5_command_354 : decode cX5_command 354 = .ok (.invokevirtual 299, 3) := by decide +kernel
theorem dX5_command_357 : decode cX5_command 357 = .ok (.iconst 0, 1) := by decide +kernel
theorem dX5_command_358 : decode cX5_command 358 = .ok (.invokevirtual 302, 3) := by decide +kernel
theorem dX5_command_361 : decode cX5_command 361 = .ok (.goto 67, 3) := by decide +kernel
theorem dX5_command_364 : decode cX5_command 364 = .ok (.aload_n 0, 1) := by decide +kernel
theorem dX5_command_365 : decode cX5_command 365 = .ok (.invokevirtual 296, 3) := by decide +kernel
theorem dX5_command_368 : decode cX5_command 368 = .ok (.istore_n 2, 1) := by decide +kernel
theorem dX5_command_369 : decode cX5_command 369 = .ok (.aload_n 0, 1) := by decide +kernel
theorem dX5_command_370 : decode cX5_command 370 = .ok (.invokevirtual 296, 3) := by decide +kernel
theorem dX5_command_373 : decode cX5_command 373 = .ok (.istore_n 3, 1) := by decide +kernel
theorem dX5_command_374 : decode cX5_command 374 = .ok (.aload_n 0, 1) := by decide +kernel
theorem dX5_command_375 : decode cX5_command 375 = .ok (.iload_n 2, 1) := by decide +kernel
theorem dX5_command_376 : decode cX5_command 376 = .ok (.iload_n 3, 1) := by decide +kernel
theorem dX5_command_377 : decode cX5_command 377 = .ok (.aload_n 0, 1) := by decide +kernel
theorem dX5_command_378 : decode cX5_command 378 = .ok (.invokevirtual 311, 3) := by decide +kernel
theorem dX5_command_381 : decode cX5_command 381 = .ok (.invokevirtual 302, 3) := by decide +kernel
theorem dX5_command_384 : decode cX5_command 384 = .ok (.goto 44, 3) := by decide +kernel
theorem dX5_command_387 : decode cX5_command 387 = .ok (.aload_n 0, 1) := by decide +kernel
theorem dX5_command_388 : decode cX5_command 388 = .ok (.invokevirtual 296, 3) := by decide +kernel
theorem dX5_command_391 : decode cX5_command 391 = .ok (.istore_n 2, 1) := by decide +kernel
theorem dX5_command_392 : decode cX5_command 392 = .ok (.aload_n 0, 1) := by decide +kernel
theorem dX5_command_393 : decode cX5_command 393 = .ok (.iload_n 2, 1) := by decide +kernel
theorem dX5_command_394 : decode cX5_command 394 = .ok (.aload_n 0, 1) := by decide +kernel
theorem dX5_command_395 : decode cX5_command 395 = .ok (.invokevirtual 296, 3) := by decide +kernel
theorem dX5_command_398 : decode cX5_command 398 = .ok (.iconst 0, 1) := by decide +kernel
theorem dX5_command_399 : decode cX5_command 399 = .ok (.invokevirtual 302, 3) := by decide +kernel
theorem dX5_command_402 : decode cX5_command 402 = .ok (.goto 26, 3) := by decide +kernel
theorem dX5_command_405 : decode cX5_command 405 = .ok (.aload_n 0, 1) := by decide +kernel
theorem dX5_command_406 : decode cX5_command 406 = .ok (.aload_n 0, 1) := by decide +kernel
theorem dX5_command_407 : decode cX5_command 407 = .ok (.invokevirtual 296, 3) := by decide +kernel
theorem dX5_command_410 : decode cX5_command 410 = .ok (.iconst 0, 1) := by decide +kernel
theorem dX5_command_411 : decode cX5_command 411 = .ok (.iconst 0, 1) := by decide +kernel
theorem dX5_command_412 : decode cX5_command 412 = .ok (.invokevirtual 302, 3) := by decide +kernel
theorem dX5_command_415 : decode cX5_command 415 = .ok (.goto 13, 3) := by decide +kernel
theorem dX5_command_418 : decode cX5_command 418 = .ok (.aload_n 0, 1) := by decide +kernel
theorem dX5_command_419 : decode cX5_command 419 = .ok (.aload_n 0, 1) := by decide +kernel
theorem dX5_command_420 : decode cX5_command 420 = .ok (.invokevirtual 305, 3) := by decide +kernel
theorem dX5_command_423 : decode cX5_command 423 = .ok (.iconst 0, 1) := by decide +kernel
theorem dX5_command_424 : decode cX5_command 424 = .ok (.iconst 0, 1) := by decide +kernel
theorem dX5_command_425 : decode cX5_command 425 = .ok (.invokevirtual 302, 3) := by decide +kernel
theorem dX5_command_428 : decode cX5_command 428 = .ok (.aload_n 0, 1) := by decide +kernel
theorem dX5_command_429 : decode cX5_command 429 = .ok (.getfield 81, 3) := by decide +kernel
theorem dX5_command_432 : decode cX5_command 432 = .ok (.ifCond .ne 13, 3) := by decide +kernel
theorem dX5_command_435 : decode cX5_command 435 = .ok (.aload_n 0, 1) := by decide +kernel
theorem dX5_command_436 : decode cX5_command 436 = .ok (.dup, 1) := by decide +kernel
theorem dX5_command_437 : decode cX5_command 437 = .ok (.getfield 78, 3) := by decide +kernel
theorem dX5_command_440 : decode cX5_command 440 = .ok (.iconst 1, 1) := by decide +kernel
theorem dX5_command_441 : decode cX5_command 441 = .ok (.iadd, 1) := by decide +kernel
theorem dX5_command_442 : decode cX5_command 442 = .ok (.putfield 78, 3) := by decide +kernel
theorem dX5_command_445 : decode cX5_command 445 = .ok (.return_, 1) := by decide +kernel
theorem dX5_parse_0 : decode cX5_parse 0 = .ok (.aload_n 0, 1) := by decide +kernel
theorem dX5_parse_1 : decode cX5_parse 1 = .ok (.aload_n 0, 1) := by decide +kernel
theorem dX5_parse_2 : decode cX5_parse 2 = .ok (.getfield 69, 3) := by decide +kernel
theorem dX5_parse_5 : decode cX5_parse 5 = .ok (.putfield 72, 3) := by decide +kernel
theorem dX5_parse_8 : decode cX5_parse 8 = .ok (.aload_n 0, 1) := by decide +kernel
theorem dX5_parse_9 : decode cX5_parse 9 = .ok (.iconst 0, 1) := by decide +kernel
theorem dX5_parse_10 : decode cX5_parse 10 = .ok (.putfield 69, 3) := by decide +kernel
theorem dX5_parse_13 : decode cX5_parse 13 = .ok (.aload_n 0, 1) := by decide +kernel
theorem dX5_parse_14 : decode cX5_parse 14 = .ok (.iconst 0, 1) := by decide +kernel
theorem dX5_parse_15 : decode cX5_parse 15 = .ok (.putfield 75, 3) := by decide +kernel
theorem dX5_parse_18 : decode cX5_parse 18 = .ok (.aload_n 0, 1) := by decide +kernel
theorem dX5_parse_19 : decode cX5_parse 19 = .ok (.iconst 0, 1) := by decide +kernel
theorem dX5_parse_20 : decode cX5_parse 20 = .ok (.putfield 78, 3) := by decide +kernel
theorem dX5_parse_23 : decode cX5_parse 23 = .ok (.aload_n 0, 1) := by decide +kernel
theorem dX5_parse_24 : decode cX5_parse 24 = .ok (.iconst 0, 1) := by decide +kernel
theorem dX5_parse_25 : decode cX5_parse 25 = .ok (.putfield 81, 3) := by decide +kernel
theorem dX5_parse_28 : decode cX5_parse 28 = .ok (.aload_n 0, 1) := by decide +kernel
theorem dX5_parse_29 : decode cX5_parse 29 = .ok (.invokevirtual 314, 3) := by decide +kernel
theorem dX5_parse_32 : decode cX5_parse 32 = .ok (.aload_n 0, 1) := by decide +kernel
theorem dX5_parse_33 : decode cX5_parse 33 = .ok (.invokevirtual 290, 3) := by decide +kernel
theorem dX5_parse_36 : decode cX5_parse 36 = .ok (.bipush 59, 2) := by decide +kernel
theorem dX5_parse_38 : decode cX5_parse 38 = .ok (.if_icmp .ne 20, 3) := by decide +kernel
theorem dX5_parse_41 : decode cX5_parse 41 = .ok (.aload_n 0, 1) := by decide +kernel
theorem dX5_parse_42 : decode cX5_parse 42 = .ok (.dup, 1) := by decide +kernel
theorem dX5_parse_43 : decode cX5_parse 43 = .ok (.getfield 75, 3) := by decide +kernel
theorem dX5_parse_46 : decode cX5_parse 46 = .ok (.iconst 1, 1) := by decide +kernel
theorem dX5_parse_47 : decode cX5_parse 47 = .ok (.iadd, 1) := by decide +kernel
theorem dX5_parse_48 : decode cX5_parse 48 = .ok (.putfield 75, 3) := by decide +kernel
theorem dX5_parse_51 : decode cX5_parse 51 = .ok (.aload_n 0, 1) := by decide +kernel
theorem dX5_parse_52 : decode cX5_parse 52 = .ok (.invokevirtual 314, 3) := by decide +kernel
theorem dX5_parse_55 : decode cX5_parse 55 = .ok (.goto (-23), 3) := by decide +kernel
theorem dX5_parse_58 : decode cX5_parse 58 = .ok (.aload_n 0, 1) := by decide +kernel
theorem dX5_parse_59 : decode cX5_parse 59 = .ok (.dup, 1) := by decide +kernel
theorem dX5_parse_60 : decode cX5_parse 60 = .ok (.getfield 81, 3) := by decide +kernel
theorem dX5_parse_63 : decode cX5_parse 63 = .ok (.aload_n 0, 1) := by decide +kernel
theorem dX5_parse_64 : decode cX5_parse 64 = .ok (.getfield 75, 3) := by decide +kernel
theorem dX5_parse_67 : decode cX5_parse 67 = .ok (.aload_n 0, 1) := by decide +kernel
theorem dX5_parse_68 : decode cX5_parse 68 = .ok (.getfield 72, 3) := by decide +kernel
theorem dX5_parse_71 : decode cX5_parse 71 = .ok (.if_icmp .ge 7, 3) := by decide +kernel
theorem dX5_parse_74 : decode cX5_parse 74 = .ok (.iconst 1, 1) := by decide +kernel
theorem dX5_parse_75 : decode cX5_parse 75 = .ok (.goto 4, 3) := by decide +kernel
theorem dX5_parse_78 : decode cX5_parse 78 = .ok (.iconst 0, 1) := by decide +kernel
theorem dX5_parse_79 : decode cX5_parse 79 = .ok (.ior, 1) := by decide +kernel
theorem dX5_parse_80 : decode cX5_parse 80 = .ok (.putfield 81, 3) := by decide +kernel
theorem dX5_parse_83 : decode cX5_parse 83 = .ok (.return_, 1) := by decide +kernel
theorem dX5_carries_0 : decode cX5_carries 0 = .ok (.aload_n 0, 1) := by decide +kernel
theorem dX5_carries_1 : decode cX5_carries 1 = .ok (.getfield 66, 3) := by decide +kernel
theorem dX5_carries_4 : decode cX5_carries 4 = .ok (.iconst 3, 1) := by decide +kernel
theorem dX5_carries_5 : decode cX5_carries 5 = .ok (.iload_n 1, 1) := by decide +kernel
theorem dX5_carries_6 : decode cX5_carries 6 = .ok (.imul, 1) := by decide +kernel
theorem dX5_carries_7 : decode cX5_carries 7 = .ok (.iaload, 1) := by decide +kernel
theorem dX5_carries_8 : decode cX5_carries 8 = .ok (.istore_n 2, 1) := by decide +kernel
theorem dX5_carries_9 : decode cX5_carries 9 = .ok (.aload_n 0, 1) := by decide +kernel
theorem dX5_carries_10 : decode cX5_carries 10 = .ok (.getfield 66, 3) := by decide +kernel
theorem dX5_carries_13 : decode cX5_carries 13 = .ok (.iconst 3, 1) := by decide +kernel
theorem dX5_carries_14 : decode cX5_carries 14 = .ok (.iload_n 1, 1) := by decide +kernel
theorem dX5_carries_15 : decode cX5_carries 15 = .ok (.imul, 1) := by decide +kernel
theorem dX5_carries_16 : decode cX5_carries 16 = .ok (.iconst 1, 1) := by decide +kernel
theorem dX5_carries_17 : decode cX5_carries 17 = .ok (.iadd, 1) := by decide +kernel
theorem dX5_carries_18 : decode cX5_carries 18 = .ok (.iaload, 1) := by decide +kernel
theorem dX5_carries_19 : decode cX5_carries 19 = .ok (.istore_n 3, 1) := by decide +kernel
theorem dX5_carries_20 : decode cX5_carries 20 = .ok (.aload_n 0, 1) := by decide +kernel
theorem dX5_carries_21 : decode cX5_carries 21 = .ok (.getfield 66, 3) := by decide +kernel
theorem dX5_carries_24 : decode cX5_carries 24 = .ok (.iconst 3, 1) := by decide +kernel
theorem dX5_carries_25 : decode cX5_carries 25 = .ok (.iload_n 1, 1) := by decide +kernel
theorem dX5_carries_26 : decode cX5_carries 26 = .ok (.imul, 1) := by decide +kernel
theorem dX5_carries_27 : decode cX5_carries 27 = .ok (.iconst 2, 1) := by decide +kernel
theorem dX5_carries_28 : decode cX5_carries 28 = .ok (.iadd, 1) := by decide +kernel
theorem dX5_carries_29 : decode cX5_carries 29 = .ok (.iaload, 1) := by decide +kernel
theorem dX5_carries_30 : decode cX5_carries 30 = .ok (.istore 4, 2) := by decide +kernel
theorem dX5_carries_32 : decode cX5_carries 32 = .ok (.iconst 0, 1) := by decide +kernel
theorem dX5_carries_33 : decode cX5_carries 33 = .ok (.istore 5, 2) := by decide +kernel
theorem dX5_carries_35 : decode cX5_carries 35 = .ok (.aload_n 0, 1) := by decide +kernel
theorem dX5_carries_36 : decode cX5_carries 36 = .ok (.getfield 63, 3) := by decide +kernel
theorem dX5_carries_39 : decode cX5_carries 39 = .ok (.iload_n 1, 1) := by decide +kernel
theorem dX5_carries_40 : decode cX5_carries 40 = .ok (.iaload, 1) := by decide +kernel
theorem dX5_carries_41 : decode cX5_carries 41 = .ok (.tableswitch 560 97 119 #[136, 459, 560, 231, 538, 560, 560, 560, 560, 357, 401, 290, 319, 107, 560, 202, 430, 249, 560, 494, 459, 560, 173], 107) := by decide +kernel
theorem dX5_carries_148 : decode cX5_carries 148 = .ok (.iload_n 2, 1) := by decide +kernel
theorem dX5_carries_149 : decode cX5_carries 149 = .ok (.iload_n 3, 1) := by decide +kernel
theorem dX5_carries_150 : decode cX5_carries 150 = .ok (.invokestatic 132, 3) := by decide +kernel
theorem dX5_carries_153 : decode cX5_carries 153 = .ok (.ifCond .ne 5, 3) := by decide +kernel
theorem dX5_carries_156 : decode cX5_carries 156 = .ok (.iconst 1, 1) := by decide +kernel
theorem dX5_carries_157 : decode cX5_carries 157 = .ok (.ireturn, 1) := by decide +kernel
theorem dX5_carries_158 : decode cX5_carries 158 = .ok (.aload_n 0, 1) := by decide +kernel
theorem dX5_carries_159 : decode cX5_carries 159 = .ok (.invokevirtual 135, 3) := by decide +kernel
theorem dX5_carries_162 : decode cX5_carries 162 = .ok (.ifCond .eq 5, 3) := by decide +kernel
theorem dX5_carries_165 : decode cX5_carries 165 = .ok (.iconst 2, 1) := by decide +kernel
theorem dX5_carries_166 : decode cX5_carries 166 = .ok (.ireturn, 1) := by decide +kernel
theorem dX5_carries_167 : decode cX5_carries 167 = .ok (.aload_n 0, 1) := by decide +kernel
theorem dX5_carries_168 : decode cX5_carries 168 = .ok (.iload_n 2, 1) := by decide +kernel
theorem dX5_carries_169 : decode cX5_carries 169 = .ok (.iload_n 3, 1) := by decide +kernel
theorem dX5_carries_170 : decode cX5_carries 170 = .ok (.invokevirtual 142, 3) := by decide +kernel
theorem dX5_carries_173 : decode cX5_carries 173 = .ok (.istore 5, 2) := by decide +kernel
theorem dX5_carries_175 : decode cX5_carries 175 = .ok (.iconst 0, 1) := by decide +kernel
theorem dX5_carries_176 : decode cX5_carries 176 = .ok (.ireturn, 1) := by decide +kernel
theorem dX5_carries_177 : decode cX5_carries 177 = .ok (.aload_n 0, 1) := by decide +kernel
theorem dX5_carries_178 : decode cX5_carries 178 = .ok (.iload_n 2, 1) := by decide +kernel
theorem dX5_carries_179 : decode cX5_carries 179 = .ok (.invokevirtual 151, 3) := by decide +kernel
theorem dX5_carries_182 : decode cX5_carries 182 = .ok (.ifCond .eq 10, 3) := by decide +kernel
theorem dX5_carries_185 : decode cX5_carries 185 = .ok (.iload_n 3, 1) := by decide +kernel
theorem dX5_carries_186 : decode cX5_carries 186 = .ok (.invokestatic 168, 3) := by decide +kernel
theorem dX5_carries_189 : decode cX5_carries 189 = .ok (.ifCond .ne 5, 3) := by decide +kernel
theorem dX5_carries_192 : decode cX5_carries 192 = .ok (.iconst 1, 1) := by decide +kernel
theorem dX5_carries_193 : decode cX5_carries 193 = .ok (.ireturn, 1) := by decide +kernel
theorem dX5_carries_194 : decode cX5_carries 194 = .ok (.aload_n 0, 1) := by decide +kernel
theorem dX5_carries_195 : decode cX5_carries 195 = .ok (.iload_n 2, 1) := by decide +kernel
theorem dX5_carries_196 : decode cX5_carries 196 = .ok (.invokevirtual 171, 3) := by decide +kernel
theorem dX5_carries_199 : decode cX5_carries 199 = .ok (.ifCond .eq 5, 3) := by decide +kernel
theorem dX5_carries_202 : decode cX5_carries 202 = .ok (.iconst 2, 1) := by decide +kernel
theorem dX5_carries_203 : decode cX5_carries 203 = .ok (.ireturn, 1) := by decide +kernel
theorem dX5_carries_204 : decode cX5_carries 204 = .ok (.aload_n 0, 1) := by decide +kernel
theorem dX5_carries_205 : decode cX5_carries 205 = .ok (.iload_n 2, 1) := by decide +kernel
theorem dX5_carries_206 : decode cX5_carries 206 = .ok (.iload_n 3, 1) := by decide +kernel
theorem dX5_carries_207 : decode cX5_carries 207 = .ok (.invokevirtual 174, 3) := by decide +kernel
theorem dX5_carries_210 : decode cX5_carries 210 = .ok (.istore 5, 2) := by decide +kernel
theorem dX5_carries_212 : decode cX5_carries 212 = .ok (.iconst 0, 1) := by decide +kernel
theorem dX5_carries_213 : decode cX5_carries 213 = .ok (.ireturn, 1) := by decide +kernel
theorem dX5_carries_214 : decode cX5_carries 214 = .ok (.aload_n 0, 1) := by decide +kernel
theorem dX5_carries_215 : decode cX5_carries 215 = .ok (.iload_n 2, 1) := by decide +kernel
theorem dX5_carries_216 : decode cX5_carries 216 = .ok (.invokevirtual 151, 3) := by decide +kernel
theorem dX5_carries_219 : decode cX5_carries 219 = .ok (.ifCond .ne 5, 3) := by decide +kernel
theorem dX5_carries_222 : decode cX5_carries 222 = .ok (.iconst 1, 1) := by decide +kernel
theorem dX5_carries_223 : decode cX5_carries 223 = .ok (.ireturn, 1) := by decide +kernel
theorem dX5_carries_224 : decode cX5_carries 224 = .ok (.aload_n 0, 1) := by decide +kernel
theorem dX5_carries_225 : decode cX5_carries 225 = .ok (.iload_n 2, 1) := by decide +kernel
theorem dX5_carries_226 : decode cX5_carries 226 = .ok (.invokevirtual 177, 3) := by decide +kernel
theorem dX5_carries_229 : decode cX5_carries 229 = .ok (.ifCond .eq 5, 3) := by decide +kernel
theorem dX5_carries_232 : decode cX5_carries 232 = .ok (.iconst 2, 1) := by decide +kernel
theorem dX5_carries_233 : decode cX5_carries 233 = .ok (.ireturn, 1) := by decide +kernel
theorem dX5_carries_234 : decode cX5_carries 234 = .ok (.aload_n 0, 1) := by decide +kernel
theorem dX5_carries_235 : decode cX5_carries 235 = .ok (.iload_n 2, 1) := by decide +kernel
theorem dX5_carries_236 : decode cX5_carries 236 = .ok (.invokevirtual 180, 3) := by decide +kernel
theorem dX5_carries_239 : decode cX5_carries 239 = .ok (.istore 5, 2) := by decide +kernel
theorem dX5_carries_241 : decode cX5_carries 241 = .ok (.iconst 0, 1) := by decide +kernel
theorem dX5_carries_242 : decode cX5_carries 242 = .ok (.ireturn, 1) := by decide +kernel
theorem dX5_carries_243 : decode cX5_carries 243 = .ok (.aload_n 0, 1) := by decide +kernel
theorem dX5_carries_244 : decode cX5_carries 244 = .ok (.iload_n 2, 1) := by decide +kernel
theorem dX5_carries_245 : decode cX5_carries 245 = .ok (.invokevirtual 151, 3) := by decide +kernel
theorem dX5_carries_248 : decode cX5_carries 248 = .ok (.ifCond .ne 5, 3) := by decide +kernel
theorem dX5_carries_251 : decode cX5_carries 251 = .ok (.iconst 1, 1) := by decide +kernel
theorem dX5_carries_252 : decode cX5_carries 252 = .ok (.ireturn, 1) := by decide +kernel
theorem dX5_carries_253 : decode cX5_carries 253 = .ok (.aload_n 0, 1) := by decide +kernel
theorem dX5_carries_254 : decode cX5_carries 254 = .ok (.iload_n 2, 1) := by decide +kernel
theorem dX5_carries_255 : decode cX5_carries 255 = .ok (.invokevirtual 183, 3) := by decide +kernel
theorem dX5_carries_258 : decode cX5_carries 258 = .ok (.ifCond .eq 5, 3) := by decide +kernel
theorem dX5_carries_261 : decode cX5_carries 261 = .ok (.iconst 2, 1) := by decide +kernel
theorem dX5_carries_262 : decode cX5_carries 262 = .ok (.ireturn, 1) := by decide +kernel
theorem dX5_carries_263 : decode cX5_carries 263 = .ok (.aload_n 0, 1) := by decide +kernel
theorem dX5_carries_264 : decode cX5_carries 264 = .ok (.iload_n 2, 1) := by decide +kernel
theorem dX5_carries_265 : decode cX5_carries 265 = .ok (.invokevirtual 186, 3) := by decide +kernel
theorem dX5_carries_268 : decode cX5_carries 268 = .ok (.istore 5, 2) := by decide +kernel
theorem dX5_carries_270 : decode cX5_carries 270 = .ok (.iconst 0, 1) := by decide +kernel
theorem dX5_carries_271 : decode cX5_carries 271 = .ok (.ireturn, 1) := by decide +kernel
theorem dX5_carries_272 : decode cX5_carries 272 = .ok (.iload_n 2, 1) := by decide +kernel
theorem dX5_carries_273 : decode cX5_carries 273 = .ok (.invokestatic 168, 3) := by decide +kernel
theorem dX5_carries_276 : decode cX5_carries 276 = .ok (.ifCond .ne 5, 3) := by decide +kernel
theorem dX5_carries_279 : decode cX5_carries 279 = .ok (.iconst 1, 1) := by decide +kernel
theorem dX5_carries_280 : decode cX5_carries 280 = .ok (.ireturn, 1) := by decide +kernel
theorem dX5_carries_281 : decode cX5_carries 281 = .ok (.aload_n 0, 1) := by decide +kernel
theorem dX5_carries_282 : decode cX5_carries 282 = .ok (.iload_n 2, 1) := by decide +kernel
theorem dX5_carries_283 : decode cX5_carries 283 = .ok (.invokevirtual 201, 3) := by decide +kernel
theorem dX5_carries_286 : decode cX5_carries 286 = .ok (.istore 5, 2) := by decide +kernel
theorem dX5_carries_288 : decode cX5_carries 288 = .ok (.iconst 0, 1) := by decide +kernel
theorem dX5_carries_289 : decode cX5_carries 289 = .ok (.ireturn, 1) := by decide +kernel
theorem dX5_carries_290 : decode cX5_carries 290 = .ok (.aload_n 0, 1) := by decide +kernel
theorem dX5_carries_291 : decode cX5_carries 291 = .ok (.iload_n 2, 1) := by decide +kernel
theorem dX5_carries_292 : decode cX5_carries 292 = .ok (.invokevirtual 151, 3) := by decide +kernel
theorem dX5_carries_295 : decode cX5_carries 295 = .ok (.ifCond .eq 13, 3) := by decide +kernel
theorem dX5_carries_298 : decode cX5_carries 298 = .ok (.iload_n 3, 1) := by decide +kernel
theorem dX5_carries_299 : decode cX5_carries 299 = .ok (.iconst 1, 1) := by decide +kernel
theorem dX5_carries_300 : decode cX5_carries 300 = .ok (.bipush 9, 2) := by decide +kernel
theorem dX5_carries_302 : decode cX5_carries 302 = .ok (.invokestatic 92, 3) := by decide +kernel
theorem dX5_carries_305 : decode cX5_carries 305 = .ok (.ifCond .ne 5, 3) := by decide +kernel
theorem dX5_carries_308 : decode cX5_carries 308 = .ok (.iconst 1, 1) := by decide +kernel
theorem dX5_carries_309 : decode cX5_carries 309 = .ok (.ireturn, 1) := by decide +kernel
theorem dX5_carries_310 : decode cX5_carries 310 = .ok (.aload_n 0, 1) := by decide +kernel
theorem dX5_carries_311 : decode cX5_carries 311 = .ok (.iload_n 2, 1) := by decide +kernel
theorem dX5_carries_312 : decode cX5_carries 312 = .ok (.iload_n 3, 1) := by decide +kernel
theorem dX5_carries_313 : decode cX5_carries 313 = .ok (.invokevirtual 207, 3) := by decide +kernel
theorem dX5_carries_316 : decode cX5_carries 316 = .ok (.ifCond .eq 5, 3) := by decide +kernel
theorem dX5_carries_319 : decode cX5_carries 319 = .ok (.iconst 2, 1) := by decide +kernel
theorem dX5_carries_320 : decode cX5_carries 320 = .ok (.ireturn, 1) := by decide +kernel
theorem dX5_carries_321 : decode cX5_carries 321 = .ok (.aload_n 0, 1) := by decide +kernel
theorem dX5_carries_322 : decode cX5_carries 322 = .ok (.iload_n 2, 1) := by decide +kernel
theorem dX5_carries_323 : decode cX5_carries 323 = .ok (.iload_n 3, 1) := by decide +kernel
theorem dX5_carries_324 : decode cX5_carries 324 = .ok (.invokevirtual 210, 3) := by decide +kernel
theorem dX5_carries_327 : decode cX5_carries 327 = .ok (.istore 5, 2) := by decide +kernel
theorem dX5_carries_329 : decode cX5_carries 329 = .ok (.iconst 0, 1) := by decide +kernel
theorem dX5_carries_330 : decode cX5_carries 330 = .ok (.ireturn, 1) := by decide +kernel
theorem dX5_carries_331 : decode cX5_carries 331 = .ok (.aload_n 0, 1) := by decide +kernel
theorem dX5_carries_332 : decode cX5_carries 332 = .ok (.iload_n 2, 1) := by decide +kernel
theorem dX5_carries_333 : decode cX5_carries 333 = .ok (.invokevirtual 151, 3) := by decide +kernel
theorem dX5_carries_336 : decode cX5_carries 336 = .ok (.ifCond .ne 5, 3) := by decide +kernel
theorem dX5_carries_339 : decode cX5_carries 339 = .ok (.iconst 1, 1) := by decide +kernel
theorem dX5_carries_340 : decode cX5_carries 340 = .ok (.ireturn, 1) := by decide +kernel
theorem dX5_carries_341 : decode cX5_carries 341 = .ok (.aload_n 0, 1) := by decide +kernel
theorem dX5_carries_342 : decode cX5_carries 342 = .ok (.iload_n 2, 1) := by decide +kernel
theorem dX5_carries_343 : decode cX5_carries 343 = .ok (.invokevirtual 216, 3) := by decide +kernel
theorem dX5_carries_346 : decode cX5_carries 346 = .ok (.ifCond .eq 5, 3) := by decide +kernel
theorem dX5_carries_349 : decode cX5_carries 349 = .ok (.iconst 2, 1) := by decide +kernel
theorem dX5_carries_350 : decode cX5_carries 350 = .ok (.ireturn, 1) := by decide +kernel
theorem dX5_carries_351 : decode cX5_carries 351 = .ok (.aload_n 0, 1) := by decide +kernel
theorem dX5_carries_352 : decode cX5_carries 352 = .ok (.iload_n 2, 1) := by decide +kernel
theorem dX5_carries_353 : decode cX5_carries 353 = .ok (.invokevirtual 219, 3) := by decide +kernel
theorem dX5_carries_356 : decode cX5_carries 356 = .ok (.istore 5, 2) := by decide +kernel
theorem dX5_carries_358 : decode cX5_carries 358 = .ok (.iconst 0, 1) := by decide +kernel
theorem dX5_carries_359 : decode cX5_carries 359 = .ok (.ireturn, 1) := by decide +kernel
theorem dX5_carries_360 : decode cX5_carries 360 = .ok (.aload_n 0, 1) := by decide +kernel
theorem dX5_carries_361 : decode cX5_carries 361 = .ok (.iload_n 2, 1) := by decide +kernel
theorem dX5_carries_362 : decode cX5_carries 362 = .ok (.invokevirtual 151, 3) := by decide +kernel
theorem dX5_carries_365 : decode cX5_carries 365 = .ok (.ifCond .eq 10, 3) := by decide +kernel
theorem dX5_carries_368 : decode cX5_carries 368 = .ok (.iload_n 3, 1) := by decide +kernel
theorem dX5_carries_369 : decode cX5_carries 369 = .ok (.invokestatic 168, 3) := by decide +kernel
theorem dX5_carries_372 : decode cX5_carries 372 = .ok (.ifCond .ne 5, 3) := by decide +kernel
theorem dX5_carries_375 : decode cX5_carries 375 = .ok (.iconst 1, 1) := by decide +kernel
theorem dX5_carries_376 : decode cX5_carries 376 = .ok (.ireturn, 1) := by decide +kernel
theorem dX5_carries_377 : decode cX5_carries 377 = .ok (.aload_n 0, 1) := by decide +kernel
theorem dX5_carries_378 : decode cX5_carries 378 = .ok (.iload_n 2, 1) := by decide +kernel
theorem dX5_carries_379 : decode cX5_carries 379 = .ok (.iload_n 3, 1) := by decide +kernel
theorem dX5_carries_380 : decode cX5_carries 380 = .ok (.invokevirtual 225, 3) := by decide +kernel
theorem dX5_carries_383 : decode cX5_carries 383 = .ok (.ifCond .eq 5, 3) := by decide +kernel
theorem dX5_carries_386 : decode cX5_carries 386 = .ok (.iconst 2, 1) := by decide +kernel
theorem dX5_carries_387 : decode cX5_carries 387 = .ok (.ireturn, 1) := by decide +kernel
theorem dX5_carries_388 : decode cX5_carries 388 = .ok (.aload_n 0, 1) := by decide +kernel
theorem dX5_carries_389 : decode cX5_carries 389 = .ok (.iload_n 2, 1) := by decide +kernel
theorem dX5_carries_390 : decode cX5_carries 390 = .ok (.iload_n 3, 1) := by decide +kernel
theorem dX5_carries_391 : decode cX5_carries 391 = .ok (.invokevirtual 228, 3) := by decide +kernel
theorem dX5_carries_394 : decode cX5_carries 394 = .ok (.istore 5, 2) := by decide +kernel
theorem dX5_carries_396 : decode cX5_carries 396 = .ok (.iconst 0, 1) := by decide +kernel
theorem dX5_carries_397 : decode cX5_carries 397 = .ok (.ireturn, 1) := by decide +kernel
theorem dX5_carries_398 : decode cX5_carries 398 = .ok (.aload_n 0, 1) := by decide +kernel
theorem dX5_carries_399 : decode cX5_carries 399 = .ok (.iload_n 2, 1) := by decide +kernel
theorem dX5_carries_400 : decode cX5_carries 400 = .ok (.invokevirtual 151, 3) := by decide +kernel
theorem dX5_carries_403 : decode cX5_carries 403 = .ok (.ifCond .eq 16, 3) := by decide +kernel
theorem dX5_carries_406 : decode cX5_carries 406 = .ok (.aload_n 0, 1) := by decide +kernel
theorem dX5_carries_407 : decode cX5_carries 407 = .ok (.iload_n 3, 1) := by decide +kernel
theorem dX5_carries_408 : decode cX5_carries 408 = .ok (.invokevirtual 151, 3) := by decide +kernel
theorem dX5_carries_411 : decode cX5_carries 411 = .ok (.ifCond .eq 8, 3) := by decide +kernel
theorem dX5_carries_414 : decode cX5_carries 414 = .ok (.iload_n 2, 1) := by decide +kernel
theorem dX5_carries_415 : decode cX5_carries 415 = .ok (.iload_n 3, 1) := by decide +kernel
theorem dX5_carries_416 : decode cX5_carries 416 = .ok (.if_icmp .ne 5, 3) := by decide +kernel
theorem dX5_carries_419 : decode cX5_carries 419 = .ok (.iconst 1, 1) := by decide +kernel
theorem dX5_carries_420 : decode cX5_carries 420 = .ok (.ireturn, 1) := by decide +kernel
theorem dX5_carries_421 : decode cX5_carries 421 = .ok (.aload_n 0, 1) := by decide +kernel
theorem dX5_carries_422 : decode cX5_carries 422 = .ok (.iload_n 2, 1) := by decide +kernel
theorem dX5_carries_423 : decode cX5_carries 423 = .ok (.iload_n 3, 1) := by decide +kernel
theorem dX5_carries_424 : decode cX5_carries 424 = .ok (.invokevirtual 234, 3) := by decide +kernel
theorem dX5_carries_427 : decode cX5_carries 427 = .ok (.ifCond .eq 5, 3) := by decide +kernel
theorem dX5_carries_430 : decode cX5_carries 430 = .ok (.iconst 2, 1) := by decide +kernel
theorem dX5_carries_431 : decode cX5_carries 431 = .ok (.ireturn, 1) := by decide +kernel
theorem dX5_carries_432 : decode cX5_carries 432 = .ok (.aload_n 0, 1) := by decide +kernel
theorem dX5_carries_433 : decode cX5_carries 433 = .ok (.iload_n 2, 1) := by decide +kernel
theorem dX5_carries_434 : decode cX5_carries 434 = .ok (.iload_n 3, 1) := by decide +kernel
theorem dX5_carries_435 : decode cX5_carries 435 = .ok (.invokevirtual 237, 3) := by decide +kernel
theorem dX5_carries_438 : decode cX5_carries 438 = .ok (.istore 5, 2) := by decide +kernel
theorem dX5_carries_440 : decode cX5_carries 440 = .ok (.iconst 0, 1) := by decide +kernel
theorem dX5_carries_441 : decode cX5_carries 441 = .ok (.ireturn, 1) := by decide +kernel
theorem dX5_carries_442 : decode cX5_carries 442 = .ok (.aload_n 0, 1) := by decide +kernel
theorem dX5_carries_443 : decode cX5_carries 443 = .ok (.iload_n 2, 1) := by decide +kernel
theorem dX5_carries_444 : decode cX5_carries 444 = .ok (.invokevirtual 151, 3) := by decide +kernel
theorem dX5_carries_447 : decode cX5_carries 447 = .ok (.ifCond .ne 5, 3) := by decide +kernel
theorem dX5_carries_450 : decode cX5_carries 450 = .ok (.iconst 1, 1) := by decide +kernel
theorem dX5_carries_451 : decode cX5_carries 451 = .ok (.ireturn, 1) := by decide +kernel
theorem dX5_carries_452 : decode cX5_carries 452 = .ok (.aload_n 0, 1) := by decide +kernel
theorem dX5_carries_453 : decode cX5_carries 453 = .ok (.iload_n 2, 1) := by decide +kernel
theorem dX5_carries_454 : decode cX5_carries 454 = .ok (.invokevirtual 240, 3) := by decide +kernel
theorem dX5_carries_457 : decode cX5_carries 457 = .ok (.ifCond .eq 5, 3) := by decide +kernel
theorem dX5_carries_460 : decode cX5_carries 460 = .ok (.iconst 2, 1) := by decide +kernel
theorem dX5_carries_461 : decode cX5_carries 461 = .ok (.ireturn, 1) := by decide +kernel
theorem dX5_carries_462 : decode cX5_carries 462 = .ok (.aload_n 0, 1) := by decide +kernel
theorem dX5_carries_463 : decode cX5_carries 463 = .ok (.iload_n 2, 1) := by decide +kernel
theorem dX5_carries_464 : decode cX5_carries 464 = .ok (.invokevirtual 243, 3) := by decide +kernel
theorem dX5_carries_467 : decode cX5_carries 467 = .ok (.istore 5, 2) := by decide +kernel
theorem dX5_carries_469 : decode cX5_carries 469 = .ok (.iconst 0, 1) := by decide +kernel
theorem dX5_carries_470 : decode cX5_carries 470 = .ok (.ireturn, 1) := by decide +kernel
theorem dX5_carries_471 : decode cX5_carries 471 = .ok (.iload_n 2, 1) := by decide +kernel
theorem dX5_carries_472 : decode cX5_carries 472 = .ok (.invokestatic 168, 3) := by decide +kernel
theorem dX5_carries_475 : decode cX5_carries 475 = .ok (.ifCond .eq 13, 3) := by decide +kernel
theorem dX5_carries_478 : decode cX5_carries 478 = .ok (.iload_n 3, 1) := by decide +kernel
theorem dX5_carries_479 : decode cX5_carries 479 = .ok (.iconst 0, 1) := by decide +kernel
theorem dX5_carries_480 : decode cX5_carries 480 = .ok (.bipush 9, 2) := by decide +kernel
theorem dX5_carries_482 : decode cX5_carries 482 = .ok (.invokestatic 92, 3) := by decide +kernel
theorem dX5_carries_485 : decode cX5_carries 485 = .ok (.ifCond .ne 5, 3) := by decide +kernel
theorem dX5_carries_488 : decode cX5_carries 488 = .ok (.iconst 1, 1) := by decide +kernel
theorem dX5_carries_489 : decode cX5_carries 489 = .ok (.ireturn, 1) := by decide +kernel
theorem dX5_carries_490 : decode cX5_carries 490 = .ok (.aload_n 0, 1) := by decide +kernel
theorem dX5_carries_491 : decode cX5_carries 491 = .ok (.iload_n 2, 1) := by decide +kernel
theorem dX5_carries_492 : decode cX5_carries 492 = .ok (.iload_n 3, 1) := by decide +kernel
theorem dX5_carries_493 : decode cX5_carries 493 = .ok (.invokevirtual 253, 3) := by decide +kernel
theorem dX5_carries_496 : decode cX5_carries 496 = .ok (.istore 5, 2) := by decide +kernel
theorem dX5_carries_498 : decode cX5_carries 498 = .ok (.iconst 0, 1) := by decide +kernel
theorem dX5_carries_499 : decode cX5_carries 499 = .ok (.ireturn, 1) := by decide +kernel
theorem dX5_carries_500 : decode cX5_carries 500 = .ok (.iload_n 2, 1) := by decide +kernel
theorem dX5_carries_501 : decode cX5_carries 501 = .ok (.invokestatic 168, 3) := by decide +kernel
theorem dX5_carries_504 : decode cX5_carries 504 = .ok (.ifCond .ne 5, 3) := by decide +kernel
theorem dX5_carries_507 : decode cX5_carries 507 = .ok (.iconst 1, 1) := by decide +kernel
theorem dX5_carries_508 : decode cX5_carries 508 = .ok (.ireturn, 1) := by decide +kernel
theorem dX5_carries_509 : decode cX5_carries 509 = .ok (.aload_n 0, 1) := by decide +kernel
theorem dX5_carries_510 : decode cX5_carries 510 = .ok (.iload_n 2, 1) := by decide +kernel
theorem dX5_carries_511 : decode cX5_carries 511 = .ok (.iload_n 3, 1) := by decide +kernel
theorem dX5_carries_512 : decode cX5_carries 512 = .ok (.aload_n 0, 1) := by decide +kernel
theorem dX5_carries_513 : decode cX5_carries 513 = .ok (.getfield 63, 3) := by decide +kernel
theorem dX5_carries_516 : decode cX5_carries 516 = .ok (.iload_n 1, 1) := by decide +kernel
theorem dX5_carries_517 : decode cX5_carries 517 = .ok (.iaload, 1) := by decide +kernel
theorem dX5_carries_518 : decode cX5_carries 518 = .ok (.bipush 98, 2) := by decide +kernel
theorem dX5_carries_520 : decode cX5_carries 520 = .ok (.if_icmp .ne 7, 3) := by decide +kernel
theorem dX5_carries_523 : decode cX5_carries 523 = .ok (.iconst 1, 1) := by decide +kernel
theorem dX5_carries_524 : decode cX5_carries 524 = .ok (.goto 4, 3) := by decide +kernel
theorem dX5_carries_527 : decode cX5_carries 527 = .ok (.iconst 0, 1) := by decide +kernel
theorem dX5_carries_528 : decode cX5_carries 528 = .ok (.invokevirtual 256, 3) := by decide +kernel
theorem dX5_carries_531 : decode cX5_carries 531 = .ok (.istore 5, 2) := by decide +kernel
theorem dX5_carries_533 : decode cX5_carries 533 = .ok (.iconst 0, 1) := by decide +kernel
theorem dX5_carries_534 : decode cX5_carries 534 = .ok (.ireturn, 1) := by decide +kernel
theorem dX5_carries_535 : decode cX5_carries 535 = .ok (.iload_n 2, 1) := by decide +kernel
theorem dX5_carries_536 : decode cX5_carries 536 = .ok (.invokestatic 168, 3) := by decide +kernel
theorem dX5_carries_539 : decode cX5_carries 539 = .ok (.ifCond .eq 15, 3) := by decide +kernel
theorem dX5_carries_542 : decode cX5_carries 542 = .ok (.iload_n 3, 1) := by decide +kernel
theorem dX5_carries_543 : decode cX5_carries 543 = .ok (.invokestatic 168, 3) := by decide +kernel
theorem dX5_carries_546 : decode cX5_carries 546 = .ok (.ifCond .eq 8, 3) := by decide +kernel
theorem dX5_carries_549 : decode cX5_carries 549 = .ok (.iload_n 2, 1) := by decide +kernel
theorem dX5_carries_550 : decode cX5_carries 550 = .ok (.iload_n 3, 1) := by decide +kernel
theorem dX5_carries_551 : decode cX5_carries 551 = .ok (.if_icmp .ne 5, 3) := by decide +kernel
theorem dX5_carries_554 : decode cX5_carries 554 = .ok (.iconst 1, 1) := by decide +kernel
theorem dX5_carries_555 : decode cX5_carries 555 = .ok (.ireturn, 1) := by decide +kernel
theorem dX5_carries_556 : decode cX5_carries 556 = .ok (.aload_n 0, 1) := by decide +kernel
theorem dX5_carries_557 : decode cX5_carries 557 = .ok (.iload_n 2, 1) := by decide +kernel
theorem dX5_carries_558 : decode cX5_carries 558 = .ok (.iload_n 3, 1) := by decide +kernel
theorem dX5_carries_559 : decode cX5_carries 559 = .ok (.invokevirtual 269, 3) := by decide +kernel
theorem dX5_carries_562 : decode cX5_carries 562 = .ok (.ifCond .eq 5, 3) := by decide +kernel
theorem dX5_carries_565 : decode cX5_carries 565 = .ok (.iconst 2, 1) := by decide +kernel
theorem dX5_carries_566 : decode cX5_carries 566 = .ok (.ireturn, 1) := by decide +kernel
theorem dX5_carries_567 : decode cX5_carries 567 = .ok (.aload_n 0, 1) := by decide +kernel
theorem dX5_carries_568 : decode cX5_carries 568 = .ok (.iload_n 2, 1) := by decide +kernel
theorem dX5_carries_569 : decode cX5_carries 569 = .ok (.iload_n 3, 1) := by decide +kernel
theorem dX5_carries_570 : decode cX5_carries 570 = .ok (.iload 4, 2) := by decide +kernel
theorem dX5_carries_572 : decode cX5_carries 572 = .ok (.invokevirtual 272, 3) := by decide +kernel
theorem dX5_carries_575 : decode cX5_carries 575 = .ok (.istore 5, 2) := by decide +kernel
theorem dX5_carries_577 : decode cX5_carries 577 = .ok (.iconst 0, 1) := by decide +kernel
theorem dX5_carries_578 : decode cX5_carries 578 = .ok (.ireturn, 1) := by decide +kernel
theorem dX5_carries_579 : decode cX5_carries 579 = .ok (.aload_n 0, 1) := by decide +kernel
theorem dX5_carries_580 : decode cX5_carries 580 = .ok (.iload_n 2, 1) := by decide +kernel
theorem dX5_carries_581 : decode cX5_carries 581 = .ok (.iload_n 3, 1) := by decide +kernel
theorem dX5_carries_582 : decode cX5_carries 582 = .ok (.invokevirtual 275, 3) := by decide +kernel
theorem dX5_carries_585 : decode cX5_carries 585 = .ok (.ifCond .le 5, 3) := by decide +kernel
theorem dX5_carries_588 : decode cX5_carries 588 = .ok (.iconst 1, 1) := by decide +kernel
theorem dX5_carries_589 : decode cX5_carries 589 = .ok (.ireturn, 1) := by decide +kernel
theorem dX5_carries_590 : decode cX5_carries 590 = .ok (.aload_n 0, 1) := by decide +kernel
theorem dX5_carries_591 : decode cX5_carries 591 = .ok (.iload_n 2, 1) := by decide +kernel
theorem dX5_carries_592 : decode cX5_carries 592 = .ok (.iload_n 3, 1) := by decide +kernel
theorem dX5_carries_593 : decode cX5_carries 593 = .ok (.iconst 0, 1) := by decide +kernel
theorem dX5_carries_594 : decode cX5_carries 594 = .ok (.invokevirtual 272, 3) := by decide +kernel
theorem dX5_carries_597 : decode cX5_carries 597 = .ok (.istore 5, 2) := by decide +kernel
theorem dX5_carries_599 : decode cX5_carries 599 = .ok (.iconst 0, 1) := by decide +kernel
theorem dX5_carries_600 : decode cX5_carries 600 = .ok (.ireturn, 1) := by decide +kernel
theorem dX5_carries_601 : decode cX5_carries 601 = .ok (.iload_n 2, 1) := by decide +kernel
theorem dX5_carries_602 : decode cX5_carries 602 = .ok (.iconst 1, 1) := by decide +kernel
theorem dX5_carries_603 : decode cX5_carries 603 = .ok (.bipush 20, 2) := by decide +kernel
theorem dX5_carries_605 : decode cX5_carries 605 = .ok (.invokestatic 92, 3) := by decide +kernel
theorem dX5_carries_608 : decode cX5_carries 608 = .ok (.ifCond .ne 5, 3) := by decide +kernel
theorem dX5_carries_611 : decode cX5_carries 611 = .ok (.iconst 1, 1) := by decide +kernel
theorem dX5_carries_612 : decode cX5_carries 612 = .ok (.ireturn, 1) := by decide +kernel
theorem dX5_carries_613 : decode cX5_carries 613 = .ok (.aload_n 0, 1) := by decide +kernel
theorem dX5_carries_614 : decode cX5_carries 614 = .ok (.iload_n 2, 1) := by decide +kernel
theorem dX5_carries_615 : decode cX5_carries 615 = .ok (.invokevirtual 278, 3) := by decide +kernel
theorem dX5_carries_618 : decode cX5_carries 618 = .ok (.istore 5, 2) := by decide +kernel
theorem dX5_carries_620 : decode cX5_carries 620 = .ok (.iconst 0, 1) := by decide +kernel
theorem dX5_carries_621 : decode cX5_carries 621 = .ok (.ireturn, 1) := by decide +kernel
theorem dX5_execute_0 : decode cX5_execute 0 = .ok (.aload_n 0, 1) := by decide +kernel
theorem dX5_execute_1 : decode cX5_execute 1 = .ok (.invokevirtual 129, 3) := by decide +kernel
theorem dX5_execute_4 : decode cX5_execute 4 = .ok (.aload_n 0, 1) := by decide +kernel
theorem dX5_execute_5 : decode cX5_execute 5 = .ok (.invokevirtual 317, 3) := by decide +kernel
theorem dX5_execute_8 : decode cX5_execute 8 = .ok (.aload_n 0, 1) := by decide +kernel
theorem dX5_execute_9 : decode cX5_execute 9 = .ok (.getfield 81, 3) := by decide +kernel
theorem dX5_execute_12 : decode cX5_execute 12 = .ok (.ifCond .eq 17, 3) := by decide +kernel
theorem dX5_execute_15 : decode cX5_execute 15 = .ok (.aload_n 0, 1) := by decide +kernel
theorem dX5_execute_16 : decode cX5_execute 16 = .ok (.aload_n 0, 1) := by decide +kernel
theorem dX5_execute_17 : decode cX5_execute 17 = .ok (.getfield 75, 3) := by decide +kernel
theorem dX5_execute_20 : decode cX5_execute 20 = .ok (.putfield 32, 3) := by decide +kernel
theorem dX5_execute_23 : decode cX5_execute 23 = .ok (.aload_n 0, 1) := by decide +kernel
theorem dX5_execute_24 : decode cX5_execute 24 = .ok (.iconst 1, 1) := by decide +kernel
theorem dX5_execute_25 : decode cX5_execute 25 = .ok (.invokevirtual 88, 3) := by decide +kernel
theorem dX5_execute_28 : decode cX5_execute 28 = .ok (.ireturn, 1) := by decide +kernel
theorem dX5_execute_29 : decode cX5_execute 29 = .ok (.iconst 0, 1) := by decide +kernel
theorem dX5_execute_30 : decode cX5_execute 30 = .ok (.istore_n 1, 1) := by decide +kernel
theorem dX5_execute_31 : decode cX5_execute 31 = .ok (.iload_n 1, 1) := by decide +kernel
theorem dX5_execute_32 : decode cX5_execute 32 = .ok (.aload_n 0, 1) := by decide +kernel
theorem dX5_execute_33 : decode cX5_execute 33 = .ok (.getfield 78, 3) := by decide +kernel
theorem dX5_execute_36 : decode cX5_execute 36 = .ok (.if_icmp .ge 71, 3) := by decide +kernel
theorem dX5_execute_39 : decode cX5_execute 39 = .ok (.aload_n 0, 1) := by decide +kernel
theorem dX5_execute_40 : decode cX5_execute 40 = .ok (.iload_n 1, 1) := by decide +kernel
theorem dX5_execute_41 : decode cX5_execute 41 = .ok (.invokevirtual 320, 3) := by decide +kernel
theorem dX5_execute_44 : decode cX5_execute 44 = .ok (.istore_n 2, 1) := by decide +kernel
theorem dX5_execute_45 : decode cX5_execute 45 = .ok (.iload_n 2, 1) := by decide +kernel
theorem dX5_execute_46 : decode cX5_execute 46 = .ok (.ifCond .ne 6, 3) := by decide +kernel
theorem dX5_execute_49 : decode cX5_execute 49 = .ok (.goto 52, 3) := by decide +kernel
theorem dX5_execute_52 : decode cX5_execute 52 = .ok (.aload_n 0, 1) := by decide +kernel
theorem dX5_execute_53 : decode cX5_execute 53 = .ok (.getfield 13, 3) := by decide +kernel
theorem dX5_execute_56 : decode cX5_execute 56 = .ok (.iconst 0, 1) := by decide +kernel
theorem dX5_execute_57 : decode cX5_execute 57 = .ok (.aload_n 0, 1) := by decide +kernel
theorem dX5_execute_58 : decode cX5_execute 58 = .ok (.getfield 7, 3) := by decide +kernel
theorem dX5_execute_61 : decode cX5_execute 61 = .ok (.iconst 0, 1) := by decide +kernel
theorem dX5_execute_62 : decode cX5_execute 62 = .ok (.invokestatic 84, 3) := by decide +kernel
theorem dX5_execute_65 : decode cX5_execute 65 = .ok (.iload_n 2, 1) := by decide +kernel
theorem dX5_execute_66 : decode cX5_execute 66 = .ok (.iconst 1, 1) := by decide +kernel
theorem dX5_execute_67 : decode cX5_execute 67 = .ok (.if_icmp .ne 9, 3) := by decide +kernel
theorem dX5_execute_70 : decode cX5_execute 70 = .ok (.aload_n 0, 1) := by decide +kernel
theorem dX5_execute_71 : decode cX5_execute 71 = .ok (.iconst 2, 1) := by decide +kernel
theorem dX5_execute_72 : decode cX5_execute 72 = .ok (.invokevirtual 88, 3) := by decide +kernel
theorem dX5_execute_75 : decode cX5_execute 75 = .ok (.ireturn, 1) := by decide +kernel
theorem dX5_execute_76 : decode cX5_execute 76 = .ok (.aload_n 0, 1) := by decide +kernel
theorem dX5_execute_77 : decode cX5_execute 77 = .ok (.bipush 17, 2) := by decide +kernel
theorem dX5_execute_79 : decode cX5_execute 79 = .ok (.putfield 35, 3) := by decide +kernel
theorem dX5_execute_82 : decode cX5_execute 82 = .ok (.aload_n 0, 1) := by decide +kernel
theorem dX5_execute_83 : decode cX5_execute 83 = .ok (.iload_n 1, 1) := by decide +kernel
theorem dX5_execute_84 : decode cX5_execute 84 = .ok (.putfield 38, 3) := by decide +kernel
theorem dX5_execute_87 : decode cX5_execute 87 = .ok (.aload_n 0, 1) := by decide +kernel
theorem dX5_execute_88 : decode cX5_execute 88 = .ok (.aload_n 0, 1) := by decide +kernel
theorem dX5_execute_89 : decode cX5_execute 89 = .ok (.getfield 44, 3) := by decide +kernel
theorem dX5_execute_92 : decode cX5_execute 92 = .ok (.putfield 41, 3) := by decide +kernel
theorem dX5_execute_95 : decode cX5_execute 95 = .ok (.aload_n 0, 1) := by decide +kernel
theorem dX5_execute_96 : decode cX5_execute 96 = .ok (.iconst 3, 1) := by decide +kernel
theorem dX5_execute_97 : decode cX5_execute 97 = .ok (.invokevirtual 88, 3) := by decide +kernel
theorem dX5_execute_100 : decode cX5_execute 100 = .ok (.ireturn, 1) := by decide +kernel
theorem dX5_execute_101 : decode cX5_execute 101 = .ok (.iinc 1 1, 3) := by decide +kernel
theorem dX5_execute_104 : decode cX5_execute 104 = .ok (.goto (-73), 3) := by decide +kernel
theorem dX5_execute_107 : decode cX5_execute 107 = .ok (.aload_n 0, 1) := by decide +kernel
theorem dX5_execute_108 : decode cX5_execute 108 = .ok (.aload_n 0, 1) := by decide +kernel
theorem dX5_execute_109 : decode cX5_execute 109 = .ok (.getfield 78, 3) := by decide +kernel
theorem dX5_execute_112 : decode cX5_execute 112 = .ok (.invokevirtual 145, 3) := by decide +kernel
theorem dX5_execute_115 : decode cX5_execute 115 = .ok (.ireturn, 1) := by decide +kernel
theorem dX5_present_0 : decode cX5_present 0 = .ok (.aload_n 0, 1) := by decide +kernel
theorem dX5_present_1 : decode cX5_present 1 = .ok (.iload_n 1, 1) := by decide +kernel
theorem dX5_present_2 : decode cX5_present 2 = .ok (.invokevirtual 154, 3) := by decide +kernel
theorem dX5_present_5 : decode cX5_present 5 = .ok (.ifCond .le 7, 3) := by decide +kernel
theorem dX5_present_8 : decode cX5_present 8 = .ok (.iconst 0, 1) := by decide +kernel
theorem dX5_present_9 : decode cX5_present 9 = .ok (.goto 4, 3) := by decide +kernel
theorem dX5_present_12 : decode cX5_present 12 = .ok (.iload_n 2, 1) := by decide +kernel
theorem dX5_present_13 : decode cX5_present 13 = .ok (.ireturn, 1) := by decide +kernel
theorem dX5_syntaxErrorOffset_0 : decode cX5_syntaxErrorOffset 0 = .ok (.aload_n 0, 1) := by decide +kernel
theorem dX5_syntaxErrorOffset_1 : decode cX5_syntaxErrorOffset 1 = .ok (.aload_n 0, 1) := by decide +kernel
theorem dX5_syntaxErrorOffset_2 : decode cX5_syntaxErrorOffset 2 = .ok (.getfield 32, 3) := by decide +kernel
theorem dX5_syntaxErrorOffset_5 : decode cX5_syntaxErrorOffset 5 = .ok (.ifCond .lt 7, 3) := by decide +kernel
theorem dX5_syntaxErrorOffset_8 : decode cX5_syntaxErrorOffset 8 = .ok (.iconst 1, 1) := by decide +kernel
theorem dX5_syntaxErrorOffset_9 : decode cX5_syntaxErrorOffset 9 = .ok (.goto 4, 3) := by decide +kernel
theorem dX5_syntaxErrorOffset_12 : decode cX5_syntaxErrorOffset 12 = .ok (.iconst 0, 1) := by decide +kernel
theorem dX5_syntaxErrorOffset_13 : decode cX5_syntaxErrorOffset 13 = .ok (.aload_n 0, 1) := by decide +kernel
theorem dX5_syntaxErrorOffset_14 : decode cX5_syntaxErrorOffset 14 = .ok (.getfield 32, 3) := by decide +kernel
theorem dX5_syntaxErrorOffset_17 : decode cX5_syntaxErrorOffset 17 = .ok (.invokevirtual 323, 3) := by decide +kernel
theorem dX5_syntaxErrorOffset_20 : decode cX5_syntaxErrorOffset 20 = .ok (.ireturn, 1) := by decide +kernel
theorem dX5_rejectionReason_0 : decode cX5_rejectionReason 0 = .ok (.aload_n 0, 1) := by decide +kernel
theorem dX5_rejectionReason_1 : decode cX5_rejectionReason 1 = .ok (.aload_n 0, 1) := by decide +kernel
theorem dX5_rejectionReason_2 : decode cX5_rejectionReason 2 = .ok (.getfield 35, 3) := by decide +kernel
theorem dX5_rejectionReason_5 : decode cX5_rejectionReason 5 = .ok (.ifCond .le 7, 3) := by decide +kernel
theorem dX5_rejectionReason_8 : decode cX5_rejectionReason 8 = .ok (.iconst 1, 1) := by decide +kernel
theorem dX5_rejectionReason_9 : decode cX5_rejectionReason 9 = .ok (.goto 4, 3) := by decide +kernel
theorem dX5_rejectionReason_12 : decode cX5_rejectionReason 12 = .ok (.iconst 0, 1) := by decide +kernel
theorem dX5_rejectionReason_13 : decode cX5_rejectionReason 13 = .ok (.aload_n 0, 1) := by decide +kernel
theorem dX5_rejectionReason_14 : decode cX5_rejectionReason 14 = .ok (.getfield 35, 3) := by decide +kernel
theorem dX5_rejectionReason_17 : decode cX5_rejectionReason 17 = .ok (.invokevirtual 323, 3) := by decide +kernel
theorem dX5_rejectionReason_20 : decode cX5_rejectionReason 20 = .ok (.ireturn, 1) := by decide +kernel
theorem dX5_rejectionDetail_0 : decode cX5_rejectionDetail 0 = .ok (.aload_n 0, 1) := by decide +kernel
theorem dX5_rejectionDetail_1 : decode cX5_rejectionDetail 1 = .ok (.aload_n 0, 1) := by decide +kernel
theorem dX5_rejectionDetail_2 : decode cX5_rejectionDetail 2 = .ok (.getfield 35, 3) := by decide +kernel
theorem dX5_rejectionDetail_5 : decode cX5_rejectionDetail 5 = .ok (.ifCond .le 7, 3) := by decide +kernel
theorem dX5_rejectionDetail_8 : decode cX5_rejectionDetail 8 = .ok (.iconst 1, 1) := by decide +kernel
theorem dX5_rejectionDetail_9 : decode cX5_rejectionDetail 9 = .ok (.goto 4, 3) := by decide +kernel
theorem dX5_rejectionDetail_12 : decode cX5_rejectionDetail 12 = .ok (.iconst 0, 1) := by decide +kernel
theorem dX5_rejectionDetail_13 : decode cX5_rejectionDetail 13 = .ok (.aload_n 0, 1) := by decide +kernel
theorem dX5_rejectionDetail_14 : decode cX5_rejectionDetail 14 = .ok (.getfield 38, 3) := by decide +kernel
theorem dX5_rejectionDetail_17 : decode cX5_rejectionDetail 17 = .ok (.invokevirtual 323, 3) := by decide +kernel
theorem dX5_rejectionDetail_20 : decode cX5_rejectionDetail 20 = .ok (.ireturn, 1) := by decide +kernel
theorem dX5_causeReason_0 : decode cX5_causeReason 0 = .ok (.aload_n 0, 1) := by decide +kernel
theorem dX5_causeReason_1 : decode cX5_causeReason 1 = .ok (.aload_n 0, 1) := by decide +kernel
theorem dX5_causeReason_2 : decode cX5_causeReason 2 = .ok (.getfield 35, 3) := by decide +kernel
theorem dX5_causeReason_5 : decode cX5_causeReason 5 = .ok (.bipush 17, 2) := by decide +kernel
theorem dX5_causeReason_7 : decode cX5_causeReason 7 = .ok (.if_icmp .ne 7, 3) := by decide +kernel
theorem dX5_causeReason_10 : decode cX5_causeReason 10 = .ok (.iconst 1, 1) := by decide +kernel
theorem dX5_causeReason_11 : decode cX5_causeReason 11 = .ok (.goto 4, 3) := by decide +kernel
theorem dX5_causeReason_14 : decode cX5_causeReason 14 = .ok (.iconst 0, 1) := by decide +kernel
theorem dX5_causeReason_15 : decode cX5_causeReason 15 = .ok (.aload_n 0, 1) := by decide +kernel
theorem dX5_causeReason_16 : decode cX5_causeReason 16 = .ok (.getfield 41, 3) := by decide +kernel
theorem dX5_causeReason_19 : decode cX5_causeReason 19 = .ok (.invokevirtual 323, 3) := by decide +kernel
theorem dX5_causeReason_22 : decode cX5_causeReason 22 = .ok (.ireturn, 1) := by decide +kernel
theorem dX5_undo_0 : decode cX5_undo 0 = .ok (.aload_n 0, 1) := by decide +kernel
theorem dX5_undo_1 : decode cX5_undo 1 = .ok (.aload_n 0, 1) := by decide +kernel
theorem dX5_undo_2 : decode cX5_undo 2 = .ok (.getfield 29, 3) := by decide +kernel
theorem dX5_undo_5 : decode cX5_undo 5 = .ok (.ifCond .le 7, 3) := by decide +kernel
theorem dX5_undo_8 : decode cX5_undo 8 = .ok (.iconst 1, 1) := by decide +kernel
theorem dX5_undo_9 : decode cX5_undo 9 = .ok (.goto 4, 3) := by decide +kernel
theorem dX5_undo_12 : decode cX5_undo 12 = .ok (.iconst 0, 1) := by decide +kernel
theorem dX5_undo_13 : decode cX5_undo 13 = .ok (.invokevirtual 154, 3) := by decide +kernel
theorem dX5_undo_16 : decode cX5_undo 16 = .ok (.ifCond .le 5, 3) := by decide +kernel
theorem dX5_undo_19 : decode cX5_undo 19 = .ok (.iconst 0, 1) := by decide +kernel
theorem dX5_undo_20 : decode cX5_undo 20 = .ok (.ireturn, 1) := by decide +kernel
theorem dX5_undo_21 : decode cX5_undo 21 = .ok (.aload_n 0, 1) := by decide +kernel
theorem dX5_undo_22 : decode cX5_undo 22 = .ok (.dup, 1) := by decide +kernel
theorem dX5_undo_23 : decode cX5_undo 23 = .ok (.getfield 29, 3) := by decide +kernel
theorem dX5_undo_26 : decode cX5_undo 26 = .ok (.iconst 1, 1) := by decide +kernel
theorem dX5_undo_27 : decode cX5_undo 27 = .ok (.isub, 1) := by decide +kernel
theorem dX5_undo_28 : decode cX5_undo 28 = .ok (.putfield 29, 3) := by decide +kernel
theorem dX5_undo_31 : decode cX5_undo 31 = .ok (.aload_n 0, 1) := by decide +kernel
theorem dX5_undo_32 : decode cX5_undo 32 = .ok (.getfield 22, 3) := by decide +kernel
theorem dX5_undo_35 : decode cX5_undo 35 = .ok (.sipush 160, 3) := by decide +kernel
theorem dX5_undo_38 : decode cX5_undo 38 = .ok (.aload_n 0, 1) := by decide +kernel
theorem dX5_undo_39 : decode cX5_undo 39 = .ok (.getfield 29, 3) := by decide +kernel
theorem dX5_undo_42 : decode cX5_undo 42 = .ok (.imul, 1) := by decide +kernel
theorem dX5_undo_43 : decode cX5_undo 43 = .ok (.aload_n 0, 1) := by decide +kernel
theorem dX5_undo_44 : decode cX5_undo 44 = .ok (.getfield 7, 3) := by decide +kernel
theorem dX5_undo_47 : decode cX5_undo 47 = .ok (.iconst 0, 1) := by decide +kernel
theorem dX5_undo_48 : decode cX5_undo 48 = .ok (.invokestatic 84, 3) := by decide +kernel
theorem dX5_undo_51 : decode cX5_undo 51 = .ok (.aload_n 0, 1) := by decide +kernel
theorem dX5_undo_52 : decode cX5_undo 52 = .ok (.getfield 29, 3) := by decide +kernel
theorem dX5_undo_55 : decode cX5_undo 55 = .ok (.ireturn, 1) := by decide +kernel
theorem dX5_saveSnapshot_0 : decode cX5_saveSnapshot 0 = .ok (.aload_n 0, 1) := by decide +kernel
theorem dX5_saveSnapshot_1 : decode cX5_saveSnapshot 1 = .ok (.iconst 0, 1) := by decide +kernel
theorem dX5_saveSnapshot_2 : decode cX5_saveSnapshot 2 = .ok (.putfield 25, 3) := by decide +kernel
theorem dX5_saveSnapshot_5 : decode cX5_saveSnapshot 5 = .ok (.aload_n 0, 1) := by decide +kernel
theorem dX5_saveSnapshot_6 : decode cX5_saveSnapshot 6 = .ok (.getfield 7, 3) := by decide +kernel
theorem dX5_saveSnapshot_9 : decode cX5_saveSnapshot 9 = .ok (.iconst 0, 1) := by decide +kernel
theorem dX5_saveSnapshot_10 : decode cX5_saveSnapshot 10 = .ok (.aload_n 0, 1) := by decide +kernel
theorem dX5_saveSnapshot_11 : decode cX5_saveSnapshot 11 = .ok (.getfield 19, 3) := by decide +kernel
theorem dX5_saveSnapshot_14 : decode cX5_saveSnapshot 14 = .ok (.iconst 0, 1) := by decide +kernel
theorem dX5_saveSnapshot_15 : decode cX5_saveSnapshot 15 = .ok (.invokestatic 84, 3) := by decide +kernel
theorem dX5_saveSnapshot_18 : decode cX5_saveSnapshot 18 = .ok (.aload_n 0, 1) := by decide +kernel
theorem dX5_saveSnapshot_19 : decode cX5_saveSnapshot 19 = .ok (.iconst 1, 1) := by decide +kernel
theorem dX5_saveSnapshot_20 : decode cX5_saveSnapshot 20 = .ok (.putfield 50, 3) := by decide +kernel
theorem dX5_saveSnapshot_23 : decode cX5_saveSnapshot 23 = .ok (.aload_n 0, 1) := by decide +kernel
theorem dX5_saveSnapshot_24 : decode cX5_saveSnapshot 24 = .ok (.getfield 7, 3) := by decide +kernel
theorem dX5_saveSnapshot_27 : decode cX5_saveSnapshot 27 = .ok (.iconst 0, 1) := by decide +kernel
theorem dX5_saveSnapshot_28 : decode cX5_saveSnapshot 28 = .ok (.iaload, 1) := by decide +kernel
theorem dX5_saveSnapshot_29 : decode cX5_saveSnapshot 29 = .ok (.ireturn, 1) := by decide +kernel
theorem dX5_restoreSnapshot_0 : decode cX5_restoreSnapshot 0 = .ok (.aload_n 0, 1) := by decide +kernel
theorem dX5_restoreSnapshot_1 : decode cX5_restoreSnapshot 1 = .ok (.aload_n 0, 1) := by decide +kernel
theorem dX5_restoreSnapshot_2 : decode cX5_restoreSnapshot 2 = .ok (.getfield 50, 3) := by decide +kernel
theorem dX5_restoreSnapshot_5 : decode cX5_restoreSnapshot 5 = .ok (.invokevirtual 154, 3) := by decide +kernel
theorem dX5_restoreSnapshot_8 : decode cX5_restoreSnapshot 8 = .ok (.ifCond .le 5, 3) := by decide +kernel
theorem dX5_restoreSnapshot_11 : decode cX5_restoreSnapshot 11 = .ok (.iconst 0, 1) := by decide +kernel
theorem dX5_restoreSnapshot_12 : decode cX5_restoreSnapshot 12 = .ok (.ireturn, 1) := by decide +kernel
theorem dX5_restoreSnapshot_13 : decode cX5_restoreSnapshot 13 = .ok (.aload_n 0, 1) := by decide +kernel
theorem dX5_restoreSnapshot_14 : decode cX5_restoreSnapshot 14 = .ok (.getfield 19, 3) := by decide +kernel
theorem dX5_restoreSnapshot_17 : decode cX5_restoreSnapshot 17 = .ok (.iconst 0, 1) := by decide +kernel
theorem dX5_restoreSnapshot_18 : decode cX5_restoreSnapshot 18 = .ok (.aload_n 0, 1) := by decide +kernel
theorem dX5_restoreSnapshot_19 : decode cX5_restoreSnapshot 19 = .ok (.getfield 7, 3) := by decide +kernel
theorem dX5_restoreSnapshot_22 : decode cX5_restoreSnapshot 22 = .ok (.iconst 0, 1) := by decide +kernel
theorem dX5_restoreSnapshot_23 : decode cX5_restoreSnapshot 23 = .ok (.invokestatic 84, 3) := by decide +kernel
theorem dX5_restoreSnapshot_26 : decode cX5_restoreSnapshot 26 = .ok (.aload_n 0, 1) := by decide +kernel
theorem dX5_restoreSnapshot_27 : decode cX5_restoreSnapshot 27 = .ok (.iconst 0, 1) := by decide +kernel
theorem dX5_restoreSnapshot_28 : decode cX5_restoreSnapshot 28 = .ok (.putfield 29, 3) := by decide +kernel
theorem dX5_restoreSnapshot_31 : decode cX5_restoreSnapshot 31 = .ok (.aload_n 0, 1) := by decide +kernel
theorem dX5_restoreSnapshot_32 : decode cX5_restoreSnapshot 32 = .ok (.getfield 7, 3) := by decide +kernel
theorem dX5_restoreSnapshot_35 : decode cX5_restoreSnapshot 35 = .ok (.iconst 0, 1) := by decide +kernel
theorem dX5_restoreSnapshot_36 : decode cX5_restoreSnapshot 36 = .ok (.iaload, 1) := by decide +kernel
theorem dX5_restoreSnapshot_37 : decode cX5_restoreSnapshot 37 = .ok (.ireturn, 1) := by decide +kernel
