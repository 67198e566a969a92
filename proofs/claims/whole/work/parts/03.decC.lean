theorem dX0_init_0 : decode cX0_init 0 = .ok (.aload_n 0, 1) := by decide +kernel
theorem dX0_init_1 : decode cX0_init 1 = .ok (.invokespecial 5, 3) := by decide +kernel
theorem dX0_init_4 : decode cX0_init 4 = .ok (.aload_n 0, 1) := by decide +kernel
theorem dX0_init_5 : decode cX0_init 5 = .ok (.sipush 4500, 3) := by decide +kernel
theorem dX0_init_8 : decode cX0_init 8 = .ok (.newarray .int, 2) := by decide +kernel
theorem dX0_init_10 : decode cX0_init 10 = .ok (.putfield 13, 3) := by decide +kernel
theorem dX0_init_13 : decode cX0_init 13 = .ok (.aload_n 0, 1) := by decide +kernel
theorem dX0_init_14 : decode cX0_init 14 = .ok (.sipush 1501, 3) := by decide +kernel
theorem dX0_init_17 : decode cX0_init 17 = .ok (.newarray .int, 2) := by decide +kernel
theorem dX0_init_19 : decode cX0_init 19 = .ok (.putfield 19, 3) := by decide +kernel
theorem dX0_init_22 : decode cX0_init 22 = .ok (.aload_n 0, 1) := by decide +kernel
theorem dX0_init_23 : decode cX0_init 23 = .ok (.bipush 40, 2) := by decide +kernel
theorem dX0_init_25 : decode cX0_init 25 = .ok (.newarray .int, 2) := by decide +kernel
theorem dX0_init_27 : decode cX0_init 27 = .ok (.putfield 22, 3) := by decide +kernel
theorem dX0_init_30 : decode cX0_init 30 = .ok (.aload_n 0, 1) := by decide +kernel
theorem dX0_init_31 : decode cX0_init 31 = .ok (.bipush 40, 2) := by decide +kernel
theorem dX0_init_33 : decode cX0_init 33 = .ok (.newarray .int, 2) := by decide +kernel
theorem dX0_init_35 : decode cX0_init 35 = .ok (.putfield 25, 3) := by decide +kernel
theorem dX0_init_38 : decode cX0_init 38 = .ok (.aload_n 0, 1) := by decide +kernel
theorem dX0_init_39 : decode cX0_init 39 = .ok (.bipush 40, 2) := by decide +kernel
theorem dX0_init_41 : decode cX0_init 41 = .ok (.newarray .int, 2) := by decide +kernel
theorem dX0_init_43 : decode cX0_init 43 = .ok (.putfield 28, 3) := by decide +kernel
theorem dX0_init_46 : decode cX0_init 46 = .ok (.aload_n 0, 1) := by decide +kernel
theorem dX0_init_47 : decode cX0_init 47 = .ok (.sipush 290, 3) := by decide +kernel
theorem dX0_init_50 : decode cX0_init 50 = .ok (.newarray .int, 2) := by decide +kernel
theorem dX0_init_52 : decode cX0_init 52 = .ok (.putfield 31, 3) := by decide +kernel
theorem dX0_init_55 : decode cX0_init 55 = .ok (.aload_n 0, 1) := by decide +kernel
theorem dX0_init_56 : decode cX0_init 56 = .ok (.aload_n 1, 1) := by decide +kernel
theorem dX0_init_57 : decode cX0_init 57 = .ok (.putfield 34, 3) := by decide +kernel
theorem dX0_init_60 : decode cX0_init 60 = .ok (.aload_n 0, 1) := by decide +kernel
theorem dX0_init_61 : decode cX0_init 61 = .ok (.aload_n 2, 1) := by decide +kernel
theorem dX0_init_62 : decode cX0_init 62 = .ok (.putfield 38, 3) := by decide +kernel
theorem dX0_init_65 : decode cX0_init 65 = .ok (.aload_n 0, 1) := by decide +kernel
theorem dX0_init_66 : decode cX0_init 66 = .ok (.aload_n 3, 1) := by decide +kernel
theorem dX0_init_67 : decode cX0_init 67 = .ok (.putfield 42, 3) := by decide +kernel
theorem dX0_init_70 : decode cX0_init 70 = .ok (.return_, 1) := by decide +kernel
theorem dX0_make_0 : decode cX0_make 0 = .ok (.aload_n 0, 1) := by decide +kernel
theorem dX0_make_1 : decode cX0_make 1 = .ok (.getfield 38, 3) := by decide +kernel
theorem dX0_make_4 : decode cX0_make 4 = .ok (.getfield 46, 3) := by decide +kernel
theorem dX0_make_7 : decode cX0_make 7 = .ok (.sipush 250, 3) := by decide +kernel
theorem dX0_make_10 : decode cX0_make 10 = .ok (.if_icmp .gt 26, 3) := by decide +kernel
theorem dX0_make_13 : decode cX0_make 13 = .ok (.aload_n 0, 1) := by decide +kernel
theorem dX0_make_14 : decode cX0_make 14 = .ok (.getfield 38, 3) := by decide +kernel
theorem dX0_make_17 : decode cX0_make 17 = .ok (.getfield 50, 3) := by decide +kernel
theorem dX0_make_20 : decode cX0_make 20 = .ok (.iload_n 1, 1) := by decide +kernel
theorem dX0_make_21 : decode cX0_make 21 = .ok (.iaload, 1) := by decide +kernel
theorem dX0_make_22 : decode cX0_make 22 = .ok (.aload_n 0, 1) := by decide +kernel
theorem dX0_make_23 : decode cX0_make 23 = .ok (.getfield 38, 3) := by decide +kernel
theorem dX0_make_26 : decode cX0_make 26 = .ok (.getfield 53, 3) := by decide +kernel
theorem dX0_make_29 : decode cX0_make 29 = .ok (.iadd, 1) := by decide +kernel
theorem dX0_make_30 : decode cX0_make 30 = .ok (.sipush 3000, 3) := by decide +kernel
theorem dX0_make_33 : decode cX0_make 33 = .ok (.if_icmp .le 5, 3) := by decide +kernel
theorem dX0_make_36 : decode cX0_make 36 = .ok (.iconst 0, 1) := by decide +kernel
theorem dX0_make_37 : decode cX0_make 37 = .ok (.ireturn, 1) := by decide +kernel
theorem dX0_make_38 : decode cX0_make 38 = .ok (.aload_n 0, 1) := by decide +kernel
theorem dX0_make_39 : decode cX0_make 39 = .ok (.getfield 42, 3) := by decide +kernel
theorem dX0_make_42 : decode cX0_make 42 = .ok (.invokevirtual 56, 3) := by decide +kernel
theorem dX0_make_45 : decode cX0_make 45 = .ok (.aload_n 0, 1) := by decide +kernel
theorem dX0_make_46 : decode cX0_make 46 = .ok (.iconst 0, 1) := by decide +kernel
theorem dX0_make_47 : decode cX0_make 47 = .ok (.putfield 61, 3) := by decide +kernel
theorem dX0_make_50 : decode cX0_make 50 = .ok (.aload_n 0, 1) := by decide +kernel
theorem dX0_make_51 : decode cX0_make 51 = .ok (.iconst 0, 1) := by decide +kernel
theorem dX0_make_52 : decode cX0_make 52 = .ok (.putfield 64, 3) := by decide +kernel
theorem dX0_make_55 : decode cX0_make 55 = .ok (.aload_n 0, 1) := by decide +kernel
theorem dX0_make_56 : decode cX0_make 56 = .ok (.iconst 0, 1) := by decide +kernel
theorem dX0_make_57 : decode cX0_make 57 = .ok (.putfield 68, 3) := by decide +kernel
theorem dX0_make_60 : decode cX0_make 60 = .ok (.aload_n 0, 1) := by decide +kernel
theorem dX0_make_61 : decode cX0_make 61 = .ok (.iconst 0, 1) := by decide +kernel
theorem dX0_make_62 : decode cX0_make 62 = .ok (.putfield 71, 3) := by decide +kernel
theorem dX0_make_65 : decode cX0_make 65 = .ok (.aload_n 0, 1) := by decide +kernel
theorem dX0_make_66 : decode cX0_make 66 = .ok (.iconst 0, 1) := by decide +kernel
theorem dX0_make_67 : decode cX0_make 67 = .ok (.putfield 74, 3) := by decide +kernel
theorem dX0_make_70 : decode cX0_make 70 = .ok (.iconst 0, 1) := by decide +kernel
theorem dX0_make_71 : decode cX0_make 71 = .ok (.istore_n 2, 1) := by decide +kernel
theorem dX0_make_72 : decode cX0_make 72 = .ok (.iload_n 2, 1) := by decide +kernel
theorem dX0_make_73 : decode cX0_make 73 = .ok (.aload_n 0, 1) := by decide +kernel
theorem dX0_make_74 : decode cX0_make 74 = .ok (.getfield 38, 3) := by decide +kernel
theorem dX0_make_77 : decode cX0_make 77 = .ok (.getfield 53, 3) := by decide +kernel
theorem dX0_make_80 : decode cX0_make 80 = .ok (.if_icmp .ge 27, 3) := by decide +kernel
theorem dX0_make_83 : decode cX0_make 83 = .ok (.aload_n 0, 1) := by decide +kernel
theorem dX0_make_84 : decode cX0_make 84 = .ok (.getfield 19, 3) := by decide +kernel
theorem dX0_make_87 : decode cX0_make 87 = .ok (.aload_n 0, 1) := by decide +kernel
theorem dX0_make_88 : decode cX0_make 88 = .ok (.getfield 38, 3) := by decide +kernel
theorem dX0_make_91 : decode cX0_make 91 = .ok (.getfield 77, 3) := by decide +kernel
theorem dX0_make_94 : decode cX0_make 94 = .ok (.iload_n 2, 1) := by decide +kernel
theorem dX0_make_95 : decode cX0_make 95 = .ok (.iaload, 1) := by decide +kernel
theorem dX0_make_96 : decode cX0_make 96 = .ok (.aload_n 0, 1) := by decide +kernel
theorem dX0_make_97 : decode cX0_make 97 = .ok (.invokevirtual 80, 3) := by decide +kernel
theorem dX0_make_100 : decode cX0_make 100 = .ok (.iastore, 1) := by decide +kernel
theorem dX0_make_101 : decode cX0_make 101 = .ok (.iinc 2 1, 3) := by decide +kernel
theorem dX0_make_104 : decode cX0_make 104 = .ok (.goto (-32), 3) := by decide +kernel
theorem dX0_make_107 : decode cX0_make 107 = .ok (.aload_n 0, 1) := by decide +kernel
theorem dX0_make_108 : decode cX0_make 108 = .ok (.iconst 0, 1) := by decide +kernel
theorem dX0_make_109 : decode cX0_make 109 = .ok (.iload_n 1, 1) := by decide +kernel
theorem dX0_make_110 : decode cX0_make 110 = .ok (.invokevirtual 84, 3) := by decide +kernel
theorem dX0_make_113 : decode cX0_make 113 = .ok (.iconst 0, 1) := by decide +kernel
theorem dX0_make_114 : decode cX0_make 114 = .ok (.istore_n 2, 1) := by decide +kernel
theorem dX0_make_115 : decode cX0_make 115 = .ok (.iload_n 2, 1) := by decide +kernel
theorem dX0_make_116 : decode cX0_make 116 = .ok (.ldc 88, 2) := by decide +kernel
theorem dX0_make_118 : decode cX0_make 118 = .ok (.if_icmp .ge 60, 3) := by decide +kernel
theorem dX0_make_121 : decode cX0_make 121 = .ok (.aload_n 0, 1) := by decide +kernel
theorem dX0_make_122 : decode cX0_make 122 = .ok (.getfield 61, 3) := by decide +kernel
theorem dX0_make_125 : decode cX0_make 125 = .ok (.ifCond .le 53, 3) := by decide +kernel
theorem dX0_make_128 : decode cX0_make 128 = .ok (.aload_n 0, 1) := by decide +kernel
theorem dX0_make_129 : decode cX0_make 129 = .ok (.getfield 64, 3) := by decide +kernel
theorem dX0_make_132 : decode cX0_make 132 = .ok (.ifCond .ne 46, 3) := by decide +kernel
theorem dX0_make_135 : decode cX0_make 135 = .ok (.aload_n 0, 1) := by decide +kernel
theorem dX0_make_136 : decode cX0_make 136 = .ok (.dup, 1) := by decide +kernel
theorem dX0_make_137 : decode cX0_make 137 = .ok (.getfield 61, 3) := by decide +kernel
theorem dX0_make_140 : decode cX0_make 140 = .ok (.iconst 1, 1) := by decide +kernel
theorem dX0_make_141 : decode cX0_make 141 = .ok (.isub, 1) := by decide +kernel
theorem dX0_make_142 : decode cX0_make 142 = .ok (.putfield 61, 3) := by decide +kernel
theorem dX0_make_145 : decode cX0_make 145 = .ok (.aload_n 0, 1) := by decide +kernel
theorem dX0_make_146 : decode cX0_make 146 = .ok (.aload_n 0, 1) := by decide +kernel
theorem dX0_make_147 : decode cX0_make 147 = .ok (.getfield 13, 3) := by decide +kernel
theorem dX0_make_150 : decode cX0_make 150 = .ok (.aload_n 0, 1) := by decide +kernel
theorem dX0_make_151 : decode cX0_make 151 = .ok (.getfield 61, 3) := by decide +kernel
theorem dX0_make_154 : decode cX0_make 154 = .ok (.iaload, 1) := by decide +kernel
theorem dX0_make_155 : decode cX0_make 155 = .ok (.bipush 7, 2) := by decide +kernel
theorem dX0_make_157 : decode cX0_make 157 = .ok (.iand, 1) := by decide +kernel
theorem dX0_make_158 : decode cX0_make 158 = .ok (.aload_n 0, 1) := by decide +kernel
theorem dX0_make_159 : decode cX0_make 159 = .ok (.getfield 13, 3) := by decide +kernel
theorem dX0_make_162 : decode cX0_make 162 = .ok (.aload_n 0, 1) := by decide +kernel
theorem dX0_make_163 : decode cX0_make 163 = .ok (.getfield 61, 3) := by decide +kernel
theorem dX0_make_166 : decode cX0_make 166 = .ok (.iaload, 1) := by decide +kernel
theorem dX0_make_167 : decode cX0_make 167 = .ok (.iconst 3, 1) := by decide +kernel
theorem dX0_make_168 : decode cX0_make 168 = .ok (.ishr, 1) := by decide +kernel
theorem dX0_make_169 : decode cX0_make 169 = .ok (.invokevirtual 89, 3) := by decide +kernel
theorem dX0_make_172 : decode cX0_make 172 = .ok (.iinc 2 1, 3) := by decide +kernel
theorem dX0_make_175 : decode cX0_make 175 = .ok (.goto (-60), 3) := by decide +kernel
theorem dX0_make_178 : decode cX0_make 178 = .ok (.aload_n 0, 1) := by decide +kernel
theorem dX0_make_179 : decode cX0_make 179 = .ok (.getfield 64, 3) := by decide +kernel
theorem dX0_make_182 : decode cX0_make 182 = .ok (.ifCond .ne 21, 3) := by decide +kernel
theorem dX0_make_185 : decode cX0_make 185 = .ok (.aload_n 0, 1) := by decide +kernel
theorem dX0_make_186 : decode cX0_make 186 = .ok (.getfield 42, 3) := by decide +kernel
theorem dX0_make_189 : decode cX0_make 189 = .ok (.aload_n 0, 1) := by decide +kernel
theorem dX0_make_190 : decode cX0_make 190 = .ok (.getfield 34, 3) := by decide +kernel
theorem dX0_make_193 : decode cX0_make 193 = .ok (.invokevirtual 92, 3) := by decide +kernel
theorem dX0_make_196 : decode cX0_make 196 = .ok (.ifCond .eq 7, 3) := by decide +kernel
theorem dX0_make_199 : decode cX0_make 199 = .ok (.iconst 1, 1) := by decide +kernel
theorem dX0_make_200 : decode cX0_make 200 = .ok (.goto 4, 3) := by decide +kernel
theorem dX0_make_203 : decode cX0_make 203 = .ok (.iconst 0, 1) := by decide +kernel
theorem dX0_make_204 : decode cX0_make 204 = .ok (.ireturn, 1) := by decide +kernel
theorem dX0_push_0 : decode cX0_push 0 = .ok (.aload_n 0, 1) := by decide +kernel
theorem dX0_push_1 : decode cX0_push 1 = .ok (.getfield 61, 3) := by decide +kernel
theorem dX0_push_4 : decode cX0_push 4 = .ok (.sipush 4500, 3) := by decide +kernel
theorem dX0_push_7 : decode cX0_push 7 = .ok (.if_icmp .lt 9, 3) := by decide +kernel
theorem dX0_push_10 : decode cX0_push 10 = .ok (.aload_n 0, 1) := by decide +kernel
theorem dX0_push_11 : decode cX0_push 11 = .ok (.iconst 1, 1) := by decide +kernel
theorem dX0_push_12 : decode cX0_push 12 = .ok (.putfield 64, 3) := by decide +kernel
theorem dX0_push_15 : decode cX0_push 15 = .ok (.return_, 1) := by decide +kernel
theorem dX0_push_16 : decode cX0_push 16 = .ok (.aload_n 0, 1) := by decide +kernel
theorem dX0_push_17 : decode cX0_push 17 = .ok (.getfield 13, 3) := by decide +kernel
theorem dX0_push_20 : decode cX0_push 20 = .ok (.aload_n 0, 1) := by decide +kernel
theorem dX0_push_21 : decode cX0_push 21 = .ok (.getfield 61, 3) := by decide +kernel
theorem dX0_push_24 : decode cX0_push 24 = .ok (.iload_n 2, 1) := by decide +kernel
theorem dX0_push_25 : decode cX0_push 25 = .ok (.iconst 3, 1) := by decide +kernel
theorem dX0_push_26 : decode cX0_push 26 = .ok (.ishl, 1) := by decide +kernel
theorem dX0_push_27 : decode cX0_push 27 = .ok (.iload_n 1, 1) := by decide +kernel
theorem dX0_push_28 : decode cX0_push 28 = .ok (.ior, 1) := by decide +kernel
theorem dX0_push_29 : decode cX0_push 29 = .ok (.iastore, 1) := by decide +kernel
theorem dX0_push_30 : decode cX0_push 30 = .ok (.aload_n 0, 1) := by decide +kernel
theorem dX0_push_31 : decode cX0_push 31 = .ok (.dup, 1) := by decide +kernel
theorem dX0_push_32 : decode cX0_push 32 = .ok (.getfield 61, 3) := by decide +kernel
theorem dX0_push_35 : decode cX0_push 35 = .ok (.iconst 1, 1) := by decide +kernel
theorem dX0_push_36 : decode cX0_push 36 = .ok (.iadd, 1) := by decide +kernel
theorem dX0_push_37 : decode cX0_push 37 = .ok (.putfield 61, 3) := by decide +kernel
theorem dX0_push_40 : decode cX0_push 40 = .ok (.return_, 1) := by decide +kernel
theorem dX0_perform_0 : decode cX0_perform 0 = .ok (.iload_n 1, 1) := by decide +kernel
theorem dX0_perform_1 : decode cX0_perform 1 = .ok (.tableswitch 88 2 4 #[27, 54, 81], 27) := by decide +kernel
theorem dX0_perform_28 : decode cX0_perform 28 = .ok (.aload_n 0, 1) := by decide +kernel
theorem dX0_perform_29 : decode cX0_perform 29 = .ok (.dup, 1) := by decide +kernel
theorem dX0_perform_30 : decode cX0_perform 30 = .ok (.getfield 64, 3) := by decide +kernel
theorem dX0_perform_33 : decode cX0_perform 33 = .ok (.aload_n 0, 1) := by decide +kernel
theorem dX0_perform_34 : decode cX0_perform 34 = .ok (.getfield 42, 3) := by decide +kernel
theorem dX0_perform_37 : decode cX0_perform 37 = .ok (.invokevirtual 96, 3) := by decide +kernel
theorem dX0_perform_40 : decode cX0_perform 40 = .ok (.ifCond .ne 7, 3) := by decide +kernel
theorem dX0_perform_43 : decode cX0_perform 43 = .ok (.iconst 1, 1) := by decide +kernel
theorem dX0_perform_44 : decode cX0_perform 44 = .ok (.goto 4, 3) := by decide +kernel
theorem dX0_perform_47 : decode cX0_perform 47 = .ok (.iconst 0, 1) := by decide +kernel
theorem dX0_perform_48 : decode cX0_perform 48 = .ok (.ior, 1) := by decide +kernel
theorem dX0_perform_49 : decode cX0_perform 49 = .ok (.putfield 64, 3) := by decide +kernel
theorem dX0_perform_52 : decode cX0_perform 52 = .ok (.goto 43, 3) := by decide +kernel
theorem dX0_perform_55 : decode cX0_perform 55 = .ok (.aload_n 0, 1) := by decide +kernel
theorem dX0_perform_56 : decode cX0_perform 56 = .ok (.dup, 1) := by decide +kernel
theorem dX0_perform_57 : decode cX0_perform 57 = .ok (.getfield 64, 3) := by decide +kernel
theorem dX0_perform_60 : decode cX0_perform 60 = .ok (.aload_n 0, 1) := by decide +kernel
theorem dX0_perform_61 : decode cX0_perform 61 = .ok (.getfield 42, 3) := by decide +kernel
theorem dX0_perform_64 : decode cX0_perform 64 = .ok (.invokevirtual 100, 3) := by decide +kernel
theorem dX0_perform_67 : decode cX0_perform 67 = .ok (.ifCond .ne 7, 3) := by decide +kernel
theorem dX0_perform_70 : decode cX0_perform 70 = .ok (.iconst 1, 1) := by decide +kernel
theorem dX0_perform_71 : decode cX0_perform 71 = .ok (.goto 4, 3) := by decide +kernel
theorem dX0_perform_74 : decode cX0_perform 74 = .ok (.iconst 0, 1) := by decide +kernel
theorem dX0_perform_75 : decode cX0_perform 75 = .ok (.ior, 1) := by decide +kernel
theorem dX0_perform_76 : decode cX0_perform 76 = .ok (.putfield 64, 3) := by decide +kernel
theorem dX0_perform_79 : decode cX0_perform 79 = .ok (.goto 16, 3) := by decide +kernel
theorem dX0_perform_82 : decode cX0_perform 82 = .ok (.aload_n 0, 1) := by decide +kernel
theorem dX0_perform_83 : decode cX0_perform 83 = .ok (.invokevirtual 103, 3) := by decide +kernel
theorem dX0_perform_86 : decode cX0_perform 86 = .ok (.goto 9, 3) := by decide +kernel
theorem dX0_perform_89 : decode cX0_perform 89 = .ok (.aload_n 0, 1) := by decide +kernel
theorem dX0_perform_90 : decode cX0_perform 90 = .ok (.iload_n 2, 1) := by decide +kernel
theorem dX0_perform_91 : decode cX0_perform 91 = .ok (.iload_n 1, 1) := by decide +kernel
theorem dX0_perform_92 : decode cX0_perform 92 = .ok (.invokevirtual 106, 3) := by decide +kernel
theorem dX0_perform_95 : decode cX0_perform 95 = .ok (.return_, 1) := by decide +kernel
theorem dX0_visit_0 : decode cX0_visit 0 = .ok (.aload_n 0, 1) := by decide +kernel
theorem dX0_visit_1 : decode cX0_visit 1 = .ok (.getfield 38, 3) := by decide +kernel
theorem dX0_visit_4 : decode cX0_visit 4 = .ok (.getfield 109, 3) := by decide +kernel
theorem dX0_visit_7 : decode cX0_visit 7 = .ok (.iload_n 1, 1) := by decide +kernel
theorem dX0_visit_8 : decode cX0_visit 8 = .ok (.iaload, 1) := by decide +kernel
theorem dX0_visit_9 : decode cX0_visit 9 = .ok (.istore_n 3, 1) := by decide +kernel
theorem dX0_visit_10 : decode cX0_visit 10 = .ok (.aload_n 0, 1) := by decide +kernel
theorem dX0_visit_11 : decode cX0_visit 11 = .ok (.getfield 38, 3) := by decide +kernel
theorem dX0_visit_14 : decode cX0_visit 14 = .ok (.getfield 112, 3) := by decide +kernel
theorem dX0_visit_17 : decode cX0_visit 17 = .ok (.iload_n 1, 1) := by decide +kernel
theorem dX0_visit_18 : decode cX0_visit 18 = .ok (.iaload, 1) := by decide +kernel
theorem dX0_visit_19 : decode cX0_visit 19 = .ok (.istore 4, 2) := by decide +kernel
theorem dX0_visit_21 : decode cX0_visit 21 = .ok (.iload_n 2, 1) := by decide +kernel
theorem dX0_visit_22 : decode cX0_visit 22 = .ok (.ifCond .ne 7, 3) := by decide +kernel
theorem dX0_visit_25 : decode cX0_visit 25 = .ok (.iconst 1, 1) := by decide +kernel
theorem dX0_visit_26 : decode cX0_visit 26 = .ok (.goto 4, 3) := by decide +kernel
theorem dX0_visit_29 : decode cX0_visit 29 = .ok (.iconst 0, 1) := by decide +kernel
theorem dX0_visit_30 : decode cX0_visit 30 = .ok (.istore 5, 2) := by decide +kernel
theorem dX0_visit_32 : decode cX0_visit 32 = .ok (.iload_n 2, 1) := by decide +kernel
theorem dX0_visit_33 : decode cX0_visit 33 = .ok (.ifCond .ne 7, 3) := by decide +kernel
theorem dX0_visit_36 : decode cX0_visit 36 = .ok (.iconst 3, 1) := by decide +kernel
theorem dX0_visit_37 : decode cX0_visit 37 = .ok (.goto 4, 3) := by decide +kernel
theorem dX0_visit_40 : decode cX0_visit 40 = .ok (.iconst 2, 1) := by decide +kernel
theorem dX0_visit_41 : decode cX0_visit 41 = .ok (.istore 6, 2) := by decide +kernel
theorem dX0_visit_43 : decode cX0_visit 43 = .ok (.iload_n 2, 1) := by decide +kernel
theorem dX0_visit_44 : decode cX0_visit 44 = .ok (.ifCond .ne 7, 3) := by decide +kernel
theorem dX0_visit_47 : decode cX0_visit 47 = .ok (.iconst 2, 1) := by decide +kernel
theorem dX0_visit_48 : decode cX0_visit 48 = .ok (.goto 4, 3) := by decide +kernel
theorem dX0_visit_51 : decode cX0_visit 51 = .ok (.iconst 3, 1) := by decide +kernel
theorem dX0_visit_52 : decode cX0_visit 52 = .ok (.istore 7, 2) := by decide +kernel
theorem dX0_visit_54 : decode cX0_visit 54 = .ok (.aload_n 0, 1) := by decide +kernel
theorem dX0_visit_55 : decode cX0_visit 55 = .ok (.getfield 38, 3) := by decide +kernel
theorem dX0_visit_58 : decode cX0_visit 58 = .ok (.getfield 115, 3) := by decide +kernel
theorem dX0_visit_61 : decode cX0_visit 61 = .ok (.iload_n 1, 1) := by decide +kernel
theorem dX0_visit_62 : decode cX0_visit 62 = .ok (.iaload, 1) := by decide +kernel
theorem dX0_visit_63 : decode cX0_visit 63 = .ok (.tableswitch 144 0 5 #[37, 57, 67, 81, 95, 110], 37) := by decide +kernel
theorem dX0_visit_100 : decode cX0_visit 100 = .ok (.aload_n 0, 1) := by decide +kernel
theorem dX0_visit_101 : decode cX0_visit 101 = .ok (.iload_n 3, 1) := by decide +kernel
theorem dX0_visit_102 : decode cX0_visit 102 = .ok (.iload 4, 2) := by decide +kernel
theorem dX0_visit_104 : decode cX0_visit 104 = .ok (.iload_n 2, 1) := by decide +kernel
theorem dX0_visit_105 : decode cX0_visit 105 = .ok (.iconst 1, 1) := by decide +kernel
theorem dX0_visit_106 : decode cX0_visit 106 = .ok (.if_icmp .ne 7, 3) := by decide +kernel
theorem dX0_visit_109 : decode cX0_visit 109 = .ok (.iconst 1, 1) := by decide +kernel
theorem dX0_visit_110 : decode cX0_visit 110 = .ok (.goto 4, 3) := by decide +kernel
theorem dX0_visit_113 : decode cX0_visit 113 = .ok (.iconst 0, 1) := by decide +kernel
theorem dX0_visit_114 : decode cX0_visit 114 = .ok (.invokevirtual 118, 3) := by decide +kernel
theorem dX0_visit_117 : decode cX0_visit 117 = .ok (.goto 144, 3) := by decide +kernel
theorem dX0_visit_120 : decode cX0_visit 120 = .ok (.aload_n 0, 1) := by decide +kernel
theorem dX0_visit_121 : decode cX0_visit 121 = .ok (.iload 5, 2) := by decide +kernel
theorem dX0_visit_123 : decode cX0_visit 123 = .ok (.iload_n 3, 1) := by decide +kernel
theorem dX0_visit_124 : decode cX0_visit 124 = .ok (.invokevirtual 84, 3) := by decide +kernel
theorem dX0_visit_127 : decode cX0_visit 127 = .ok (.goto 134, 3) := by decide +kernel
theorem dX0_visit_130 : decode cX0_visit 130 = .ok (.aload_n 0, 1) := by decide +kernel
theorem dX0_visit_131 : decode cX0_visit 131 = .ok (.iload 7, 2) := by decide +kernel
theorem dX0_visit_133 : decode cX0_visit 133 = .ok (.iload_n 2, 1) := by decide +kernel
theorem dX0_visit_134 : decode cX0_visit 134 = .ok (.iload_n 3, 1) := by decide +kernel
theorem dX0_visit_135 : decode cX0_visit 135 = .ok (.iload_n 2, 1) := by decide +kernel
theorem dX0_visit_136 : decode cX0_visit 136 = .ok (.iload 4, 2) := by decide +kernel
theorem dX0_visit_138 : decode cX0_visit 138 = .ok (.invokevirtual 122, 3) := by decide +kernel
theorem dX0_visit_141 : decode cX0_visit 141 = .ok (.goto 120, 3) := by decide +kernel
theorem dX0_visit_144 : decode cX0_visit 144 = .ok (.aload_n 0, 1) := by decide +kernel
theorem dX0_visit_145 : decode cX0_visit 145 = .ok (.iload 6, 2) := by decide +kernel
theorem dX0_visit_147 : decode cX0_visit 147 = .ok (.iload_n 2, 1) := by decide +kernel
theorem dX0_visit_148 : decode cX0_visit 148 = .ok (.iload_n 3, 1) := by decide +kernel
theorem dX0_visit_149 : decode cX0_visit 149 = .ok (.iload_n 2, 1) := by decide +kernel
theorem dX0_visit_150 : decode cX0_visit 150 = .ok (.iload 4, 2) := by decide +kernel
theorem dX0_visit_152 : decode cX0_visit 152 = .ok (.invokevirtual 122, 3) := by decide +kernel
theorem dX0_visit_155 : decode cX0_visit 155 = .ok (.goto 106, 3) := by decide +kernel
theorem dX0_visit_158 : decode cX0_visit 158 = .ok (.aload_n 0, 1) := by decide +kernel
theorem dX0_visit_159 : decode cX0_visit 159 = .ok (.iload 6, 2) := by decide +kernel
theorem dX0_visit_161 : decode cX0_visit 161 = .ok (.iload 5, 2) := by decide +kernel
theorem dX0_visit_163 : decode cX0_visit 163 = .ok (.iload_n 3, 1) := by decide +kernel
theorem dX0_visit_164 : decode cX0_visit 164 = .ok (.iload_n 2, 1) := by decide +kernel
theorem dX0_visit_165 : decode cX0_visit 165 = .ok (.iload 4, 2) := by decide +kernel
theorem dX0_visit_167 : decode cX0_visit 167 = .ok (.invokevirtual 122, 3) := by decide +kernel
theorem dX0_visit_170 : decode cX0_visit 170 = .ok (.goto 91, 3) := by decide +kernel
theorem dX0_visit_173 : decode cX0_visit 173 = .ok (.aload_n 0, 1) := by decide +kernel
theorem dX0_visit_174 : decode cX0_visit 174 = .ok (.iload 7, 2) := by decide +kernel
theorem dX0_visit_176 : decode cX0_visit 176 = .ok (.iconst 0, 1) := by decide +kernel
theorem dX0_visit_177 : decode cX0_visit 177 = .ok (.invokevirtual 84, 3) := by decide +kernel
theorem dX0_visit_180 : decode cX0_visit 180 = .ok (.aload_n 0, 1) := by decide +kernel
theorem dX0_visit_181 : decode cX0_visit 181 = .ok (.iload 6, 2) := by decide +kernel
theorem dX0_visit_183 : decode cX0_visit 183 = .ok (.iload 5, 2) := by decide +kernel
theorem dX0_visit_185 : decode cX0_visit 185 = .ok (.iload 4, 2) := by decide +kernel
theorem dX0_visit_187 : decode cX0_visit 187 = .ok (.iload_n 2, 1) := by decide +kernel
theorem dX0_visit_188 : decode cX0_visit 188 = .ok (.iload_n 3, 1) := by decide +kernel
theorem dX0_visit_189 : decode cX0_visit 189 = .ok (.invokevirtual 122, 3) := by decide +kernel
theorem dX0_visit_192 : decode cX0_visit 192 = .ok (.aload_n 0, 1) := by decide +kernel
theorem dX0_visit_193 : decode cX0_visit 193 = .ok (.iload 6, 2) := by decide +kernel
theorem dX0_visit_195 : decode cX0_visit 195 = .ok (.iload 5, 2) := by decide +kernel
theorem dX0_visit_197 : decode cX0_visit 197 = .ok (.iload_n 3, 1) := by decide +kernel
theorem dX0_visit_198 : decode cX0_visit 198 = .ok (.iload_n 2, 1) := by decide +kernel
theorem dX0_visit_199 : decode cX0_visit 199 = .ok (.iload 4, 2) := by decide +kernel
theorem dX0_visit_201 : decode cX0_visit 201 = .ok (.invokevirtual 122, 3) := by decide +kernel
theorem dX0_visit_204 : decode cX0_visit 204 = .ok (.goto 57, 3) := by decide +kernel
theorem dX0_visit_207 : decode cX0_visit 207 = .ok (.aload_n 0, 1) := by decide +kernel
theorem dX0_visit_208 : decode cX0_visit 208 = .ok (.iload_n 3, 1) := by decide +kernel
theorem dX0_visit_209 : decode cX0_visit 209 = .ok (.aload_n 0, 1) := by decide +kernel
theorem dX0_visit_210 : decode cX0_visit 210 = .ok (.getfield 38, 3) := by decide +kernel
theorem dX0_visit_213 : decode cX0_visit 213 = .ok (.getfield 115, 3) := by decide +kernel
theorem dX0_visit_216 : decode cX0_visit 216 = .ok (.iload_n 1, 1) := by decide +kernel
theorem dX0_visit_217 : decode cX0_visit 217 = .ok (.iaload, 1) := by decide +kernel
theorem dX0_visit_218 : decode cX0_visit 218 = .ok (.bipush 6, 2) := by decide +kernel
theorem dX0_visit_220 : decode cX0_visit 220 = .ok (.if_icmp .ne 7, 3) := by decide +kernel
theorem dX0_visit_223 : decode cX0_visit 223 = .ok (.iconst 1, 1) := by decide +kernel
theorem dX0_visit_224 : decode cX0_visit 224 = .ok (.goto 4, 3) := by decide +kernel
theorem dX0_visit_227 : decode cX0_visit 227 = .ok (.iconst 0, 1) := by decide +kernel
theorem dX0_visit_228 : decode cX0_visit 228 = .ok (.iload_n 2, 1) := by decide +kernel
theorem dX0_visit_229 : decode cX0_visit 229 = .ok (.ifCond .ne 7, 3) := by decide +kernel
theorem dX0_visit_232 : decode cX0_visit 232 = .ok (.iconst 1, 1) := by decide +kernel
theorem dX0_visit_233 : decode cX0_visit 233 = .ok (.goto 4, 3) := by decide +kernel
theorem dX0_visit_236 : decode cX0_visit 236 = .ok (.iconst 0, 1) := by decide +kernel
theorem dX0_visit_237 : decode cX0_visit 237 = .ok (.if_icmp .ne 7, 3) := by decide +kernel
theorem dX0_visit_240 : decode cX0_visit 240 = .ok (.iconst 1, 1) := by decide +kernel
theorem dX0_visit_241 : decode cX0_visit 241 = .ok (.goto 4, 3) := by decide +kernel
theorem dX0_visit_244 : decode cX0_visit 244 = .ok (.iconst 0, 1) := by decide +kernel
theorem dX0_visit_245 : decode cX0_visit 245 = .ok (.invokevirtual 126, 3) := by decide +kernel
theorem dX0_visit_248 : decode cX0_visit 248 = .ok (.aload_n 0, 1) := by decide +kernel
theorem dX0_visit_249 : decode cX0_visit 249 = .ok (.iconst 4, 1) := by decide +kernel
theorem dX0_visit_250 : decode cX0_visit 250 = .ok (.iconst 0, 1) := by decide +kernel
theorem dX0_visit_251 : decode cX0_visit 251 = .ok (.invokevirtual 84, 3) := by decide +kernel
theorem dX0_visit_254 : decode cX0_visit 254 = .ok (.aload_n 0, 1) := by decide +kernel
theorem dX0_visit_255 : decode cX0_visit 255 = .ok (.iload_n 2, 1) := by decide +kernel
theorem dX0_visit_256 : decode cX0_visit 256 = .ok (.iload 4, 2) := by decide +kernel
theorem dX0_visit_258 : decode cX0_visit 258 = .ok (.invokevirtual 84, 3) := by decide +kernel
theorem dX0_visit_261 : decode cX0_visit 261 = .ok (.return_, 1) := by decide +kernel
theorem dX0_pushPair_0 : decode cX0_pushPair 0 = .ok (.aload_n 0, 1) := by decide +kernel
theorem dX0_pushPair_1 : decode cX0_pushPair 1 = .ok (.iload_n 1, 1) := by decide +kernel
theorem dX0_pushPair_2 : decode cX0_pushPair 2 = .ok (.iconst 0, 1) := by decide +kernel
theorem dX0_pushPair_3 : decode cX0_pushPair 3 = .ok (.invokevirtual 84, 3) := by decide +kernel
theorem dX0_pushPair_6 : decode cX0_pushPair 6 = .ok (.aload_n 0, 1) := by decide +kernel
theorem dX0_pushPair_7 : decode cX0_pushPair 7 = .ok (.iload 4, 2) := by decide +kernel
theorem dX0_pushPair_9 : decode cX0_pushPair 9 = .ok (.iload 5, 2) := by decide +kernel
theorem dX0_pushPair_11 : decode cX0_pushPair 11 = .ok (.invokevirtual 84, 3) := by decide +kernel
theorem dX0_pushPair_14 : decode cX0_pushPair 14 = .ok (.aload_n 0, 1) := by decide +kernel
theorem dX0_pushPair_15 : decode cX0_pushPair 15 = .ok (.iload_n 2, 1) := by decide +kernel
theorem dX0_pushPair_16 : decode cX0_pushPair 16 = .ok (.iload_n 3, 1) := by decide +kernel
theorem dX0_pushPair_17 : decode cX0_pushPair 17 = .ok (.invokevirtual 84, 3) := by decide +kernel
theorem dX0_pushPair_20 : decode cX0_pushPair 20 = .ok (.return_, 1) := by decide +kernel
theorem dX0_newVariable_0 : decode cX0_newVariable 0 = .ok (.aload_n 0, 1) := by decide +kernel
theorem dX0_newVariable_1 : decode cX0_newVariable 1 = .ok (.dup, 1) := by decide +kernel
theorem dX0_newVariable_2 : decode cX0_newVariable 2 = .ok (.getfield 74, 3) := by decide +kernel
theorem dX0_newVariable_5 : decode cX0_newVariable 5 = .ok (.iconst 1, 1) := by decide +kernel
theorem dX0_newVariable_6 : decode cX0_newVariable 6 = .ok (.iadd, 1) := by decide +kernel
theorem dX0_newVariable_7 : decode cX0_newVariable 7 = .ok (.putfield 74, 3) := by decide +kernel
theorem dX0_newVariable_10 : decode cX0_newVariable 10 = .ok (.aload_n 0, 1) := by decide +kernel
theorem dX0_newVariable_11 : decode cX0_newVariable 11 = .ok (.getfield 71, 3) := by decide +kernel
theorem dX0_newVariable_14 : decode cX0_newVariable 14 = .ok (.aload_n 0, 1) := by decide +kernel
theorem dX0_newVariable_15 : decode cX0_newVariable 15 = .ok (.getfield 31, 3) := by decide +kernel
theorem dX0_newVariable_18 : decode cX0_newVariable 18 = .ok (.arraylength, 1) := by decide +kernel
theorem dX0_newVariable_19 : decode cX0_newVariable 19 = .ok (.if_icmp .ge 27, 3) := by decide +kernel
theorem dX0_newVariable_22 : decode cX0_newVariable 22 = .ok (.aload_n 0, 1) := by decide +kernel
theorem dX0_newVariable_23 : decode cX0_newVariable 23 = .ok (.getfield 31, 3) := by decide +kernel
theorem dX0_newVariable_26 : decode cX0_newVariable 26 = .ok (.aload_n 0, 1) := by decide +kernel
theorem dX0_newVariable_27 : decode cX0_newVariable 27 = .ok (.getfield 71, 3) := by decide +kernel
theorem dX0_newVariable_30 : decode cX0_newVariable 30 = .ok (.aload_n 0, 1) := by decide +kernel
theorem dX0_newVariable_31 : decode cX0_newVariable 31 = .ok (.getfield 74, 3) := by decide +kernel
theorem dX0_newVariable_34 : decode cX0_newVariable 34 = .ok (.ineg, 1) := by decide +kernel
theorem dX0_newVariable_35 : decode cX0_newVariable 35 = .ok (.iastore, 1) := by decide +kernel
theorem dX0_newVariable_36 : decode cX0_newVariable 36 = .ok (.aload_n 0, 1) := by decide +kernel
theorem dX0_newVariable_37 : decode cX0_newVariable 37 = .ok (.dup, 1) := by decide +kernel
theorem dX0_newVariable_38 : decode cX0_newVariable 38 = .ok (.getfield 71, 3) := by decide +kernel
theorem dX0_newVariable_41 : decode cX0_newVariable 41 = .ok (.iconst 1, 1) := by decide +kernel
theorem dX0_newVariable_42 : decode cX0_newVariable 42 = .ok (.iadd, 1) := by decide +kernel
theorem dX0_newVariable_43 : decode cX0_newVariable 43 = .ok (.putfield 71, 3) := by decide +kernel
theorem dX0_newVariable_46 : decode cX0_newVariable 46 = .ok (.aload_n 0, 1) := by decide +kernel
theorem dX0_newVariable_47 : decode cX0_newVariable 47 = .ok (.getfield 74, 3) := by decide +kernel
theorem dX0_newVariable_50 : decode cX0_newVariable 50 = .ok (.ineg, 1) := by decide +kernel
theorem dX0_newVariable_51 : decode cX0_newVariable 51 = .ok (.ireturn, 1) := by decide +kernel
theorem dX0_enter_0 : decode cX0_enter 0 = .ok (.aload_n 0, 1) := by decide +kernel
theorem dX0_enter_1 : decode cX0_enter 1 = .ok (.getfield 68, 3) := by decide +kernel
theorem dX0_enter_4 : decode cX0_enter 4 = .ok (.bipush 40, 2) := by decide +kernel
theorem dX0_enter_6 : decode cX0_enter 6 = .ok (.if_icmp .ge 14, 3) := by decide +kernel
theorem dX0_enter_9 : decode cX0_enter 9 = .ok (.iload_n 2, 1) := by decide +kernel
theorem dX0_enter_10 : decode cX0_enter 10 = .ok (.ifCond .ne 16, 3) := by decide +kernel
theorem dX0_enter_13 : decode cX0_enter 13 = .ok (.aload_n 0, 1) := by decide +kernel
theorem dX0_enter_14 : decode cX0_enter 14 = .ok (.invokevirtual 130, 3) := by decide +kernel
theorem dX0_enter_17 : decode cX0_enter 17 = .ok (.ifCond .ne 9, 3) := by decide +kernel
theorem dX0_enter_20 : decode cX0_enter 20 = .ok (.aload_n 0, 1) := by decide +kernel
theorem dX0_enter_21 : decode cX0_enter 21 = .ok (.iconst 1, 1) := by decide +kernel
theorem dX0_enter_22 : decode cX0_enter 22 = .ok (.putfield 64, 3) := by decide +kernel
theorem dX0_enter_25 : decode cX0_enter 25 = .ok (.return_, 1) := by decide +kernel
theorem dX0_enter_26 : decode cX0_enter 26 = .ok (.aload_n 0, 1) := by decide +kernel
theorem dX0_enter_27 : decode cX0_enter 27 = .ok (.getfield 22, 3) := by decide +kernel
theorem dX0_enter_30 : decode cX0_enter 30 = .ok (.aload_n 0, 1) := by decide +kernel
theorem dX0_enter_31 : decode cX0_enter 31 = .ok (.getfield 68, 3) := by decide +kernel
theorem dX0_enter_34 : decode cX0_enter 34 = .ok (.iload_n 1, 1) := by decide +kernel
theorem dX0_enter_35 : decode cX0_enter 35 = .ok (.iastore, 1) := by decide +kernel
theorem dX0_enter_36 : decode cX0_enter 36 = .ok (.aload_n 0, 1) := by decide +kernel
theorem dX0_enter_37 : decode cX0_enter 37 = .ok (.getfield 25, 3) := by decide +kernel
theorem dX0_enter_40 : decode cX0_enter 40 = .ok (.aload_n 0, 1) := by decide +kernel
theorem dX0_enter_41 : decode cX0_enter 41 = .ok (.getfield 68, 3) := by decide +kernel
theorem dX0_enter_44 : decode cX0_enter 44 = .ok (.aload_n 0, 1) := by decide +kernel
theorem dX0_enter_45 : decode cX0_enter 45 = .ok (.getfield 19, 3) := by decide +kernel
theorem dX0_enter_48 : decode cX0_enter 48 = .ok (.iload_n 1, 1) := by decide +kernel
theorem dX0_enter_49 : decode cX0_enter 49 = .ok (.iaload, 1) := by decide +kernel
theorem dX0_enter_50 : decode cX0_enter 50 = .ok (.iastore, 1) := by decide +kernel
theorem dX0_enter_51 : decode cX0_enter 51 = .ok (.aload_n 0, 1) := by decide +kernel
theorem dX0_enter_52 : decode cX0_enter 52 = .ok (.getfield 28, 3) := by decide +kernel
theorem dX0_enter_55 : decode cX0_enter 55 = .ok (.aload_n 0, 1) := by decide +kernel
theorem dX0_enter_56 : decode cX0_enter 56 = .ok (.getfield 68, 3) := by decide +kernel
theorem dX0_enter_59 : decode cX0_enter 59 = .ok (.aload_n 0, 1) := by decide +kernel
theorem dX0_enter_60 : decode cX0_enter 60 = .ok (.getfield 71, 3) := by decide +kernel
theorem dX0_enter_63 : decode cX0_enter 63 = .ok (.iastore, 1) := by decide +kernel
theorem dX0_enter_64 : decode cX0_enter 64 = .ok (.aload_n 0, 1) := by decide +kernel
theorem dX0_enter_65 : decode cX0_enter 65 = .ok (.dup, 1) := by decide +kernel
theorem dX0_enter_66 : decode cX0_enter 66 = .ok (.getfield 68, 3) := by decide +kernel
theorem dX0_enter_69 : decode cX0_enter 69 = .ok (.iconst 1, 1) := by decide +kernel
theorem dX0_enter_70 : decode cX0_enter 70 = .ok (.iadd, 1) := by decide +kernel
theorem dX0_enter_71 : decode cX0_enter 71 = .ok (.putfield 68, 3) := by decide +kernel
theorem dX0_enter_74 : decode cX0_enter 74 = .ok (.iload_n 2, 1) := by decide +kernel
theorem dX0_enter_75 : decode cX0_enter 75 = .ok (.ifCond .eq 16, 3) := by decide +kernel
theorem dX0_enter_78 : decode cX0_enter 78 = .ok (.aload_n 0, 1) := by decide +kernel
theorem dX0_enter_79 : decode cX0_enter 79 = .ok (.getfield 19, 3) := by decide +kernel
theorem dX0_enter_82 : decode cX0_enter 82 = .ok (.iload_n 1, 1) := by decide +kernel
theorem dX0_enter_83 : decode cX0_enter 83 = .ok (.aload_n 0, 1) := by decide +kernel
theorem dX0_enter_84 : decode cX0_enter 84 = .ok (.invokevirtual 80, 3) := by decide +kernel
theorem dX0_enter_87 : decode cX0_enter 87 = .ok (.iastore, 1) := by decide +kernel
theorem dX0_enter_88 : decode cX0_enter 88 = .ok (.goto 42, 3) := by decide +kernel
theorem dX0_enter_91 : decode cX0_enter 91 = .ok (.aload_n 0, 1) := by decide +kernel
theorem dX0_enter_92 : decode cX0_enter 92 = .ok (.getfield 34, 3) := by decide +kernel
theorem dX0_enter_95 : decode cX0_enter 95 = .ok (.dup, 1) := by decide +kernel
theorem dX0_enter_96 : decode cX0_enter 96 = .ok (.getfield 133, 3) := by decide +kernel
theorem dX0_enter_99 : decode cX0_enter 99 = .ok (.iconst 1, 1) := by decide +kernel
theorem dX0_enter_100 : decode cX0_enter 100 = .ok (.iadd, 1) := by decide +kernel
theorem dX0_enter_101 : decode cX0_enter 101 = .ok (.putfield 133, 3) := by decide +kernel
theorem dX0_enter_104 : decode cX0_enter 104 = .ok (.sipush 4096, 3) := by decide +kernel
theorem dX0_enter_107 : decode cX0_enter 107 = .ok (.aload_n 0, 1) := by decide +kernel
theorem dX0_enter_108 : decode cX0_enter 108 = .ok (.getfield 34, 3) := by decide +kernel
theorem dX0_enter_111 : decode cX0_enter 111 = .ok (.getfield 133, 3) := by decide +kernel
theorem dX0_enter_114 : decode cX0_enter 114 = .ok (.iadd, 1) := by decide +kernel
theorem dX0_enter_115 : decode cX0_enter 115 = .ok (.istore_n 3, 1) := by decide +kernel
theorem dX0_enter_116 : decode cX0_enter 116 = .ok (.aload_n 0, 1) := by decide +kernel
theorem dX0_enter_117 : decode cX0_enter 117 = .ok (.getfield 19, 3) := by decide +kernel
theorem dX0_enter_120 : decode cX0_enter 120 = .ok (.iload_n 1, 1) := by decide +kernel
theorem dX0_enter_121 : decode cX0_enter 121 = .ok (.iload_n 3, 1) := by decide +kernel
theorem dX0_enter_122 : decode cX0_enter 122 = .ok (.iconst 3, 1) := by decide +kernel
theorem dX0_enter_123 : decode cX0_enter 123 = .ok (.ishl, 1) := by decide +kernel
theorem dX0_enter_124 : decode cX0_enter 124 = .ok (.aload_n 0, 1) := by decide +kernel
theorem dX0_enter_125 : decode cX0_enter 125 = .ok (.getfield 71, 3) := by decide +kernel
theorem dX0_enter_128 : decode cX0_enter 128 = .ok (.ior, 1) := by decide +kernel
theorem dX0_enter_129 : decode cX0_enter 129 = .ok (.iastore, 1) := by decide +kernel
theorem dX0_enter_130 : decode cX0_enter 130 = .ok (.return_, 1) := by decide +kernel
theorem dX0_functionFits_0 : decode cX0_functionFits 0 = .ok (.aload_n 0, 1) := by decide +kernel
theorem dX0_functionFits_1 : decode cX0_functionFits 1 = .ok (.getfield 71, 3) := by decide +kernel
theorem dX0_functionFits_4 : decode cX0_functionFits 4 = .ok (.iconst 5, 1) := by decide +kernel
theorem dX0_functionFits_5 : decode cX0_functionFits 5 = .ok (.if_icmp .gt 19, 3) := by decide +kernel
theorem dX0_functionFits_8 : decode cX0_functionFits 8 = .ok (.aload_n 0, 1) := by decide +kernel
theorem dX0_functionFits_9 : decode cX0_functionFits 9 = .ok (.getfield 34, 3) := by decide +kernel
theorem dX0_functionFits_12 : decode cX0_functionFits 12 = .ok (.getfield 133, 3) := by decide +kernel
theorem dX0_functionFits_15 : decode cX0_functionFits 15 = .ok (.ldc 138, 2) := by decide +kernel
theorem dX0_functionFits_17 : decode cX0_functionFits 17 = .ok (.if_icmp .ge 7, 3) := by decide +kernel
theorem dX0_functionFits_20 : decode cX0_functionFits 20 = .ok (.iconst 1, 1) := by decide +kernel
theorem dX0_functionFits_21 : decode cX0_functionFits 21 = .ok (.goto 4, 3) := by decide +kernel
theorem dX0_functionFits_24 : decode cX0_functionFits 24 = .ok (.iconst 0, 1) := by decide +kernel
theorem dX0_functionFits_25 : decode cX0_functionFits 25 = .ok (.ireturn, 1) := by decide +kernel
theorem dX0_leave_0 : decode cX0_leave 0 = .ok (.aload_n 0, 1) := by decide +kernel
theorem dX0_leave_1 : decode cX0_leave 1 = .ok (.getfield 68, 3) := by decide +kernel
theorem dX0_leave_4 : decode cX0_leave 4 = .ok (.ifCond .le 49, 3) := by decide +kernel
theorem dX0_leave_7 : decode cX0_leave 7 = .ok (.aload_n 0, 1) := by decide +kernel
theorem dX0_leave_8 : decode cX0_leave 8 = .ok (.dup, 1) := by decide +kernel
theorem dX0_leave_9 : decode cX0_leave 9 = .ok (.getfield 68, 3) := by decide +kernel
theorem dX0_leave_12 : decode cX0_leave 12 = .ok (.iconst 1, 1) := by decide +kernel
theorem dX0_leave_13 : decode cX0_leave 13 = .ok (.isub, 1) := by decide +kernel
theorem dX0_leave_14 : decode cX0_leave 14 = .ok (.putfield 68, 3) := by decide +kernel
theorem dX0_leave_17 : decode cX0_leave 17 = .ok (.aload_n 0, 1) := by decide +kernel
theorem dX0_leave_18 : decode cX0_leave 18 = .ok (.getfield 19, 3) := by decide +kernel
theorem dX0_leave_21 : decode cX0_leave 21 = .ok (.aload_n 0, 1) := by decide +kernel
theorem dX0_leave_22 : decode cX0_leave 22 = .ok (.getfield 22, 3) := by decide +kernel
theorem dX0_leave_25 : decode cX0_leave 25 = .ok (.aload_n 0, 1) := by decide +kernel
theorem dX0_leave_26 : decode cX0_leave 26 = .ok (.getfield 68, 3) := by decide +kernel
theorem dX0_leave_29 : decode cX0_leave 29 = .ok (.iaload, 1) := by decide +kernel
theorem dX0_leave_30 : decode cX0_leave 30 = .ok (.aload_n 0, 1) := by decide +kernel
theorem dX0_leave_31 : decode cX0_leave 31 = .ok (.getfield 25, 3) := by decide +kernel
theorem dX0_leave_34 : decode cX0_leave 34 = .ok (.aload_n 0, 1) := by decide +kernel
theorem dX0_leave_35 : decode cX0_leave 35 = .ok (.getfield 68, 3) := by decide +kernel
theorem dX0_leave_38 : decode cX0_leave 38 = .ok (.iaload, 1) := by decide +kernel
theorem dX0_leave_39 : decode cX0_leave 39 = .ok (.iastore, 1) := by decide +kernel
theorem dX0_leave_40 : decode cX0_leave 40 = .ok (.aload_n 0, 1) := by decide +kernel
theorem dX0_leave_41 : decode cX0_leave 41 = .ok (.aload_n 0, 1) := by decide +kernel
theorem dX0_leave_42 : decode cX0_leave 42 = .ok (.getfield 28, 3) := by decide +kernel
theorem dX0_leave_45 : decode cX0_leave 45 = .ok (.aload_n 0, 1) := by decide +kernel
theorem dX0_leave_46 : decode cX0_leave 46 = .ok (.getfield 68, 3) := by decide +kernel
theorem dX0_leave_49 : decode cX0_leave 49 = .ok (.iaload, 1) := by decide +kernel
theorem dX0_leave_50 : decode cX0_leave 50 = .ok (.putfield 71, 3) := by decide +kernel
theorem dX0_leave_53 : decode cX0_leave 53 = .ok (.return_, 1) := by decide +kernel
theorem dX0_literal_0 : decode cX0_literal 0 = .ok (.aload_n 0, 1) := by decide +kernel
theorem dX0_literal_1 : decode cX0_literal 1 = .ok (.getfield 42, 3) := by decide +kernel
theorem dX0_literal_4 : decode cX0_literal 4 = .ok (.iload_n 3, 1) := by decide +kernel
theorem dX0_literal_5 : decode cX0_literal 5 = .ok (.invokevirtual 139, 3) := by decide +kernel
theorem dX0_literal_8 : decode cX0_literal 8 = .ok (.ifCond .ne 9, 3) := by decide +kernel
theorem dX0_literal_11 : decode cX0_literal 11 = .ok (.aload_n 0, 1) := by decide +kernel
theorem dX0_literal_12 : decode cX0_literal 12 = .ok (.iconst 1, 1) := by decide +kernel
theorem dX0_literal_13 : decode cX0_literal 13 = .ok (.putfield 64, 3) := by decide +kernel
theorem dX0_literal_16 : decode cX0_literal 16 = .ok (.return_, 1) := by decide +kernel
theorem dX0_literal_17 : decode cX0_literal 17 = .ok (.iload_n 1, 1) := by decide +kernel
theorem dX0_literal_18 : decode cX0_literal 18 = .ok (.istore 4, 2) := by decide +kernel
theorem dX0_literal_20 : decode cX0_literal 20 = .ok (.iload 4, 2) := by decide +kernel
theorem dX0_literal_22 : decode cX0_literal 22 = .ok (.iload_n 2, 1) := by decide +kernel
theorem dX0_literal_23 : decode cX0_literal 23 = .ok (.if_icmp .ge 104, 3) := by decide +kernel
theorem dX0_literal_26 : decode cX0_literal 26 = .ok (.aload_n 0, 1) := by decide +kernel
theorem dX0_literal_27 : decode cX0_literal 27 = .ok (.getfield 38, 3) := by decide +kernel
theorem dX0_literal_30 : decode cX0_literal 30 = .ok (.getfield 143, 3) := by decide +kernel
theorem dX0_literal_33 : decode cX0_literal 33 = .ok (.iload 4, 2) := by decide +kernel
theorem dX0_literal_35 : decode cX0_literal 35 = .ok (.iaload, 1) := by decide +kernel
theorem dX0_literal_36 : decode cX0_literal 36 = .ok (.istore 5, 2) := by decide +kernel
theorem dX0_literal_38 : decode cX0_literal 38 = .ok (.iload 5, 2) := by decide +kernel
theorem dX0_literal_40 : decode cX0_literal 40 = .ok (.ifCond .lt 15, 3) := by decide +kernel
theorem dX0_literal_43 : decode cX0_literal 43 = .ok (.aload_n 0, 1) := by decide +kernel
theorem dX0_literal_44 : decode cX0_literal 44 = .ok (.getfield 42, 3) := by decide +kernel
theorem dX0_literal_47 : decode cX0_literal 47 = .ok (.iload 5, 2) := by decide +kernel
theorem dX0_literal_49 : decode cX0_literal 49 = .ok (.invokevirtual 146, 3) := by decide +kernel
theorem dX0_literal_52 : decode cX0_literal 52 = .ok (.goto 69, 3) := by decide +kernel
theorem dX0_literal_55 : decode cX0_literal 55 = .ok (.aload_n 0, 1) := by decide +kernel
theorem dX0_literal_56 : decode cX0_literal 56 = .ok (.getfield 19, 3) := by decide +kernel
theorem dX0_literal_59 : decode cX0_literal 59 = .ok (.iconst (-1), 1) := by decide +kernel
theorem dX0_literal_60 : decode cX0_literal 60 = .ok (.iload 5, 2) := by decide +kernel
theorem dX0_literal_62 : decode cX0_literal 62 = .ok (.isub, 1) := by decide +kernel
theorem dX0_literal_63 : decode cX0_literal 63 = .ok (.iaload, 1) := by decide +kernel
theorem dX0_literal_64 : decode cX0_literal 64 = .ok (.istore 6, 2) := by decide +kernel
theorem dX0_literal_66 : decode cX0_literal 66 = .ok (.aload_n 0, 1) := by decide +kernel
theorem dX0_literal_67 : decode cX0_literal 67 = .ok (.getfield 42, 3) := by decide +kernel
theorem dX0_literal_70 : decode cX0_literal 70 = .ok (.iload 6, 2) := by decide +kernel
theorem dX0_literal_72 : decode cX0_literal 72 = .ok (.invokevirtual 146, 3) := by decide +kernel
theorem dX0_literal_75 : decode cX0_literal 75 = .ok (.iload 6, 2) := by decide +kernel
theorem dX0_literal_77 : decode cX0_literal 77 = .ok (.ifCond .ge 7, 3) := by decide +kernel
theorem dX0_literal_80 : decode cX0_literal 80 = .ok (.iconst 0, 1) := by decide +kernel
theorem dX0_literal_81 : decode cX0_literal 81 = .ok (.goto 8, 3) := by decide +kernel
theorem dX0_literal_84 : decode cX0_literal 84 = .ok (.iload 6, 2) := by decide +kernel
theorem dX0_literal_86 : decode cX0_literal 86 = .ok (.bipush 7, 2) := by decide +kernel
theorem dX0_literal_88 : decode cX0_literal 88 = .ok (.iand, 1) := by decide +kernel
theorem dX0_literal_89 : decode cX0_literal 89 = .ok (.istore 7, 2) := by decide +kernel
theorem dX0_literal_91 : decode cX0_literal 91 = .ok (.iconst 0, 1) := by decide +kernel
theorem dX0_literal_92 : decode cX0_literal 92 = .ok (.istore 8, 2) := by decide +kernel
theorem dX0_literal_94 : decode cX0_literal 94 = .ok (.iload 8, 2) := by decide +kernel
theorem dX0_literal_96 : decode cX0_literal 96 = .ok (.iload 7, 2) := by decide +kernel
theorem dX0_literal_98 : decode cX0_literal 98 = .ok (.if_icmp .ge 23, 3) := by decide +kernel
theorem dX0_literal_101 : decode cX0_literal 101 = .ok (.aload_n 0, 1) := by decide +kernel
theorem dX0_literal_102 : decode cX0_literal 102 = .ok (.getfield 42, 3) := by decide +kernel
theorem dX0_literal_105 : decode cX0_literal 105 = .ok (.aload_n 0, 1) := by decide +kernel
theorem dX0_literal_106 : decode cX0_literal 106 = .ok (.getfield 31, 3) := by decide +kernel
theorem dX0_literal_109 : decode cX0_literal 109 = .ok (.iload 8, 2) := by decide +kernel
theorem dX0_literal_111 : decode cX0_literal 111 = .ok (.iaload, 1) := by decide +kernel
theorem dX0_literal_112 : decode cX0_literal 112 = .ok (.invokevirtual 146, 3) := by decide +kernel
theorem dX0_literal_115 : decode cX0_literal 115 = .ok (.iinc 8 1, 3) := by decide +kernel
theorem dX0_literal_118 : decode cX0_literal 118 = .ok (.goto (-24), 3) := by decide +kernel
theorem dX0_literal_121 : decode cX0_literal 121 = .ok (.iinc 4 1, 3) := by decide +kernel
theorem dX0_literal_124 : decode cX0_literal 124 = .ok (.goto (-104), 3) := by decide +kernel
theorem dX0_literal_127 : decode cX0_literal 127 = .ok (.aload_n 0, 1) := by decide +kernel
theorem dX0_literal_128 : decode cX0_literal 128 = .ok (.dup, 1) := by decide +kernel
theorem dX0_literal_129 : decode cX0_literal 129 = .ok (.getfield 64, 3) := by decide +kernel
theorem dX0_literal_132 : decode cX0_literal 132 = .ok (.aload_n 0, 1) := by decide +kernel
theorem dX0_literal_133 : decode cX0_literal 133 = .ok (.getfield 42, 3) := by decide +kernel
theorem dX0_literal_136 : decode cX0_literal 136 = .ok (.invokevirtual 150, 3) := by decide +kernel
theorem dX0_literal_139 : decode cX0_literal 139 = .ok (.ifCond .ne 7, 3) := by decide +kernel
theorem dX0_literal_142 : decode cX0_literal 142 = .ok (.iconst 1, 1) := by decide +kernel
theorem dX0_literal_143 : decode cX0_literal 143 = .ok (.goto 4, 3) := by decide +kernel
theorem dX0_literal_146 : decode cX0_literal 146 = .ok (.iconst 0, 1) := by decide +kernel
theorem dX0_literal_147 : decode cX0_literal 147 = .ok (.ior, 1) := by decide +kernel
theorem dX0_literal_148 : decode cX0_literal 148 = .ok (.putfield 64, 3) := by decide +kernel
theorem dX0_literal_151 : decode cX0_literal 151 = .ok (.return_, 1) := by decide +kernel
theorem dX1_init_0 : decode cX1_init 0 = .ok (.aload_n 0, 1) := by decide +kernel
theorem dX1_init_1 : decode cX1_init 1 = .ok (.invokespecial 3, 3) := by decide +kernel
theorem dX1_init_4 : decode cX1_init 4 = .ok (.aload_n 0, 1) := by decide +kernel
theorem dX1_init_5 : decode cX1_init 5 = .ok (.sipush 4000, 3) := by decide +kernel
theorem dX1_init_8 : decode cX1_init 8 = .ok (.newarray .byte, 2) := by decide +kernel
theorem dX1_init_10 : decode cX1_init 10 = .ok (.putfield 11, 3) := by decide +kernel
theorem dX1_init_13 : decode cX1_init 13 = .ok (.aload_n 0, 1) := by decide +kernel
theorem dX1_init_14 : decode cX1_init 14 = .ok (.sipush 4000, 3) := by decide +kernel
theorem dX1_init_17 : decode cX1_init 17 = .ok (.newarray .byte, 2) := by decide +kernel
theorem dX1_init_19 : decode cX1_init 19 = .ok (.putfield 15, 3) := by decide +kernel
theorem dX1_init_22 : decode cX1_init 22 = .ok (.aload_n 0, 1) := by decide +kernel
theorem dX1_init_23 : decode cX1_init 23 = .ok (.sipush 4000, 3) := by decide +kernel
theorem dX1_init_26 : decode cX1_init 26 = .ok (.newarray .int, 2) := by decide +kernel
theorem dX1_init_28 : decode cX1_init 28 = .ok (.putfield 18, 3) := by decide +kernel
theorem dX1_init_31 : decode cX1_init 31 = .ok (.aload_n 0, 1) := by decide +kernel
theorem dX1_init_32 : decode cX1_init 32 = .ok (.sipush 220, 3) := by decide +kernel
theorem dX1_init_35 : decode cX1_init 35 = .ok (.newarray .int, 2) := by decide +kernel
theorem dX1_init_37 : decode cX1_init 37 = .ok (.putfield 24, 3) := by decide +kernel
theorem dX1_init_40 : decode cX1_init 40 = .ok (.aload_n 0, 1) := by decide +kernel
theorem dX1_init_41 : decode cX1_init 41 = .ok (.bipush 10, 2) := by decide +kernel
theorem dX1_init_43 : decode cX1_init 43 = .ok (.newarray .int, 2) := by decide +kernel
theorem dX1_init_45 : decode cX1_init 45 = .ok (.putfield 27, 3) := by decide +kernel
theorem dX1_init_48 : decode cX1_init 48 = .ok (.aload_n 0, 1) := by decide +kernel
theorem dX1_init_49 : decode cX1_init 49 = .ok (.aload_n 1, 1) := by decide +kernel
theorem dX1_init_50 : decode cX1_init 50 = .ok (.putfield 30, 3) := by decide +kernel
theorem dX1_init_53 : decode cX1_init 53 = .ok (.aload_n 0, 1) := by decide +kernel
theorem dX1_init_54 : decode cX1_init 54 = .ok (.aload_n 2, 1) := by decide +kernel
theorem dX1_init_55 : decode cX1_init 55 = .ok (.putfield 34, 3) := by decide +kernel
theorem dX1_init_58 : decode cX1_init 58 = .ok (.return_, 1) := by decide +kernel
theorem dX1_begin_0 : decode cX1_begin 0 = .ok (.aload_n 0, 1) := by decide +kernel
theorem dX1_begin_1 : decode cX1_begin 1 = .ok (.iconst 0, 1) := by decide +kernel
theorem dX1_begin_2 : decode cX1_begin 2 = .ok (.putfield 38, 3) := by decide +kernel
theorem dX1_begin_5 : decode cX1_begin 5 = .ok (.aload_n 0, 1) := by decide +kernel
theorem dX1_begin_6 : decode cX1_begin 6 = .ok (.iconst 0, 1) := by decide +kernel
theorem dX1_begin_7 : decode cX1_begin 7 = .ok (.putfield 42, 3) := by decide +kernel
theorem dX1_begin_10 : decode cX1_begin 10 = .ok (.aload_n 0, 1) := by decide +kernel
theorem dX1_begin_11 : decode cX1_begin 11 = .ok (.iconst 0, 1) := by decide +kernel
theorem dX1_begin_12 : decode cX1_begin 12 = .ok (.putfield 46, 3) := by decide +kernel
theorem dX1_begin_15 : decode cX1_begin 15 = .ok (.iconst 0, 1) := by decide +kernel
theorem dX1_begin_16 : decode cX1_begin 16 = .ok (.istore_n 1, 1) := by decide +kernel
theorem dX1_begin_17 : decode cX1_begin 17 = .ok (.iload_n 1, 1) := by decide +kernel
theorem dX1_begin_18 : decode cX1_begin 18 = .ok (.aload_n 0, 1) := by decide +kernel
theorem dX1_begin_19 : decode cX1_begin 19 = .ok (.getfield 24, 3) := by decide +kernel
theorem dX1_begin_22 : decode cX1_begin 22 = .ok (.arraylength, 1) := by decide +kernel
theorem dX1_begin_23 : decode cX1_begin 23 = .ok (.if_icmp .ge 16, 3) := by decide +kernel
theorem dX1_begin_26 : decode cX1_begin 26 = .ok (.aload_n 0, 1) := by decide +kernel
theorem dX1_begin_27 : decode cX1_begin 27 = .ok (.getfield 24, 3) := by decide +kernel
theorem dX1_begin_30 : decode cX1_begin 30 = .ok (.iload_n 1, 1) := by decide +kernel
theorem dX1_begin_31 : decode cX1_begin 31 = .ok (.iconst (-1), 1) := by decide +kernel
theorem dX1_begin_32 : decode cX1_begin 32 = .ok (.iastore, 1) := by decide +kernel
theorem dX1_begin_33 : decode cX1_begin 33 = .ok (.iinc 1 1, 3) := by decide +kernel
theorem dX1_begin_36 : decode cX1_begin 36 = .ok (.goto (-19), 3) := by decide +kernel
theorem dX1_begin_39 : decode cX1_begin 39 = .ok (.return_, 1) := by decide +kernel
theorem dX1_finish_0 : decode cX1_finish 0 = .ok (.aload_n 0, 1) := by decide +kernel
theorem dX1_finish_1 : decode cX1_finish 1 = .ok (.getfield 42, 3) := by decide +kernel
theorem dX1_finish_4 : decode cX1_finish 4 = .ok (.ifCond .eq 6, 3) := by decide +kernel
theorem dX1_finish_7 : decode cX1_finish 7 = .ok (.bipush (-4), 2) := by decide +kernel
theorem dX1_finish_9 : decode cX1_finish 9 = .ok (.ireturn, 1) := by decide +kernel
theorem dX1_finish_10 : decode cX1_finish 10 = .ok (.aload_n 0, 1) := by decide +kernel
theorem dX1_finish_11 : decode cX1_finish 11 = .ok (.getfield 11, 3) := by decide +kernel
theorem dX1_finish_14 : decode cX1_finish 14 = .ok (.astore_n 1, 1) := by decide +kernel
theorem dX1_finish_15 : decode cX1_finish 15 = .ok (.aload_n 0, 1) := by decide +kernel
theorem dX1_finish_16 : decode cX1_finish 16 = .ok (.aload_n 0, 1) := by decide +kernel
theorem dX1_finish_17 : decode cX1_finish 17 = .ok (.getfield 15, 3) := by decide +kernel
theorem dX1_finish_20 : decode cX1_finish 20 = .ok (.putfield 11, 3) := by decide +kernel
theorem dX1_finish_23 : decode cX1_finish 23 = .ok (.aload_n 0, 1) := by decide +kernel
theorem dX1_finish_24 : decode cX1_finish 24 = .ok (.aload_n 1, 1) := by decide +kernel
theorem dX1_finish_25 : decode cX1_finish 25 = .ok (.putfield 15, 3) := by decide +kernel
theorem dX1_finish_28 : decode cX1_finish 28 = .ok (.aload_n 0, 1) := by decide +kernel
theorem dX1_finish_29 : decode cX1_finish 29 = .ok (.aload_n 0, 1) := by decide +kernel
theorem dX1_finish_30 : decode cX1_finish 30 = .ok (.getfield 38, 3) := by decide +kernel
theorem dX1_finish_33 : decode cX1_finish 33 = .ok (.putfield 49, 3) := by decide +kernel
theorem dX1_finish_36 : decode cX1_finish 36 = .ok (.aload_n 0, 1) := by decide +kernel
theorem dX1_finish_37 : decode cX1_finish 37 = .ok (.getfield 49, 3) := by decide +kernel
theorem dX1_finish_40 : decode cX1_finish 40 = .ok (.ireturn, 1) := by decide +kernel
theorem dX1_row_0 : decode cX1_row 0 = .ok (.aload_n 0, 1) := by decide +kernel
theorem dX1_row_1 : decode cX1_row 1 = .ok (.getfield 30, 3) := by decide +kernel
theorem dX1_row_4 : decode cX1_row 4 = .ok (.getfield 52, 3) := by decide +kernel
theorem dX1_row_7 : decode cX1_row 7 = .ok (.iload_n 1, 1) := by decide +kernel
theorem dX1_row_8 : decode cX1_row 8 = .ok (.iaload, 1) := by decide +kernel
theorem dX1_row_9 : decode cX1_row 9 = .ok (.istore_n 3, 1) := by decide +kernel
theorem dX1_row_10 : decode cX1_row 10 = .ok (.iload_n 3, 1) := by decide +kernel
theorem dX1_row_11 : decode cX1_row 11 = .ok (.istore 4, 2) := by decide +kernel
theorem dX1_row_13 : decode cX1_row 13 = .ok (.iload 4, 2) := by decide +kernel
theorem dX1_row_15 : decode cX1_row 15 = .ok (.aload_n 0, 1) := by decide +kernel
theorem dX1_row_16 : decode cX1_row 16 = .ok (.getfield 30, 3) := by decide +kernel
theorem dX1_row_19 : decode cX1_row 19 = .ok (.getfield 52, 3) := by decide +kernel
theorem dX1_row_22 : decode cX1_row 22 = .ok (.iload_n 1, 1) := by decide +kernel
theorem dX1_row_23 : decode cX1_row 23 = .ok (.iconst 1, 1) := by decide +kernel
theorem dX1_row_24 : decode cX1_row 24 = .ok (.iadd, 1) := by decide +kernel
theorem dX1_row_25 : decode cX1_row 25 = .ok (.iaload, 1) := by decide +kernel
theorem dX1_row_26 : decode cX1_row 26 = .ok (.if_icmp .ge 28, 3) := by decide +kernel
theorem dX1_row_29 : decode cX1_row 29 = .ok (.iload 4, 2) := by decide +kernel
theorem dX1_row_31 : decode cX1_row 31 = .ok (.iload_n 3, 1) := by decide +kernel
theorem dX1_row_32 : decode cX1_row 32 = .ok (.if_icmp .le 9, 3) := by decide +kernel
theorem dX1_row_35 : decode cX1_row 35 = .ok (.aload_n 0, 1) := by decide +kernel
theorem dX1_row_36 : decode cX1_row 36 = .ok (.bipush 124, 2) := by decide +kernel
theorem dX1_row_38 : decode cX1_row 38 = .ok (.invokevirtual 57, 3) := by decide +kernel
theorem dX1_row_41 : decode cX1_row 41 = .ok (.aload_n 0, 1) := by decide +kernel
theorem dX1_row_42 : decode cX1_row 42 = .ok (.iload 4, 2) := by decide +kernel
theorem dX1_row_44 : decode cX1_row 44 = .ok (.iload_n 2, 1) := by decide +kernel
theorem dX1_row_45 : decode cX1_row 45 = .ok (.invokevirtual 61, 3) := by decide +kernel
theorem dX1_row_48 : decode cX1_row 48 = .ok (.iinc 4 1, 3) := by decide +kernel
theorem dX1_row_51 : decode cX1_row 51 = .ok (.goto (-38), 3) := by decide +kernel
theorem dX1_row_54 : decode cX1_row 54 = .ok (.iload_n 3, 1) := by decide +kernel
theorem dX1_row_55 : decode cX1_row 55 = .ok (.aload_n 0, 1) := by decide +kernel
theorem dX1_row_56 : decode cX1_row 56 = .ok (.getfield 30, 3) := by decide +kernel
theorem dX1_row_59 : decode cX1_row 59 = .ok (.getfield 52, 3) := by decide +kernel
theorem dX1_row_62 : decode cX1_row 62 = .ok (.iload_n 1, 1) := by decide +kernel
theorem dX1_row_63 : decode cX1_row 63 = .ok (.iconst 1, 1) := by decide +kernel
theorem dX1_row_64 : decode cX1_row 64 = .ok (.iadd, 1) := by decide +kernel
theorem dX1_row_65 : decode cX1_row 65 = .ok (.iaload, 1) := by decide +kernel
theorem dX1_row_66 : decode cX1_row 66 = .ok (.if_icmp .ne 9, 3) := by decide +kernel
theorem dX1_row_69 : decode cX1_row 69 = .ok (.aload_n 0, 1) := by decide +kernel
theorem dX1_row_70 : decode cX1_row 70 = .ok (.bipush 36, 2) := by decide +kernel
theorem dX1_row_72 : decode cX1_row 72 = .ok (.invokevirtual 57, 3) := by decide +kernel
theorem dX1_row_75 : decode cX1_row 75 = .ok (.return_, 1) := by decide +kernel
theorem dX1_literal_0 : decode cX1_literal 0 = .ok (.aload_n 0, 1) := by decide +kernel
theorem dX1_literal_1 : decode cX1_literal 1 = .ok (.getfield 30, 3) := by decide +kernel
theorem dX1_literal_4 : decode cX1_literal 4 = .ok (.getfield 65, 3) := by decide +kernel
theorem dX1_literal_7 : decode cX1_literal 7 = .ok (.iload_n 1, 1) := by decide +kernel
theorem dX1_literal_8 : decode cX1_literal 8 = .ok (.baload, 1) := by decide +kernel
theorem dX1_literal_9 : decode cX1_literal 9 = .ok (.ifCond .eq 9, 3) := by decide +kernel
theorem dX1_literal_12 : decode cX1_literal 12 = .ok (.aload_n 0, 1) := by decide +kernel
theorem dX1_literal_13 : decode cX1_literal 13 = .ok (.bipush 126, 2) := by decide +kernel
theorem dX1_literal_15 : decode cX1_literal 15 = .ok (.invokevirtual 57, 3) := by decide +kernel
theorem dX1_literal_18 : decode cX1_literal 18 = .ok (.aload_n 0, 1) := by decide +kernel
theorem dX1_literal_19 : decode cX1_literal 19 = .ok (.iconst 0, 1) := by decide +kernel
theorem dX1_literal_20 : decode cX1_literal 20 = .ok (.putfield 69, 3) := by decide +kernel
theorem dX1_literal_23 : decode cX1_literal 23 = .ok (.aload_n 0, 1) := by decide +kernel
theorem dX1_literal_24 : decode cX1_literal 24 = .ok (.getfield 34, 3) := by decide +kernel
theorem dX1_literal_27 : decode cX1_literal 27 = .ok (.aload_n 0, 1) := by decide +kernel
theorem dX1_literal_28 : decode cX1_literal 28 = .ok (.getfield 30, 3) := by decide +kernel
theorem dX1_literal_31 : decode cX1_literal 31 = .ok (.getfield 72, 3) := by decide +kernel
theorem dX1_literal_34 : decode cX1_literal 34 = .ok (.iload_n 1, 1) := by decide +kernel
theorem dX1_literal_35 : decode cX1_literal 35 = .ok (.iaload, 1) := by decide +kernel
theorem dX1_literal_36 : decode cX1_literal 36 = .ok (.iload_n 2, 1) := by decide +kernel
theorem dX1_literal_37 : decode cX1_literal 37 = .ok (.iconst 1, 1) := by decide +kernel
theorem dX1_literal_38 : decode cX1_literal 38 = .ok (.invokevirtual 75, 3) := by decide +kernel
theorem dX1_literal_41 : decode cX1_literal 41 = .ok (.iconst 0, 1) := by decide +kernel
theorem dX1_literal_42 : decode cX1_literal 42 = .ok (.istore_n 3, 1) := by decide +kernel
theorem dX1_literal_43 : decode cX1_literal 43 = .ok (.iload_n 3, 1) := by decide +kernel
theorem dX1_literal_44 : decode cX1_literal 44 = .ok (.sipush 4000, 3) := by decide +kernel
theorem dX1_literal_47 : decode cX1_literal 47 = .ok (.if_icmp .gt 103, 3) := by decide +kernel
theorem dX1_literal_50 : decode cX1_literal 50 = .ok (.aload_n 0, 1) := by decide +kernel
theorem dX1_literal_51 : decode cX1_literal 51 = .ok (.getfield 42, 3) := by decide +kernel
theorem dX1_literal_54 : decode cX1_literal 54 = .ok (.ifCond .ne 96, 3) := by decide +kernel
theorem dX1_literal_57 : decode cX1_literal 57 = .ok (.aload_n 0, 1) := by decide +kernel
theorem dX1_literal_58 : decode cX1_literal 58 = .ok (.getfield 34, 3) := by decide +kernel
theorem dX1_literal_61 : decode cX1_literal 61 = .ok (.invokevirtual 81, 3) := by decide +kernel
theorem dX1_literal_64 : decode cX1_literal 64 = .ok (.ifCond .eq 86, 3) := by decide +kernel
theorem dX1_literal_67 : decode cX1_literal 67 = .ok (.iconst 0, 1) := by decide +kernel
theorem dX1_literal_68 : decode cX1_literal 68 = .ok (.istore 4, 2) := by decide +kernel
theorem dX1_literal_70 : decode cX1_literal 70 = .ok (.aload_n 0, 1) := by decide +kernel
theorem dX1_literal_71 : decode cX1_literal 71 = .ok (.getfield 34, 3) := by decide +kernel
theorem dX1_literal_74 : decode cX1_literal 74 = .ok (.invokevirtual 85, 3) := by decide +kernel
theorem dX1_literal_77 : decode cX1_literal 77 = .ok (.ifCond .lt 17, 3) := by decide +kernel
theorem dX1_literal_80 : decode cX1_literal 80 = .ok (.aload_n 0, 1) := by decide +kernel
theorem dX1_literal_81 : decode cX1_literal 81 = .ok (.aload_n 0, 1) := by decide +kernel
theorem dX1_literal_82 : decode cX1_literal 82 = .ok (.getfield 34, 3) := by decide +kernel
theorem dX1_literal_85 : decode cX1_literal 85 = .ok (.invokevirtual 85, 3) := by decide +kernel
theorem dX1_literal_88 : decode cX1_literal 88 = .ok (.invokevirtual 89, 3) := by decide +kernel
theorem dX1_literal_91 : decode cX1_literal 91 = .ok (.goto 28, 3) := by decide +kernel
theorem dX1_literal_94 : decode cX1_literal 94 = .ok (.aload_n 0, 1) := by decide +kernel
theorem dX1_literal_95 : decode cX1_literal 95 = .ok (.aload_n 0, 1) := by decide +kernel
theorem dX1_literal_96 : decode cX1_literal 96 = .ok (.getfield 34, 3) := by decide +kernel
theorem dX1_literal_99 : decode cX1_literal 99 = .ok (.invokevirtual 92, 3) := by decide +kernel
theorem dX1_literal_102 : decode cX1_literal 102 = .ok (.iconst 3, 1) := by decide +kernel
theorem dX1_literal_103 : decode cX1_literal 103 = .ok (.ishr, 1) := by decide +kernel
theorem dX1_literal_104 : decode cX1_literal 104 = .ok (.invokevirtual 95, 3) := by decide +kernel
theorem dX1_literal_107 : decode cX1_literal 107 = .ok (.aload_n 0, 1) := by decide +kernel
theorem dX1_literal_108 : decode cX1_literal 108 = .ok (.getfield 34, 3) := by decide +kernel
theorem dX1_literal_111 : decode cX1_literal 111 = .ok (.invokevirtual 92, 3) := by decide +kernel
theorem dX1_literal_114 : decode cX1_literal 114 = .ok (.bipush 7, 2) := by decide +kernel
theorem dX1_literal_116 : decode cX1_literal 116 = .ok (.iand, 1) := by decide +kernel
theorem dX1_literal_117 : decode cX1_literal 117 = .ok (.istore 4, 2) := by decide +kernel
theorem dX1_literal_119 : decode cX1_literal 119 = .ok (.aload_n 0, 1) := by decide +kernel
theorem dX1_literal_120 : decode cX1_literal 120 = .ok (.getfield 34, 3) := by decide +kernel
theorem dX1_literal_123 : decode cX1_literal 123 = .ok (.invokevirtual 98, 3) := by decide +kernel
theorem dX1_literal_126 : decode cX1_literal 126 = .ok (.iload 4, 2) := by decide +kernel
theorem dX1_literal_128 : decode cX1_literal 128 = .ok (.ifCond .le 12, 3) := by decide +kernel
theorem dX1_literal_131 : decode cX1_literal 131 = .ok (.aload_n 0, 1) := by decide +kernel
theorem dX1_literal_132 : decode cX1_literal 132 = .ok (.iload 4, 2) := by decide +kernel
theorem dX1_literal_134 : decode cX1_literal 134 = .ok (.invokevirtual 101, 3) := by decide +kernel
theorem dX1_literal_137 : decode cX1_literal 137 = .ok (.goto 7, 3) := by decide +kernel
theorem dX1_literal_140 : decode cX1_literal 140 = .ok (.aload_n 0, 1) := by decide +kernel
theorem dX1_literal_141 : decode cX1_literal 141 = .ok (.invokevirtual 104, 3) := by decide +kernel
theorem dX1_literal_144 : decode cX1_literal 144 = .ok (.iinc 3 1, 3) := by decide +kernel
theorem dX1_literal_147 : decode cX1_literal 147 = .ok (.goto (-104), 3) := by decide +kernel
theorem dX1_literal_150 : decode cX1_literal 150 = .ok (.return_, 1) := by decide +kernel
theorem dX1_openBracket_0 : decode cX1_openBracket 0 = .ok (.aload_n 0, 1) := by decide +kernel
theorem dX1_openBracket_1 : decode cX1_openBracket 1 = .ok (.bipush 40, 2) := by decide +kernel
theorem dX1_openBracket_3 : decode cX1_openBracket 3 = .ok (.invokevirtual 57, 3) := by decide +kernel
theorem dX1_openBracket_6 : decode cX1_openBracket 6 = .ok (.aload_n 0, 1) := by decide +kernel
theorem dX1_openBracket_7 : decode cX1_openBracket 7 = .ok (.getfield 69, 3) := by decide +kernel
theorem dX1_openBracket_10 : decode cX1_openBracket 10 = .ok (.sipush 4000, 3) := by decide +kernel
theorem dX1_openBracket_13 : decode cX1_openBracket 13 = .ok (.if_icmp .ge 23, 3) := by decide +kernel
theorem dX1_openBracket_16 : decode cX1_openBracket 16 = .ok (.aload_n 0, 1) := by decide +kernel
theorem dX1_openBracket_17 : decode cX1_openBracket 17 = .ok (.getfield 18, 3) := by decide +kernel
theorem dX1_openBracket_20 : decode cX1_openBracket 20 = .ok (.aload_n 0, 1) := by decide +kernel
theorem dX1_openBracket_21 : decode cX1_openBracket 21 = .ok (.getfield 69, 3) := by decide +kernel
theorem dX1_openBracket_24 : decode cX1_openBracket 24 = .ok (.iload_n 1, 1) := by decide +kernel
theorem dX1_openBracket_25 : decode cX1_openBracket 25 = .ok (.iastore, 1) := by decide +kernel
theorem dX1_openBracket_26 : decode cX1_openBracket 26 = .ok (.aload_n 0, 1) := by decide +kernel
theorem dX1_openBracket_27 : decode cX1_openBracket 27 = .ok (.dup, 1) := by decide +kernel
theorem dX1_openBracket_28 : decode cX1_openBracket 28 = .ok (.getfield 69, 3) := by decide +kernel
theorem dX1_openBracket_31 : decode cX1_openBracket 31 = .ok (.iconst 1, 1) := by decide +kernel
theorem dX1_openBracket_32 : decode cX1_openBracket 32 = .ok (.iadd, 1) := by decide +kernel
theorem dX1_openBracket_33 : decode cX1_openBracket 33 = .ok (.putfield 69, 3) := by decide +kernel
theorem dX1_openBracket_36 : decode cX1_openBracket 36 = .ok (.return_, 1) := by decide +kernel
theorem dX1_endTerm_0 : decode cX1_endTerm 0 = .ok (.aload_n 0, 1) := by decide +kernel
theorem dX1_endTerm_1 : decode cX1_endTerm 1 = .ok (.getfield 69, 3) := by decide +kernel
theorem dX1_endTerm_4 : decode cX1_endTerm 4 = .ok (.ifCond .le 58, 3) := by decide +kernel
theorem dX1_endTerm_7 : decode cX1_endTerm 7 = .ok (.aload_n 0, 1) := by decide +kernel
theorem dX1_endTerm_8 : decode cX1_endTerm 8 = .ok (.getfield 18, 3) := by decide +kernel
theorem dX1_endTerm_11 : decode cX1_endTerm 11 = .ok (.aload_n 0, 1) := by decide +kernel
theorem dX1_endTerm_12 : decode cX1_endTerm 12 = .ok (.getfield 69, 3) := by decide +kernel
theorem dX1_endTerm_15 : decode cX1_endTerm 15 = .ok (.iconst 1, 1) := by decide +kernel
theorem dX1_endTerm_16 : decode cX1_endTerm 16 = .ok (.isub, 1) := by decide +kernel
theorem dX1_endTerm_17 : decode cX1_endTerm 17 = .ok (.dup2, 1) := by decide +kernel
theorem dX1_endTerm_18 : decode cX1_endTerm 18 = .ok (.iaload, 1) := by decide +kernel
theorem dX1_endTerm_19 : decode cX1_endTerm 19 = .ok (.iconst 1, 1) := by decide +kernel
theorem dX1_endTerm_20 : decode cX1_endTerm 20 = .ok (.isub, 1) := by decide +kernel
theorem dX1_endTerm_21 : decode cX1_endTerm 21 = .ok (.iastore, 1) := by decide +kernel
theorem dX1_endTerm_22 : decode cX1_endTerm 22 = .ok (.aload_n 0, 1) := by decide +kernel
theorem dX1_endTerm_23 : decode cX1_endTerm 23 = .ok (.getfield 18, 3) := by decide +kernel
theorem dX1_endTerm_26 : decode cX1_endTerm 26 = .ok (.aload_n 0, 1) := by decide +kernel
theorem dX1_endTerm_27 : decode cX1_endTerm 27 = .ok (.getfield 69, 3) := by decide +kernel
theorem dX1_endTerm_30 : decode cX1_endTerm 30 = .ok (.iconst 1, 1) := by decide +kernel
theorem dX1_endTerm_31 : decode cX1_endTerm 31 = .ok (.isub, 1) := by decide +kernel
theorem dX1_endTerm_32 : decode cX1_endTerm 32 = .ok (.iaload, 1) := by decide +kernel
theorem dX1_endTerm_33 : decode cX1_endTerm 33 = .ok (.ifCond .le 10, 3) := by decide +kernel
theorem dX1_endTerm_36 : decode cX1_endTerm 36 = .ok (.aload_n 0, 1) := by decide +kernel
theorem dX1_endTerm_37 : decode cX1_endTerm 37 = .ok (.bipush 44, 2) := by decide +kernel
theorem dX1_endTerm_39 : decode cX1_endTerm 39 = .ok (.invokevirtual 57, 3) := by decide +kernel
theorem dX1_endTerm_42 : decode cX1_endTerm 42 = .ok (.return_, 1) := by decide +kernel
theorem dX1_endTerm_43 : decode cX1_endTerm 43 = .ok (.aload_n 0, 1) := by decide +kernel
theorem dX1_endTerm_44 : decode cX1_endTerm 44 = .ok (.bipush 41, 2) := by decide +kernel
theorem dX1_endTerm_46 : decode cX1_endTerm 46 = .ok (.invokevirtual 57, 3) := by decide +kernel
theorem dX1_endTerm_49 : decode cX1_endTerm 49 = .ok (.aload_n 0, 1) := by decide +kernel
theorem dX1_endTerm_50 : decode cX1_endTerm 50 = .ok (.dup, 1) := by decide +kernel
theorem dX1_endTerm_51 : decode cX1_endTerm 51 = .ok (.getfield 69, 3) := by decide +kernel
theorem dX1_endTerm_54 : decode cX1_endTerm 54 = .ok (.iconst 1, 1) := by decide +kernel
theorem dX1_endTerm_55 : decode cX1_endTerm 55 = .ok (.isub, 1) := by decide +kernel
theorem dX1_endTerm_56 : decode cX1_endTerm 56 = .ok (.putfield 69, 3) := by decide +kernel
theorem dX1_endTerm_59 : decode cX1_endTerm 59 = .ok (.goto (-59), 3) := by decide +kernel
theorem dX1_endTerm_62 : decode cX1_endTerm 62 = .ok (.return_, 1) := by decide +kernel
theorem dX1_putVariable_0 : decode cX1_putVariable 0 = .ok (.aload_n 0, 1) := by decide +kernel
theorem dX1_putVariable_1 : decode cX1_putVariable 1 = .ok (.getfield 24, 3) := by decide +kernel
theorem dX1_putVariable_4 : decode cX1_putVariable 4 = .ok (.iload_n 1, 1) := by decide +kernel
theorem dX1_putVariable_5 : decode cX1_putVariable 5 = .ok (.iaload, 1) := by decide +kernel
theorem dX1_putVariable_6 : decode cX1_putVariable 6 = .ok (.iconst (-1), 1) := by decide +kernel
theorem dX1_putVariable_7 : decode cX1_putVariable 7 = .ok (.if_icmp .ne 23, 3) := by decide +kernel
theorem dX1_putVariable_10 : decode cX1_putVariable 10 = .ok (.aload_n 0, 1) := by decide +kernel
theorem dX1_putVariable_11 : decode cX1_putVariable 11 = .ok (.getfield 24, 3) := by decide +kernel
theorem dX1_putVariable_14 : decode cX1_putVariable 14 = .ok (.iload_n 1, 1) := by decide +kernel
theorem dX1_putVariable_15 : decode cX1_putVariable 15 = .ok (.aload_n 0, 1) := by decide +kernel
theorem dX1_putVariable_16 : decode cX1_putVariable 16 = .ok (.getfield 46, 3) := by decide +kernel
theorem dX1_putVariable_19 : decode cX1_putVariable 19 = .ok (.iastore, 1) := by decide +kernel
theorem dX1_putVariable_20 : decode cX1_putVariable 20 = .ok (.aload_n 0, 1) := by decide +kernel
theorem dX1_putVariable_21 : decode cX1_putVariable 21 = .ok (.dup, 1) := by decide +kernel
theorem dX1_putVariable_22 : decode cX1_putVariable 22 = .ok (.getfield 46, 3) := by decide +kernel
theorem dX1_putVariable_25 : decode cX1_putVariable 25 = .ok (.iconst 1, 1) := by decide +kernel
theorem dX1_putVariable_26 : decode cX1_putVariable 26 = .ok (.iadd, 1) := by decide +kernel
theorem dX1_putVariable_27 : decode cX1_putVariable 27 = .ok (.putfield 46, 3) := by decide +kernel
theorem dX1_putVariable_30 : decode cX1_putVariable 30 = .ok (.aload_n 0, 1) := by decide +kernel
theorem dX1_putVariable_31 : decode cX1_putVariable 31 = .ok (.bipush 88, 2) := by decide +kernel
theorem dX1_putVariable_33 : decode cX1_putVariable 33 = .ok (.invokevirtual 57, 3) := by decide +kernel
theorem dX1_putVariable_36 : decode cX1_putVariable 36 = .ok (.aload_n 0, 1) := by decide +kernel
theorem dX1_putVariable_37 : decode cX1_putVariable 37 = .ok (.aload_n 0, 1) := by decide +kernel
theorem dX1_putVariable_38 : decode cX1_putVariable 38 = .ok (.getfield 24, 3) := by decide +kernel
theorem dX1_putVariable_41 : decode cX1_putVariable 41 = .ok (.iload_n 1, 1) := by decide +kernel
theorem dX1_putVariable_42 : decode cX1_putVariable 42 = .ok (.iaload, 1) := by decide +kernel
theorem dX1_putVariable_43 : decode cX1_putVariable 43 = .ok (.invokevirtual 107, 3) := by decide +kernel
theorem dX1_putVariable_46 : decode cX1_putVariable 46 = .ok (.return_, 1) := by decide +kernel
theorem dX1_putSymbol_0 : decode cX1_putSymbol 0 = .ok (.iload_n 1, 1) := by decide +kernel
theorem dX1_putSymbol_1 : decode cX1_putSymbol 1 = .ok (.sipush 4096, 3) := by decide +kernel
theorem dX1_putSymbol_4 : decode cX1_putSymbol 4 = .ok (.if_icmp .le 19, 3) := by decide +kernel
theorem dX1_putSymbol_7 : decode cX1_putSymbol 7 = .ok (.aload_n 0, 1) := by decide +kernel
theorem dX1_putSymbol_8 : decode cX1_putSymbol 8 = .ok (.bipush 115, 2) := by decide +kernel
theorem dX1_putSymbol_10 : decode cX1_putSymbol 10 = .ok (.invokevirtual 57, 3) := by decide +kernel
theorem dX1_putSymbol_13 : decode cX1_putSymbol 13 = .ok (.aload_n 0, 1) := by decide +kernel
theorem dX1_putSymbol_14 : decode cX1_putSymbol 14 = .ok (.iload_n 1, 1) := by decide +kernel
theorem dX1_putSymbol_15 : decode cX1_putSymbol 15 = .ok (.sipush 4096, 3) := by decide +kernel
theorem dX1_putSymbol_18 : decode cX1_putSymbol 18 = .ok (.isub, 1) := by decide +kernel
theorem dX1_putSymbol_19 : decode cX1_putSymbol 19 = .ok (.invokevirtual 107, 3) := by decide +kernel
theorem dX1_putSymbol_22 : decode cX1_putSymbol 22 = .ok (.return_, 1) := by decide +kernel
theorem dX1_putSymbol_23 : decode cX1_putSymbol 23 = .ok (.bipush 56, 2) := by decide +kernel
theorem dX1_putSymbol_25 : decode cX1_putSymbol 25 = .ok (.istore_n 2, 1) := by decide +kernel
theorem dX1_putSymbol_26 : decode cX1_putSymbol 26 = .ok (.iload_n 2, 1) := by decide +kernel
theorem dX1_putSymbol_27 : decode cX1_putSymbol 27 = .ok (.ifCond .lt 35, 3) := by decide +kernel
theorem dX1_putSymbol_30 : decode cX1_putSymbol 30 = .ok (.aload_n 0, 1) := by decide +kernel
theorem dX1_putSymbol_31 : decode cX1_putSymbol 31 = .ok (.getfield 30, 3) := by decide +kernel
theorem dX1_putSymbol_34 : decode cX1_putSymbol 34 = .ok (.getfield 112, 3) := by decide +kernel
theorem dX1_putSymbol_37 : decode cX1_putSymbol 37 = .ok (.iload_n 1, 1) := by decide +kernel
theorem dX1_putSymbol_38 : decode cX1_putSymbol 38 = .ok (.laload, 1) := by decide +kernel
theorem dX1_putSymbol_39 : decode cX1_putSymbol 39 = .ok (.iload_n 2, 1) := by decide +kernel
theorem dX1_putSymbol_40 : decode cX1_putSymbol 40 = .ok (.lshr, 1) := by decide +kernel
theorem dX1_putSymbol_41 : decode cX1_putSymbol 41 = .ok (.l2i, 1) := by decide +kernel
theorem dX1_putSymbol_42 : decode cX1_putSymbol 42 = .ok (.sipush 255, 3) := by decide +kernel
theorem dX1_putSymbol_45 : decode cX1_putSymbol 45 = .ok (.iand, 1) := by decide +kernel
theorem dX1_putSymbol_46 : decode cX1_putSymbol 46 = .ok (.istore_n 3, 1) := by decide +kernel
theorem dX1_putSymbol_47 : decode cX1_putSymbol 47 = .ok (.iload_n 3, 1) := by decide +kernel
theorem dX1_putSymbol_48 : decode cX1_putSymbol 48 = .ok (.ifCond .eq 8, 3) := by decide +kernel
theorem dX1_putSymbol_51 : decode cX1_putSymbol 51 = .ok (.aload_n 0, 1) := by decide +kernel
theorem dX1_putSymbol_52 : decode cX1_putSymbol 52 = .ok (.iload_n 3, 1) := by decide +kernel
theorem dX1_putSymbol_53 : decode cX1_putSymbol 53 = .ok (.invokevirtual 57, 3) := by decide +kernel
theorem dX1_putSymbol_56 : decode cX1_putSymbol 56 = .ok (.iinc 2 (-8), 3) := by decide +kernel
theorem dX1_putSymbol_59 : decode cX1_putSymbol 59 = .ok (.goto (-33), 3) := by decide +kernel
theorem dX1_putSymbol_62 : decode cX1_putSymbol 62 = .ok (.return_, 1) := by decide +kernel
theorem dX1_putNumber_0 : decode cX1_putNumber 0 = .ok (.iconst 0, 1) := by decide +kernel
theorem dX1_putNumber_1 : decode cX1_putNumber 1 = .ok (.istore_n 2, 1) := by decide +kernel
theorem dX1_putNumber_2 : decode cX1_putNumber 2 = .ok (.iload_n 1, 1) := by decide +kernel
theorem dX1_putNumber_3 : decode cX1_putNumber 3 = .ok (.istore_n 3, 1) := by decide +kernel
theorem dX1_putNumber_4 : decode cX1_putNumber 4 = .ok (.aload_n 0, 1) := by decide +kernel
theorem dX1_putNumber_5 : decode cX1_putNumber 5 = .ok (.getfield 27, 3) := by decide +kernel
theorem dX1_putNumber_8 : decode cX1_putNumber 8 = .ok (.iload_n 2, 1) := by decide +kernel
theorem dX1_putNumber_9 : decode cX1_putNumber 9 = .ok (.iload_n 3, 1) := by decide +kernel
theorem dX1_putNumber_10 : decode cX1_putNumber 10 = .ok (.bipush 10, 2) := by decide +kernel
theorem dX1_putNumber_12 : decode cX1_putNumber 12 = .ok (.irem, 1) := by decide +kernel
theorem dX1_putNumber_13 : decode cX1_putNumber 13 = .ok (.iastore, 1) := by decide +kernel
theorem dX1_putNumber_14 : decode cX1_putNumber 14 = .ok (.iload_n 3, 1) := by decide +kernel
theorem dX1_putNumber_15 : decode cX1_putNumber 15 = .ok (.bipush 10, 2) := by decide +kernel
theorem dX1_putNumber_17 : decode cX1_putNumber 17 = .ok (.idiv, 1) := by decide +kernel
theorem dX1_putNumber_18 : decode cX1_putNumber 18 = .ok (.istore_n 3, 1) := by decide +kernel
theorem dX1_putNumber_19 : decode cX1_putNumber 19 = .ok (.iinc 2 1, 3) := by decide +kernel
theorem dX1_putNumber_22 : decode cX1_putNumber 22 = .ok (.iload_n 3, 1) := by decide +kernel
theorem dX1_putNumber_23 : decode cX1_putNumber 23 = .ok (.ifCond .le 9, 3) := by decide +kernel
theorem dX1_putNumber_26 : decode cX1_putNumber 26 = .ok (.iload_n 2, 1) := by decide +kernel
theorem dX1_putNumber_27 : decode cX1_putNumber 27 = .ok (.bipush 10, 2) := by decide +kernel
theorem dX1_putNumber_29 : decode cX1_putNumber 29 = .ok (.if_icmp .lt (-25), 3) := by decide +kernel
theorem dX1_putNumber_32 : decode cX1_putNumber 32 = .ok (.iload_n 2, 1) := by decide +kernel
theorem dX1_putNumber_33 : decode cX1_putNumber 33 = .ok (.iconst 1, 1) := by decide +kernel
theorem dX1_putNumber_34 : decode cX1_putNumber 34 = .ok (.isub, 1) := by decide +kernel
theorem dX1_putNumber_35 : decode cX1_putNumber 35 = .ok (.istore 4, 2) := by decide +kernel
theorem dX1_putNumber_37 : decode cX1_putNumber 37 = .ok (.iload 4, 2) := by decide +kernel
theorem dX1_putNumber_39 : decode cX1_putNumber 39 = .ok (.ifCond .lt 23, 3) := by decide +kernel
theorem dX1_putNumber_42 : decode cX1_putNumber 42 = .ok (.aload_n 0, 1) := by decide +kernel
theorem dX1_putNumber_43 : decode cX1_putNumber 43 = .ok (.bipush 48, 2) := by decide +kernel
theorem dX1_putNumber_45 : decode cX1_putNumber 45 = .ok (.aload_n 0, 1) := by decide +kernel
theorem dX1_putNumber_46 : decode cX1_putNumber 46 = .ok (.getfield 27, 3) := by decide +kernel
theorem dX1_putNumber_49 : decode cX1_putNumber 49 = .ok (.iload 4, 2) := by decide +kernel
theorem dX1_putNumber_51 : decode cX1_putNumber 51 = .ok (.iaload, 1) := by decide +kernel
theorem dX1_putNumber_52 : decode cX1_putNumber 52 = .ok (.iadd, 1) := by decide +kernel
theorem dX1_putNumber_53 : decode cX1_putNumber 53 = .ok (.invokevirtual 57, 3) := by decide +kernel
theorem dX1_putNumber_56 : decode cX1_putNumber 56 = .ok (.iinc 4 (-1), 3) := by decide +kernel
theorem dX1_putNumber_59 : decode cX1_putNumber 59 = .ok (.goto (-22), 3) := by decide +kernel
theorem dX1_putNumber_62 : decode cX1_putNumber 62 = .ok (.return_, 1) := by decide +kernel
theorem dX1_put_0 : decode cX1_put 0 = .ok (.aload_n 0, 1) := by decide +kernel
theorem dX1_put_1 : decode cX1_put 1 = .ok (.getfield 38, 3) := by decide +kernel
theorem dX1_put_4 : decode cX1_put 4 = .ok (.sipush 4000, 3) := by decide +kernel
theorem dX1_put_7 : decode cX1_put 7 = .ok (.if_icmp .lt 9, 3) := by decide +kernel
theorem dX1_put_10 : decode cX1_put 10 = .ok (.aload_n 0, 1) := by decide +kernel
theorem dX1_put_11 : decode cX1_put 11 = .ok (.iconst 1, 1) := by decide +kernel
theorem dX1_put_12 : decode cX1_put 12 = .ok (.putfield 42, 3) := by decide +kernel
theorem dX1_put_15 : decode cX1_put 15 = .ok (.return_, 1) := by decide +kernel
theorem dX1_put_16 : decode cX1_put 16 = .ok (.aload_n 0, 1) := by decide +kernel
theorem dX1_put_17 : decode cX1_put 17 = .ok (.getfield 15, 3) := by decide +kernel
theorem dX1_put_20 : decode cX1_put 20 = .ok (.aload_n 0, 1) := by decide +kernel
theorem dX1_put_21 : decode cX1_put 21 = .ok (.getfield 38, 3) := by decide +kernel
theorem dX1_put_24 : decode cX1_put 24 = .ok (.iload_n 1, 1) := by decide +kernel
theorem dX1_put_25 : decode cX1_put 25 = .ok (.i2b, 1) := by decide +kernel
theorem dX1_put_26 : decode cX1_put 26 = .ok (.bastore, 1) := by decide +kernel
theorem dX1_put_27 : decode cX1_put 27 = .ok (.aload_n 0, 1) := by decide +kernel
theorem dX1_put_28 : decode cX1_put 28 = .ok (.dup, 1) := by decide +kernel
theorem dX1_put_29 : decode cX1_put 29 = .ok (.getfield 38, 3) := by decide +kernel
theorem dX1_put_32 : decode cX1_put 32 = .ok (.iconst 1, 1) := by decide +kernel
theorem dX1_put_33 : decode cX1_put 33 = .ok (.iadd, 1) := by decide +kernel
theorem dX1_put_34 : decode cX1_put 34 = .ok (.putfield 38, 3) := by decide +kernel
theorem dX1_put_37 : decode cX1_put 37 = .ok (.return_, 1) := by decide +kernel
theorem dX2_init_0 : decode cX2_init 0 = .ok (.aload_n 0, 1) := by decide +kernel
theorem dX2_init_1 : decode cX2_init 1 = .ok (.invokespecial 3, 3) := by decide +kernel
theorem dX2_init_4 : decode cX2_init 4 = .ok (.aload_n 0, 1) := by decide +kernel
theorem dX2_init_5 : decode cX2_init 5 = .ok (.aload_n 1, 1) := by decide +kernel
theorem dX2_init_6 : decode cX2_init 6 = .ok (.putfield 9, 3) := by decide +kernel
theorem dX2_init_9 : decode cX2_init 9 = .ok (.aload_n 0, 1) := by decide +kernel
theorem dX2_init_10 : decode cX2_init 10 = .ok (.aload_n 2, 1) := by decide +kernel
theorem dX2_init_11 : decode cX2_init 11 = .ok (.putfield 15, 3) := by decide +kernel
theorem dX2_init_14 : decode cX2_init 14 = .ok (.aload_n 0, 1) := by decide +kernel
theorem dX2_init_15 : decode cX2_init 15 = .ok (.aload_n 3, 1) := by decide +kernel
theorem dX2_init_16 : decode cX2_init 16 = .ok (.putfield 19, 3) := by decide +kernel
theorem dX2_init_19 : decode cX2_init 19 = .ok (.return_, 1) := by decide +kernel
theorem dX2_begin_0 : decode cX2_begin 0 = .ok (.aload_n 0, 1) := by decide +kernel
theorem dX2_begin_1 : decode cX2_begin 1 = .ok (.getfield 9, 3) := by decide +kernel
theorem dX2_begin_4 : decode cX2_begin 4 = .ok (.invokevirtual 23, 3) := by decide +kernel
theorem dX2_begin_7 : decode cX2_begin 7 = .ok (.aload_n 0, 1) := by decide +kernel
theorem dX2_begin_8 : decode cX2_begin 8 = .ok (.iconst 0, 1) := by decide +kernel
theorem dX2_begin_9 : decode cX2_begin 9 = .ok (.putfield 28, 3) := by decide +kernel
theorem dX2_begin_12 : decode cX2_begin 12 = .ok (.aload_n 0, 1) := by decide +kernel
theorem dX2_begin_13 : decode cX2_begin 13 = .ok (.iconst 0, 1) := by decide +kernel
theorem dX2_begin_14 : decode cX2_begin 14 = .ok (.putfield 32, 3) := by decide +kernel
theorem dX2_begin_17 : decode cX2_begin 17 = .ok (.return_, 1) := by decide +kernel
theorem dX2_fail_0 : decode cX2_fail 0 = .ok (.aload_n 0, 1) := by decide +kernel
theorem dX2_fail_1 : decode cX2_fail 1 = .ok (.getfield 32, 3) := by decide +kernel
theorem dX2_fail_4 : decode cX2_fail 4 = .ok (.ifCond .ne 13, 3) := by decide +kernel
theorem dX2_fail_7 : decode cX2_fail 7 = .ok (.aload_n 0, 1) := by decide +kernel
theorem dX2_fail_8 : decode cX2_fail 8 = .ok (.iload_n 1, 1) := by decide +kernel
theorem dX2_fail_9 : decode cX2_fail 9 = .ok (.putfield 32, 3) := by decide +kernel
theorem dX2_fail_12 : decode cX2_fail 12 = .ok (.aload_n 0, 1) := by decide +kernel
theorem dX2_fail_13 : decode cX2_fail 13 = .ok (.iload_n 2, 1) := by decide +kernel
theorem dX2_fail_14 : decode cX2_fail 14 = .ok (.putfield 35, 3) := by decide +kernel
theorem dX2_fail_17 : decode cX2_fail 17 = .ok (.return_, 1) := by decide +kernel
theorem dX2_next_0 : decode cX2_next 0 = .ok (.aload_n 0, 1) := by decide +kernel
theorem dX2_next_1 : decode cX2_next 1 = .ok (.getfield 32, 3) := by decide +kernel
theorem dX2_next_4 : decode cX2_next 4 = .ok (.ifCond .eq 5, 3) := by decide +kernel
theorem dX2_next_7 : decode cX2_next 7 = .ok (.iconst 1, 1) := by decide +kernel
theorem dX2_next_8 : decode cX2_next 8 = .ok (.ireturn, 1) := by decide +kernel
theorem dX2_next_9 : decode cX2_next 9 = .ok (.aload_n 0, 1) := by decide +kernel
theorem dX2_next_10 : decode cX2_next 10 = .ok (.getfield 9, 3) := by decide +kernel
theorem dX2_next_13 : decode cX2_next 13 = .ok (.invokevirtual 38, 3) := by decide +kernel
theorem dX2_next_16 : decode cX2_next 16 = .ok (.istore_n 1, 1) := by decide +kernel
theorem dX2_next_17 : decode cX2_next 17 = .ok (.iload_n 1, 1) := by decide +kernel
theorem dX2_next_18 : decode cX2_next 18 = .ok (.ifCond .ne 17, 3) := by decide +kernel
theorem dX2_next_21 : decode cX2_next 21 = .ok (.aload_n 0, 1) := by decide +kernel
theorem dX2_next_22 : decode cX2_next 22 = .ok (.iconst 1, 1) := by decide +kernel
theorem dX2_next_23 : decode cX2_next 23 = .ok (.aload_n 0, 1) := by decide +kernel
theorem dX2_next_24 : decode cX2_next 24 = .ok (.getfield 9, 3) := by decide +kernel
theorem dX2_next_27 : decode cX2_next 27 = .ok (.getfield 42, 3) := by decide +kernel
theorem dX2_next_30 : decode cX2_next 30 = .ok (.invokevirtual 45, 3) := by decide +kernel
theorem dX2_next_33 : decode cX2_next 33 = .ok (.iconst 1, 1) := by decide +kernel
theorem dX2_next_34 : decode cX2_next 34 = .ok (.ireturn, 1) := by decide +kernel
theorem dX2_next_35 : decode cX2_next 35 = .ok (.iload_n 1, 1) := by decide +kernel
theorem dX2_next_36 : decode cX2_next 36 = .ok (.ireturn, 1) := by decide +kernel
theorem dX2_want_0 : decode cX2_want 0 = .ok (.aload_n 0, 1) := by decide +kernel
theorem dX2_want_1 : decode cX2_want 1 = .ok (.invokevirtual 49, 3) := by decide +kernel
theorem dX2_want_4 : decode cX2_want 4 = .ok (.iload_n 1, 1) := by decide +kernel
theorem dX2_want_5 : decode cX2_want 5 = .ok (.if_icmp .eq 17, 3) := by decide +kernel
theorem dX2_want_8 : decode cX2_want 8 = .ok (.aload_n 0, 1) := by decide +kernel
theorem dX2_want_9 : decode cX2_want 9 = .ok (.iconst 2, 1) := by decide +kernel
theorem dX2_want_10 : decode cX2_want 10 = .ok (.aload_n 0, 1) := by decide +kernel
theorem dX2_want_11 : decode cX2_want 11 = .ok (.getfield 9, 3) := by decide +kernel
theorem dX2_want_14 : decode cX2_want 14 = .ok (.getfield 42, 3) := by decide +kernel
theorem dX2_want_17 : decode cX2_want 17 = .ok (.invokevirtual 45, 3) := by decide +kernel
theorem dX2_want_20 : decode cX2_want 20 = .ok (.iconst 0, 1) := by decide +kernel
theorem dX2_want_21 : decode cX2_want 21 = .ok (.ireturn, 1) := by decide +kernel
theorem dX2_want_22 : decode cX2_want 22 = .ok (.aload_n 0, 1) := by decide +kernel
theorem dX2_want_23 : decode cX2_want 23 = .ok (.getfield 9, 3) := by decide +kernel
theorem dX2_want_26 : decode cX2_want 26 = .ok (.invokevirtual 52, 3) := by decide +kernel
theorem dX2_want_29 : decode cX2_want 29 = .ok (.iconst 1, 1) := by decide +kernel
theorem dX2_want_30 : decode cX2_want 30 = .ok (.ireturn, 1) := by decide +kernel
theorem dX2_opens_0 : decode cX2_opens 0 = .ok (.aload_n 0, 1) := by decide +kernel
theorem dX2_opens_1 : decode cX2_opens 1 = .ok (.getfield 28, 3) := by decide +kernel
theorem dX2_opens_4 : decode cX2_opens 4 = .ok (.bipush 30, 2) := by decide +kernel
theorem dX2_opens_6 : decode cX2_opens 6 = .ok (.if_icmp .lt 18, 3) := by decide +kernel
theorem dX2_opens_9 : decode cX2_opens 9 = .ok (.aload_n 0, 1) := by decide +kernel
theorem dX2_opens_10 : decode cX2_opens 10 = .ok (.bipush 6, 2) := by decide +kernel
theorem dX2_opens_12 : decode cX2_opens 12 = .ok (.aload_n 0, 1) := by decide +kernel
theorem dX2_opens_13 : decode cX2_opens 13 = .ok (.getfield 9, 3) := by decide +kernel
theorem dX2_opens_16 : decode cX2_opens 16 = .ok (.getfield 42, 3) := by decide +kernel
theorem dX2_opens_19 : decode cX2_opens 19 = .ok (.invokevirtual 45, 3) := by decide +kernel
theorem dX2_opens_22 : decode cX2_opens 22 = .ok (.iconst 0, 1) := by decide +kernel
theorem dX2_opens_23 : decode cX2_opens 23 = .ok (.ireturn, 1) := by decide +kernel
theorem dX2_opens_24 : decode cX2_opens 24 = .ok (.aload_n 0, 1) := by decide +kernel
theorem dX2_opens_25 : decode cX2_opens 25 = .ok (.dup, 1) := by decide +kernel
theorem dX2_opens_26 : decode cX2_opens 26 = .ok (.getfield 28, 3) := by decide +kernel
theorem dX2_opens_29 : decode cX2_opens 29 = .ok (.iconst 1, 1) := by decide +kernel
theorem dX2_opens_30 : decode cX2_opens 30 = .ok (.iadd, 1) := by decide +kernel
theorem dX2_opens_31 : decode cX2_opens 31 = .ok (.putfield 28, 3) := by decide +kernel
theorem dX2_opens_34 : decode cX2_opens 34 = .ok (.aload_n 0, 1) := by decide +kernel
theorem dX2_opens_35 : decode cX2_opens 35 = .ok (.getfield 9, 3) := by decide +kernel
theorem dX2_opens_38 : decode cX2_opens 38 = .ok (.invokevirtual 52, 3) := by decide +kernel
theorem dX2_opens_41 : decode cX2_opens 41 = .ok (.iconst 1, 1) := by decide +kernel
theorem dX2_opens_42 : decode cX2_opens 42 = .ok (.ireturn, 1) := by decide +kernel
theorem dX2_formula_0 : decode cX2_formula 0 = .ok (.aload_n 0, 1) := by decide +kernel
theorem dX2_formula_1 : decode cX2_formula 1 = .ok (.iconst 0, 1) := by decide +kernel
theorem dX2_formula_2 : decode cX2_formula 2 = .ok (.invokevirtual 55, 3) := by decide +kernel
theorem dX2_formula_5 : decode cX2_formula 5 = .ok (.ireturn, 1) := by decide +kernel
theorem dX2_chain_0 : decode cX2_chain 0 = .ok (.iload_n 1, 1) := by decide +kernel
theorem dX2_chain_1 : decode cX2_chain 1 = .ok (.getstatic 59, 3) := by decide +kernel
theorem dX2_chain_4 : decode cX2_chain 4 = .ok (.arraylength, 1) := by decide +kernel
theorem dX2_chain_5 : decode cX2_chain 5 = .ok (.if_icmp .lt 8, 3) := by decide +kernel
theorem dX2_chain_8 : decode cX2_chain 8 = .ok (.aload_n 0, 1) := by decide +kernel
theorem dX2_chain_9 : decode cX2_chain 9 = .ok (.invokevirtual 63, 3) := by decide +kernel
theorem dX2_chain_12 : decode cX2_chain 12 = .ok (.ireturn, 1) := by decide +kernel
theorem dX2_chain_13 : decode cX2_chain 13 = .ok (.aload_n 0, 1) := by decide +kernel
theorem dX2_chain_14 : decode cX2_chain 14 = .ok (.iload_n 1, 1) := by decide +kernel
theorem dX2_chain_15 : decode cX2_chain 15 = .ok (.iconst 1, 1) := by decide +kernel
theorem dX2_chain_16 : decode cX2_chain 16 = .ok (.iadd, 1) := by decide +kernel
theorem dX2_chain_17 : decode cX2_chain 17 = .ok (.invokevirtual 55, 3) := by decide +kernel
theorem dX2_chain_20 : decode cX2_chain 20 = .ok (.istore_n 2, 1) := by decide +kernel
theorem dX2_chain_21 : decode cX2_chain 21 = .ok (.iconst 0, 1) := by decide +kernel
theorem dX2_chain_22 : decode cX2_chain 22 = .ok (.istore_n 3, 1) := by decide +kernel
theorem dX2_chain_23 : decode cX2_chain 23 = .ok (.iload_n 3, 1) := by decide +kernel
theorem dX2_chain_24 : decode cX2_chain 24 = .ok (.sipush 1500, 3) := by decide +kernel
theorem dX2_chain_27 : decode cX2_chain 27 = .ok (.if_icmp .ge 106, 3) := by decide +kernel
theorem dX2_chain_30 : decode cX2_chain 30 = .ok (.aload_n 0, 1) := by decide +kernel
theorem dX2_chain_31 : decode cX2_chain 31 = .ok (.invokevirtual 49, 3) := by decide +kernel
theorem dX2_chain_34 : decode cX2_chain 34 = .ok (.getstatic 59, 3) := by decide +kernel
theorem dX2_chain_37 : decode cX2_chain 37 = .ok (.iload_n 1, 1) := by decide +kernel
theorem dX2_chain_38 : decode cX2_chain 38 = .ok (.iaload, 1) := by decide +kernel
theorem dX2_chain_39 : decode cX2_chain 39 = .ok (.if_icmp .ne 94, 3) := by decide +kernel
theorem dX2_chain_42 : decode cX2_chain 42 = .ok (.iload_n 1, 1) := by decide +kernel
theorem dX2_chain_43 : decode cX2_chain 43 = .ok (.iconst 1, 1) := by decide +kernel
theorem dX2_chain_44 : decode cX2_chain 44 = .ok (.if_icmp .gt 7, 3) := by decide +kernel
theorem dX2_chain_47 : decode cX2_chain 47 = .ok (.iconst 1, 1) := by decide +kernel
theorem dX2_chain_48 : decode cX2_chain 48 = .ok (.goto 4, 3) := by decide +kernel
theorem dX2_chain_51 : decode cX2_chain 51 = .ok (.iconst 0, 1) := by decide +kernel
theorem dX2_chain_52 : decode cX2_chain 52 = .ok (.istore 4, 2) := by decide +kernel
theorem dX2_chain_54 : decode cX2_chain 54 = .ok (.iload 4, 2) := by decide +kernel
theorem dX2_chain_56 : decode cX2_chain 56 = .ok (.ifCond .ne 13, 3) := by decide +kernel
theorem dX2_chain_59 : decode cX2_chain 59 = .ok (.aload_n 0, 1) := by decide +kernel
theorem dX2_chain_60 : decode cX2_chain 60 = .ok (.getfield 9, 3) := by decide +kernel
theorem dX2_chain_63 : decode cX2_chain 63 = .ok (.invokevirtual 52, 3) := by decide +kernel
theorem dX2_chain_66 : decode cX2_chain 66 = .ok (.goto 12, 3) := by decide +kernel
theorem dX2_chain_69 : decode cX2_chain 69 = .ok (.aload_n 0, 1) := by decide +kernel
theorem dX2_chain_70 : decode cX2_chain 70 = .ok (.invokevirtual 66, 3) := by decide +kernel
theorem dX2_chain_73 : decode cX2_chain 73 = .ok (.ifCond .ne 5, 3) := by decide +kernel
theorem dX2_chain_76 : decode cX2_chain 76 = .ok (.iload_n 2, 1) := by decide +kernel
theorem dX2_chain_77 : decode cX2_chain 77 = .ok (.ireturn, 1) := by decide +kernel
theorem dX2_chain_78 : decode cX2_chain 78 = .ok (.aload_n 0, 1) := by decide +kernel
theorem dX2_chain_79 : decode cX2_chain 79 = .ok (.iload_n 1, 1) := by decide +kernel
theorem dX2_chain_80 : decode cX2_chain 80 = .ok (.iconst 1, 1) := by decide +kernel
theorem dX2_chain_81 : decode cX2_chain 81 = .ok (.if_icmp .ne 7, 3) := by decide +kernel
theorem dX2_chain_84 : decode cX2_chain 84 = .ok (.iload_n 1, 1) := by decide +kernel
theorem dX2_chain_85 : decode cX2_chain 85 = .ok (.goto 6, 3) := by decide +kernel
theorem dX2_chain_88 : decode cX2_chain 88 = .ok (.iload_n 1, 1) := by decide +kernel
theorem dX2_chain_89 : decode cX2_chain 89 = .ok (.iconst 1, 1) := by decide +kernel
theorem dX2_chain_90 : decode cX2_chain 90 = .ok (.iadd, 1) := by decide +kernel
theorem dX2_chain_91 : decode cX2_chain 91 = .ok (.invokevirtual 55, 3) := by decide +kernel
theorem dX2_chain_94 : decode cX2_chain 94 = .ok (.istore 5, 2) := by decide +kernel
theorem dX2_chain_96 : decode cX2_chain 96 = .ok (.iload 4, 2) := by decide +kernel
theorem dX2_chain_98 : decode cX2_chain 98 = .ok (.ifCond .eq 13, 3) := by decide +kernel
theorem dX2_chain_101 : decode cX2_chain 101 = .ok (.aload_n 0, 1) := by decide +kernel
theorem dX2_chain_102 : decode cX2_chain 102 = .ok (.dup, 1) := by decide +kernel
theorem dX2_chain_103 : decode cX2_chain 103 = .ok (.getfield 28, 3) := by decide +kernel
theorem dX2_chain_106 : decode cX2_chain 106 = .ok (.iconst 1, 1) := by decide +kernel
theorem dX2_chain_107 : decode cX2_chain 107 = .ok (.isub, 1) := by decide +kernel
theorem dX2_chain_108 : decode cX2_chain 108 = .ok (.putfield 28, 3) := by decide +kernel
theorem dX2_chain_111 : decode cX2_chain 111 = .ok (.aload_n 0, 1) := by decide +kernel
theorem dX2_chain_112 : decode cX2_chain 112 = .ok (.getfield 19, 3) := by decide +kernel
theorem dX2_chain_115 : decode cX2_chain 115 = .ok (.getstatic 70, 3) := by decide +kernel
theorem dX2_chain_118 : decode cX2_chain 118 = .ok (.iload_n 1, 1) := by decide +kernel
theorem dX2_chain_119 : decode cX2_chain 119 = .ok (.iaload, 1) := by decide +kernel
theorem dX2_chain_120 : decode cX2_chain 120 = .ok (.iload_n 2, 1) := by decide +kernel
theorem dX2_chain_121 : decode cX2_chain 121 = .ok (.iload 5, 2) := by decide +kernel
theorem dX2_chain_123 : decode cX2_chain 123 = .ok (.invokevirtual 73, 3) := by decide +kernel
theorem dX2_chain_126 : decode cX2_chain 126 = .ok (.istore_n 2, 1) := by decide +kernel
theorem dX2_chain_127 : decode cX2_chain 127 = .ok (.iinc 3 1, 3) := by decide +kernel
theorem dX2_chain_130 : decode cX2_chain 130 = .ok (.goto (-107), 3) := by decide +kernel
theorem dX2_chain_133 : decode cX2_chain 133 = .ok (.iload_n 2, 1) := by decide +kernel
theorem dX2_chain_134 : decode cX2_chain 134 = .ok (.ireturn, 1) := by decide +kernel
theorem dX2_unary_0 : decode cX2_unary 0 = .ok (.aload_n 0, 1) := by decide +kernel
theorem dX2_unary_1 : decode cX2_unary 1 = .ok (.invokevirtual 49, 3) := by decide +kernel
theorem dX2_unary_4 : decode cX2_unary 4 = .ok (.istore_n 1, 1) := by decide +kernel
theorem dX2_unary_5 : decode cX2_unary 5 = .ok (.iconst 0, 1) := by decide +kernel
theorem dX2_unary_6 : decode cX2_unary 6 = .ok (.istore_n 2, 1) := by decide +kernel
theorem dX2_unary_7 : decode cX2_unary 7 = .ok (.iload_n 1, 1) := by decide +kernel
theorem dX2_unary_8 : decode cX2_unary 8 = .ok (.iconst 2, 1) := by decide +kernel
theorem dX2_unary_9 : decode cX2_unary 9 = .ok (.if_icmp .ne 33, 3) := by decide +kernel
theorem dX2_unary_12 : decode cX2_unary 12 = .ok (.aload_n 0, 1) := by decide +kernel
theorem dX2_unary_13 : decode cX2_unary 13 = .ok (.getfield 19, 3) := by decide +kernel
theorem dX2_unary_16 : decode cX2_unary 16 = .ok (.getfield 79, 3) := by decide +kernel
theorem dX2_unary_19 : decode cX2_unary 19 = .ok (.istore_n 3, 1) := by decide +kernel
theorem dX2_unary_20 : decode cX2_unary 20 = .ok (.aload_n 0, 1) := by decide +kernel
theorem dX2_unary_21 : decode cX2_unary 21 = .ok (.iconst 1, 1) := by decide +kernel
theorem dX2_unary_22 : decode cX2_unary 22 = .ok (.invokevirtual 82, 3) := by decide +kernel
theorem dX2_unary_25 : decode cX2_unary 25 = .ok (.aload_n 0, 1) := by decide +kernel
theorem dX2_unary_26 : decode cX2_unary 26 = .ok (.getfield 19, 3) := by decide +kernel
theorem dX2_unary_29 : decode cX2_unary 29 = .ok (.iconst 0, 1) := by decide +kernel
theorem dX2_unary_30 : decode cX2_unary 30 = .ok (.iload_n 3, 1) := by decide +kernel
theorem dX2_unary_31 : decode cX2_unary 31 = .ok (.aload_n 0, 1) := by decide +kernel
theorem dX2_unary_32 : decode cX2_unary 32 = .ok (.getfield 19, 3) := by decide +kernel
theorem dX2_unary_35 : decode cX2_unary 35 = .ok (.getfield 79, 3) := by decide +kernel
theorem dX2_unary_38 : decode cX2_unary 38 = .ok (.invokevirtual 73, 3) := by decide +kernel
theorem dX2_unary_41 : decode cX2_unary 41 = .ok (.ireturn, 1) := by decide +kernel
theorem dX2_unary_42 : decode cX2_unary 42 = .ok (.iload_n 1, 1) := by decide +kernel
theorem dX2_unary_43 : decode cX2_unary 43 = .ok (.bipush 12, 2) := by decide +kernel
theorem dX2_unary_45 : decode cX2_unary 45 = .ok (.if_icmp .eq 9, 3) := by decide +kernel
theorem dX2_unary_48 : decode cX2_unary 48 = .ok (.iload_n 1, 1) := by decide +kernel
theorem dX2_unary_49 : decode cX2_unary 49 = .ok (.bipush 13, 2) := by decide +kernel
theorem dX2_unary_51 : decode cX2_unary 51 = .ok (.if_icmp .ne 7, 3) := by decide +kernel
theorem dX2_unary_54 : decode cX2_unary 54 = .ok (.iconst 1, 1) := by decide +kernel
theorem dX2_unary_55 : decode cX2_unary 55 = .ok (.goto 4, 3) := by decide +kernel
theorem dX2_unary_58 : decode cX2_unary 58 = .ok (.iconst 0, 1) := by decide +kernel
theorem dX2_unary_59 : decode cX2_unary 59 = .ok (.istore_n 3, 1) := by decide +kernel
theorem dX2_unary_60 : decode cX2_unary 60 = .ok (.iload_n 3, 1) := by decide +kernel
theorem dX2_unary_61 : decode cX2_unary 61 = .ok (.ifCond .ne 28, 3) := by decide +kernel
theorem dX2_unary_64 : decode cX2_unary 64 = .ok (.iload_n 1, 1) := by decide +kernel
theorem dX2_unary_65 : decode cX2_unary 65 = .ok (.bipush 9, 2) := by decide +kernel
theorem dX2_unary_67 : decode cX2_unary 67 = .ok (.if_icmp .eq 22, 3) := by decide +kernel
theorem dX2_unary_70 : decode cX2_unary 70 = .ok (.iload_n 1, 1) := by decide +kernel
theorem dX2_unary_71 : decode cX2_unary 71 = .ok (.iconst 4, 1) := by decide +kernel
theorem dX2_unary_72 : decode cX2_unary 72 = .ok (.if_icmp .eq 17, 3) := by decide +kernel
theorem dX2_unary_75 : decode cX2_unary 75 = .ok (.aload_n 0, 1) := by decide +kernel
theorem dX2_unary_76 : decode cX2_unary 76 = .ok (.iconst 2, 1) := by decide +kernel
theorem dX2_unary_77 : decode cX2_unary 77 = .ok (.aload_n 0, 1) := by decide +kernel
theorem dX2_unary_78 : decode cX2_unary 78 = .ok (.getfield 9, 3) := by decide +kernel
theorem dX2_unary_81 : decode cX2_unary 81 = .ok (.getfield 42, 3) := by decide +kernel
theorem dX2_unary_84 : decode cX2_unary 84 = .ok (.invokevirtual 45, 3) := by decide +kernel
theorem dX2_unary_87 : decode cX2_unary 87 = .ok (.iload_n 2, 1) := by decide +kernel
theorem dX2_unary_88 : decode cX2_unary 88 = .ok (.ireturn, 1) := by decide +kernel
theorem dX2_unary_89 : decode cX2_unary 89 = .ok (.aload_n 0, 1) := by decide +kernel
theorem dX2_unary_90 : decode cX2_unary 90 = .ok (.invokevirtual 66, 3) := by decide +kernel
theorem dX2_unary_93 : decode cX2_unary 93 = .ok (.ifCond .ne 5, 3) := by decide +kernel
theorem dX2_unary_96 : decode cX2_unary 96 = .ok (.iload_n 2, 1) := by decide +kernel
theorem dX2_unary_97 : decode cX2_unary 97 = .ok (.ireturn, 1) := by decide +kernel
theorem dX2_unary_98 : decode cX2_unary 98 = .ok (.iload_n 1, 1) := by decide +kernel
theorem dX2_unary_99 : decode cX2_unary 99 = .ok (.bipush 9, 2) := by decide +kernel
theorem dX2_unary_101 : decode cX2_unary 101 = .ok (.if_icmp .ne 20, 3) := by decide +kernel
theorem dX2_unary_104 : decode cX2_unary 104 = .ok (.aload_n 0, 1) := by decide +kernel
theorem dX2_unary_105 : decode cX2_unary 105 = .ok (.getfield 19, 3) := by decide +kernel
theorem dX2_unary_108 : decode cX2_unary 108 = .ok (.iconst 1, 1) := by decide +kernel
theorem dX2_unary_109 : decode cX2_unary 109 = .ok (.aload_n 0, 1) := by decide +kernel
theorem dX2_unary_110 : decode cX2_unary 110 = .ok (.invokevirtual 63, 3) := by decide +kernel
theorem dX2_unary_113 : decode cX2_unary 113 = .ok (.iconst 0, 1) := by decide +kernel
theorem dX2_unary_114 : decode cX2_unary 114 = .ok (.invokevirtual 73, 3) := by decide +kernel
theorem dX2_unary_117 : decode cX2_unary 117 = .ok (.istore_n 2, 1) := by decide +kernel
theorem dX2_unary_118 : decode cX2_unary 118 = .ok (.goto 103, 3) := by decide +kernel
theorem dX2_unary_121 : decode cX2_unary 121 = .ok (.iload_n 1, 1) := by decide +kernel
theorem dX2_unary_122 : decode cX2_unary 122 = .ok (.iconst 4, 1) := by decide +kernel
theorem dX2_unary_123 : decode cX2_unary 123 = .ok (.if_icmp .ne 18, 3) := by decide +kernel
theorem dX2_unary_126 : decode cX2_unary 126 = .ok (.aload_n 0, 1) := by decide +kernel
theorem dX2_unary_127 : decode cX2_unary 127 = .ok (.iconst 0, 1) := by decide +kernel
theorem dX2_unary_128 : decode cX2_unary 128 = .ok (.invokevirtual 55, 3) := by decide +kernel
theorem dX2_unary_131 : decode cX2_unary 131 = .ok (.istore_n 2, 1) := by decide +kernel
theorem dX2_unary_132 : decode cX2_unary 132 = .ok (.aload_n 0, 1) := by decide +kernel
theorem dX2_unary_133 : decode cX2_unary 133 = .ok (.iconst 5, 1) := by decide +kernel
theorem dX2_unary_134 : decode cX2_unary 134 = .ok (.invokevirtual 86, 3) := by decide +kernel
theorem dX2_unary_137 : decode cX2_unary 137 = .ok (.pop, 1) := by decide +kernel
theorem dX2_unary_138 : decode cX2_unary 138 = .ok (.goto 83, 3) := by decide +kernel
theorem dX2_unary_141 : decode cX2_unary 141 = .ok (.aload_n 0, 1) := by decide +kernel
theorem dX2_unary_142 : decode cX2_unary 142 = .ok (.iconst 3, 1) := by decide +kernel
theorem dX2_unary_143 : decode cX2_unary 143 = .ok (.invokevirtual 86, 3) := by decide +kernel
theorem dX2_unary_146 : decode cX2_unary 146 = .ok (.ifCond .eq 75, 3) := by decide +kernel
theorem dX2_unary_149 : decode cX2_unary 149 = .ok (.aload_n 0, 1) := by decide +kernel
theorem dX2_unary_150 : decode cX2_unary 150 = .ok (.getfield 19, 3) := by decide +kernel
theorem dX2_unary_153 : decode cX2_unary 153 = .ok (.aload_n 0, 1) := by decide +kernel
theorem dX2_unary_154 : decode cX2_unary 154 = .ok (.getfield 9, 3) := by decide +kernel
theorem dX2_unary_157 : decode cX2_unary 157 = .ok (.getfield 90, 3) := by decide +kernel
theorem dX2_unary_160 : decode cX2_unary 160 = .ok (.invokevirtual 94, 3) := by decide +kernel
theorem dX2_unary_163 : decode cX2_unary 163 = .ok (.istore 4, 2) := by decide +kernel
theorem dX2_unary_165 : decode cX2_unary 165 = .ok (.aload_n 0, 1) := by decide +kernel
theorem dX2_unary_166 : decode cX2_unary 166 = .ok (.bipush 8, 2) := by decide +kernel
theorem dX2_unary_168 : decode cX2_unary 168 = .ok (.invokevirtual 86, 3) := by decide +kernel
theorem dX2_unary_171 : decode cX2_unary 171 = .ok (.ifCond .eq 50, 3) := by decide +kernel
theorem dX2_unary_174 : decode cX2_unary 174 = .ok (.aload_n 0, 1) := by decide +kernel
theorem dX2_unary_175 : decode cX2_unary 175 = .ok (.getfield 19, 3) := by decide +kernel
theorem dX2_unary_178 : decode cX2_unary 178 = .ok (.iload 4, 2) := by decide +kernel
theorem dX2_unary_180 : decode cX2_unary 180 = .ok (.iconst 1, 1) := by decide +kernel
theorem dX2_unary_181 : decode cX2_unary 181 = .ok (.invokevirtual 98, 3) := by decide +kernel
theorem dX2_unary_184 : decode cX2_unary 184 = .ok (.aload_n 0, 1) := by decide +kernel
theorem dX2_unary_185 : decode cX2_unary 185 = .ok (.getfield 19, 3) := by decide +kernel
theorem dX2_unary_188 : decode cX2_unary 188 = .ok (.iload_n 1, 1) := by decide +kernel
theorem dX2_unary_189 : decode cX2_unary 189 = .ok (.bipush 12, 2) := by decide +kernel
theorem dX2_unary_191 : decode cX2_unary 191 = .ok (.if_icmp .ne 8, 3) := by decide +kernel
theorem dX2_unary_194 : decode cX2_unary 194 = .ok (.bipush 6, 2) := by decide +kernel
theorem dX2_unary_196 : decode cX2_unary 196 = .ok (.goto 5, 3) := by decide +kernel
theorem dX2_unary_199 : decode cX2_unary 199 = .ok (.bipush 7, 2) := by decide +kernel
theorem dX2_unary_201 : decode cX2_unary 201 = .ok (.iload 4, 2) := by decide +kernel
theorem dX2_unary_203 : decode cX2_unary 203 = .ok (.aload_n 0, 1) := by decide +kernel
theorem dX2_unary_204 : decode cX2_unary 204 = .ok (.invokevirtual 63, 3) := by decide +kernel
theorem dX2_unary_207 : decode cX2_unary 207 = .ok (.invokevirtual 73, 3) := by decide +kernel
theorem dX2_unary_210 : decode cX2_unary 210 = .ok (.istore_n 2, 1) := by decide +kernel
theorem dX2_unary_211 : decode cX2_unary 211 = .ok (.aload_n 0, 1) := by decide +kernel
theorem dX2_unary_212 : decode cX2_unary 212 = .ok (.getfield 19, 3) := by decide +kernel
theorem dX2_unary_215 : decode cX2_unary 215 = .ok (.iload 4, 2) := by decide +kernel
theorem dX2_unary_217 : decode cX2_unary 217 = .ok (.iconst (-1), 1) := by decide +kernel
theorem dX2_unary_218 : decode cX2_unary 218 = .ok (.invokevirtual 98, 3) := by decide +kernel
theorem dX2_unary_221 : decode cX2_unary 221 = .ok (.aload_n 0, 1) := by decide +kernel
theorem dX2_unary_222 : decode cX2_unary 222 = .ok (.dup, 1) := by decide +kernel
theorem dX2_unary_223 : decode cX2_unary 223 = .ok (.getfield 28, 3) := by decide +kernel
theorem dX2_unary_226 : decode cX2_unary 226 = .ok (.iconst 1, 1) := by decide +kernel
theorem dX2_unary_227 : decode cX2_unary 227 = .ok (.isub, 1) := by decide +kernel
theorem dX2_unary_228 : decode cX2_unary 228 = .ok (.putfield 28, 3) := by decide +kernel
theorem dX2_unary_231 : decode cX2_unary 231 = .ok (.iload_n 2, 1) := by decide +kernel
theorem dX2_unary_232 : decode cX2_unary 232 = .ok (.ireturn, 1) := by decide +kernel
theorem dX2_application_0 : decode cX2_application 0 = .ok (.aload_n 0, 1) := by decide +kernel
theorem dX2_application_1 : decode cX2_application 1 = .ok (.getfield 9, 3) := by decide +kernel
theorem dX2_application_4 : decode cX2_application 4 = .ok (.getfield 42, 3) := by decide +kernel
theorem dX2_application_7 : decode cX2_application 7 = .ok (.istore_n 2, 1) := by decide +kernel
theorem dX2_application_8 : decode cX2_application 8 = .ok (.aload_n 0, 1) := by decide +kernel
theorem dX2_application_9 : decode cX2_application 9 = .ok (.getfield 15, 3) := by decide +kernel
theorem dX2_application_12 : decode cX2_application 12 = .ok (.aload_n 0, 1) := by decide +kernel
theorem dX2_application_13 : decode cX2_application 13 = .ok (.getfield 9, 3) := by decide +kernel
theorem dX2_application_16 : decode cX2_application 16 = .ok (.getfield 90, 3) := by decide +kernel
theorem dX2_application_19 : decode cX2_application 19 = .ok (.invokevirtual 101, 3) := by decide +kernel
theorem dX2_application_22 : decode cX2_application 22 = .ok (.istore_n 3, 1) := by decide +kernel
theorem dX2_application_23 : decode cX2_application 23 = .ok (.aload_n 0, 1) := by decide +kernel
theorem dX2_application_24 : decode cX2_application 24 = .ok (.getfield 9, 3) := by decide +kernel
theorem dX2_application_27 : decode cX2_application 27 = .ok (.invokevirtual 52, 3) := by decide +kernel
theorem dX2_application_30 : decode cX2_application 30 = .ok (.iload_n 3, 1) := by decide +kernel
theorem dX2_application_31 : decode cX2_application 31 = .ok (.ifCond .ge 10, 3) := by decide +kernel
theorem dX2_application_34 : decode cX2_application 34 = .ok (.aload_n 0, 1) := by decide +kernel
theorem dX2_application_35 : decode cX2_application 35 = .ok (.iconst 5, 1) := by decide +kernel
theorem dX2_application_36 : decode cX2_application 36 = .ok (.iload_n 2, 1) := by decide +kernel
theorem dX2_application_37 : decode cX2_application 37 = .ok (.invokevirtual 45, 3) := by decide +kernel
theorem dX2_application_40 : decode cX2_application 40 = .ok (.return_, 1) := by decide +kernel
theorem dX2_application_41 : decode cX2_application 41 = .ok (.aload_n 0, 1) := by decide +kernel
theorem dX2_application_42 : decode cX2_application 42 = .ok (.getfield 19, 3) := by decide +kernel
theorem dX2_application_45 : decode cX2_application 45 = .ok (.iload_n 3, 1) := by decide +kernel
theorem dX2_application_46 : decode cX2_application 46 = .ok (.iconst 3, 1) := by decide +kernel
theorem dX2_application_47 : decode cX2_application 47 = .ok (.ishl, 1) := by decide +kernel
theorem dX2_application_48 : decode cX2_application 48 = .ok (.invokevirtual 106, 3) := by decide +kernel
theorem dX2_application_51 : decode cX2_application 51 = .ok (.istore 4, 2) := by decide +kernel
theorem dX2_application_53 : decode cX2_application 53 = .ok (.iconst 0, 1) := by decide +kernel
theorem dX2_application_54 : decode cX2_application 54 = .ok (.istore 5, 2) := by decide +kernel
theorem dX2_application_56 : decode cX2_application 56 = .ok (.aload_n 0, 1) := by decide +kernel
theorem dX2_application_57 : decode cX2_application 57 = .ok (.invokevirtual 49, 3) := by decide +kernel
theorem dX2_application_60 : decode cX2_application 60 = .ok (.iconst 4, 1) := by decide +kernel
theorem dX2_application_61 : decode cX2_application 61 = .ok (.if_icmp .ne 131, 3) := by decide +kernel
theorem dX2_application_64 : decode cX2_application 64 = .ok (.aload_n 0, 1) := by decide +kernel
theorem dX2_application_65 : decode cX2_application 65 = .ok (.invokevirtual 66, 3) := by decide +kernel
theorem dX2_application_68 : decode cX2_application 68 = .ok (.ifCond .ne 4, 3) := by decide +kernel
theorem dX2_application_71 : decode cX2_application 71 = .ok (.return_, 1) := by decide +kernel
theorem dX2_application_72 : decode cX2_application 72 = .ok (.iconst 1, 1) := by decide +kernel
theorem dX2_application_73 : decode cX2_application 73 = .ok (.istore 6, 2) := by decide +kernel
theorem dX2_application_75 : decode cX2_application 75 = .ok (.iload 6, 2) := by decide +kernel
theorem dX2_application_77 : decode cX2_application 77 = .ok (.ifCond .eq 88, 3) := by decide +kernel
theorem dX2_application_80 : decode cX2_application 80 = .ok (.iload 5, 2) := by decide +kernel
theorem dX2_application_82 : decode cX2_application 82 = .ok (.iconst 5, 1) := by decide +kernel
theorem dX2_application_83 : decode cX2_application 83 = .ok (.if_icmp .ge 82, 3) := by decide +kernel
theorem dX2_application_86 : decode cX2_application 86 = .ok (.aload_n 0, 1) := by decide +kernel
theorem dX2_application_87 : decode cX2_application 87 = .ok (.invokevirtual 49, 3) := by decide +kernel
theorem dX2_application_90 : decode cX2_application 90 = .ok (.iconst 2, 1) := by decide +kernel
theorem dX2_application_91 : decode cX2_application 91 = .ok (.if_icmp .ne 11, 3) := by decide +kernel
theorem dX2_application_94 : decode cX2_application 94 = .ok (.aload_n 0, 1) := by decide +kernel
theorem dX2_application_95 : decode cX2_application 95 = .ok (.iconst 0, 1) := by decide +kernel
theorem dX2_application_96 : decode cX2_application 96 = .ok (.invokevirtual 82, 3) := by decide +kernel
theorem dX2_application_99 : decode cX2_application 99 = .ok (.goto 32, 3) := by decide +kernel
theorem dX2_application_102 : decode cX2_application 102 = .ok (.aload_n 0, 1) := by decide +kernel
theorem dX2_application_103 : decode cX2_application 103 = .ok (.iconst 3, 1) := by decide +kernel
theorem dX2_application_104 : decode cX2_application 104 = .ok (.invokevirtual 86, 3) := by decide +kernel
theorem dX2_application_107 : decode cX2_application 107 = .ok (.ifCond .eq 24, 3) := by decide +kernel
theorem dX2_application_110 : decode cX2_application 110 = .ok (.aload_n 0, 1) := by decide +kernel
theorem dX2_application_111 : decode cX2_application 111 = .ok (.getfield 19, 3) := by decide +kernel
theorem dX2_application_114 : decode cX2_application 114 = .ok (.aload_n 0, 1) := by decide +kernel
theorem dX2_application_115 : decode cX2_application 115 = .ok (.getfield 19, 3) := by decide +kernel
theorem dX2_application_118 : decode cX2_application 118 = .ok (.aload_n 0, 1) := by decide +kernel
theorem dX2_application_119 : decode cX2_application 119 = .ok (.getfield 9, 3) := by decide +kernel
theorem dX2_application_122 : decode cX2_application 122 = .ok (.getfield 90, 3) := by decide +kernel
theorem dX2_application_125 : decode cX2_application 125 = .ok (.invokevirtual 94, 3) := by decide +kernel
theorem dX2_application_128 : decode cX2_application 128 = .ok (.invokevirtual 109, 3) := by decide +kernel
theorem dX2_application_131 : decode cX2_application 131 = .ok (.iinc 5 1, 3) := by decide +kernel
theorem dX2_application_134 : decode cX2_application 134 = .ok (.aload_n 0, 1) := by decide +kernel
theorem dX2_application_135 : decode cX2_application 135 = .ok (.invokevirtual 49, 3) := by decide +kernel
theorem dX2_application_138 : decode cX2_application 138 = .ok (.bipush 6, 2) := by decide +kernel
theorem dX2_application_140 : decode cX2_application 140 = .ok (.if_icmp .ne 7, 3) := by decide +kernel
theorem dX2_application_143 : decode cX2_application 143 = .ok (.iconst 1, 1) := by decide +kernel
theorem dX2_application_144 : decode cX2_application 144 = .ok (.goto 4, 3) := by decide +kernel
theorem dX2_application_147 : decode cX2_application 147 = .ok (.iconst 0, 1) := by decide +kernel
theorem dX2_application_148 : decode cX2_application 148 = .ok (.istore 6, 2) := by decide +kernel
theorem dX2_application_150 : decode cX2_application 150 = .ok (.iload 6, 2) := by decide +kernel
theorem dX2_application_152 : decode cX2_application 152 = .ok (.ifCond .eq (-77), 3) := by decide +kernel
theorem dX2_application_155 : decode cX2_application 155 = .ok (.aload_n 0, 1) := by decide +kernel
theorem dX2_application_156 : decode cX2_application 156 = .ok (.getfield 9, 3) := by decide +kernel
theorem dX2_application_159 : decode cX2_application 159 = .ok (.invokevirtual 52, 3) := by decide +kernel
theorem dX2_application_162 : decode cX2_application 162 = .ok (.goto (-87), 3) := by decide +kernel
theorem dX2_application_165 : decode cX2_application 165 = .ok (.iload 6, 2) := by decide +kernel
theorem dX2_application_167 : decode cX2_application 167 = .ok (.ifCond .eq 9, 3) := by decide +kernel
theorem dX2_application_170 : decode cX2_application 170 = .ok (.aload_n 0, 1) := by decide +kernel
theorem dX2_application_171 : decode cX2_application 171 = .ok (.iconst 4, 1) := by decide +kernel
theorem dX2_application_172 : decode cX2_application 172 = .ok (.iload_n 2, 1) := by decide +kernel
theorem dX2_application_173 : decode cX2_application 173 = .ok (.invokevirtual 45, 3) := by decide +kernel
theorem dX2_application_176 : decode cX2_application 176 = .ok (.aload_n 0, 1) := by decide +kernel
theorem dX2_application_177 : decode cX2_application 177 = .ok (.iconst 5, 1) := by decide +kernel
theorem dX2_application_178 : decode cX2_application 178 = .ok (.invokevirtual 86, 3) := by decide +kernel
theorem dX2_application_181 : decode cX2_application 181 = .ok (.pop, 1) := by decide +kernel
theorem dX2_application_182 : decode cX2_application 182 = .ok (.aload_n 0, 1) := by decide +kernel
theorem dX2_application_183 : decode cX2_application 183 = .ok (.dup, 1) := by decide +kernel
theorem dX2_application_184 : decode cX2_application 184 = .ok (.getfield 28, 3) := by decide +kernel
theorem dX2_application_187 : decode cX2_application 187 = .ok (.iconst 1, 1) := by decide +kernel
theorem dX2_application_188 : decode cX2_application 188 = .ok (.isub, 1) := by decide +kernel
theorem dX2_application_189 : decode cX2_application 189 = .ok (.putfield 28, 3) := by decide +kernel
theorem dX2_application_192 : decode cX2_application 192 = .ok (.aload_n 0, 1) := by decide +kernel
theorem dX2_application_193 : decode cX2_application 193 = .ok (.getfield 32, 3) := by decide +kernel
theorem dX2_application_196 : decode cX2_application 196 = .ok (.ifCond .ne 23, 3) := by decide +kernel
theorem dX2_application_199 : decode cX2_application 199 = .ok (.aload_n 0, 1) := by decide +kernel
theorem dX2_application_200 : decode cX2_application 200 = .ok (.getfield 15, 3) := by decide +kernel
theorem dX2_application_203 : decode cX2_application 203 = .ok (.iload_n 3, 1) := by decide +kernel
theorem dX2_application_204 : decode cX2_application 204 = .ok (.iload 5, 2) := by decide +kernel
theorem dX2_application_206 : decode cX2_application 206 = .ok (.iload_n 1, 1) := by decide +kernel
theorem dX2_application_207 : decode cX2_application 207 = .ok (.invokevirtual 113, 3) := by decide +kernel
theorem dX2_application_210 : decode cX2_application 210 = .ok (.ifCond .ne 9, 3) := by decide +kernel
theorem dX2_application_213 : decode cX2_application 213 = .ok (.aload_n 0, 1) := by decide +kernel
theorem dX2_application_214 : decode cX2_application 214 = .ok (.iconst 3, 1) := by decide +kernel
theorem dX2_application_215 : decode cX2_application 215 = .ok (.iload_n 2, 1) := by decide +kernel
theorem dX2_application_216 : decode cX2_application 216 = .ok (.invokevirtual 45, 3) := by decide +kernel
theorem dX2_application_219 : decode cX2_application 219 = .ok (.aload_n 0, 1) := by decide +kernel
theorem dX2_application_220 : decode cX2_application 220 = .ok (.getfield 19, 3) := by decide +kernel
theorem dX2_application_223 : decode cX2_application 223 = .ok (.getfield 117, 3) := by decide +kernel
theorem dX2_application_226 : decode cX2_application 226 = .ok (.iload 4, 2) := by decide +kernel
theorem dX2_application_228 : decode cX2_application 228 = .ok (.dup2, 1) := by decide +kernel
theorem dX2_application_229 : decode cX2_application 229 = .ok (.iaload, 1) := by decide +kernel
theorem dX2_application_230 : decode cX2_application 230 = .ok (.iload 5, 2) := by decide +kernel
theorem dX2_application_232 : decode cX2_application 232 = .ok (.iadd, 1) := by decide +kernel
theorem dX2_application_233 : decode cX2_application 233 = .ok (.iastore, 1) := by decide +kernel
theorem dX2_application_234 : decode cX2_application 234 = .ok (.return_, 1) := by decide +kernel
theorem dX3_init_0 : decode cX3_init 0 = .ok (.aload_n 0, 1) := by decide +kernel
theorem dX3_init_1 : decode cX3_init 1 = .ok (.invokespecial 5, 3) := by decide +kernel
theorem dX3_init_4 : decode cX3_init 4 = .ok (.aload_n 0, 1) := by decide +kernel
theorem dX3_init_5 : decode cX3_init 5 = .ok (.sipush 151, 3) := by decide +kernel
theorem dX3_init_8 : decode cX3_init 8 = .ok (.newarray .int, 2) := by decide +kernel
theorem dX3_init_10 : decode cX3_init 10 = .ok (.putfield 13, 3) := by decide +kernel
theorem dX3_init_13 : decode cX3_init 13 = .ok (.aload_n 0, 1) := by decide +kernel
theorem dX3_init_14 : decode cX3_init 14 = .ok (.sipush 151, 3) := by decide +kernel
theorem dX3_init_17 : decode cX3_init 17 = .ok (.newarray .int, 2) := by decide +kernel
theorem dX3_init_19 : decode cX3_init 19 = .ok (.putfield 17, 3) := by decide +kernel
theorem dX3_init_22 : decode cX3_init 22 = .ok (.aload_n 0, 1) := by decide +kernel
theorem dX3_init_23 : decode cX3_init 23 = .ok (.sipush 151, 3) := by decide +kernel
theorem dX3_init_26 : decode cX3_init 26 = .ok (.newarray .int, 2) := by decide +kernel
theorem dX3_init_28 : decode cX3_init 28 = .ok (.putfield 20, 3) := by decide +kernel
theorem dX3_init_31 : decode cX3_init 31 = .ok (.aload_n 0, 1) := by decide +kernel
theorem dX3_init_32 : decode cX3_init 32 = .ok (.sipush 151, 3) := by decide +kernel
theorem dX3_init_35 : decode cX3_init 35 = .ok (.newarray .int, 2) := by decide +kernel
theorem dX3_init_37 : decode cX3_init 37 = .ok (.putfield 23, 3) := by decide +kernel
theorem dX3_init_40 : decode cX3_init 40 = .ok (.aload_n 0, 1) := by decide +kernel
theorem dX3_init_41 : decode cX3_init 41 = .ok (.sipush 151, 3) := by decide +kernel
theorem dX3_init_44 : decode cX3_init 44 = .ok (.newarray .int, 2) := by decide +kernel
theorem dX3_init_46 : decode cX3_init 46 = .ok (.putfield 26, 3) := by decide +kernel
theorem dX3_init_49 : decode cX3_init 49 = .ok (.aload_n 0, 1) := by decide +kernel
theorem dX3_init_50 : decode cX3_init 50 = .ok (.sipush 151, 3) := by decide +kernel
theorem dX3_init_53 : decode cX3_init 53 = .ok (.newarray .int, 2) := by decide +kernel
theorem dX3_init_55 : decode cX3_init 55 = .ok (.putfield 29, 3) := by decide +kernel
theorem dX3_init_58 : decode cX3_init 58 = .ok (.aload_n 0, 1) := by decide +kernel
theorem dX3_init_59 : decode cX3_init 59 = .ok (.aload_n 1, 1) := by decide +kernel
theorem dX3_init_60 : decode cX3_init 60 = .ok (.putfield 32, 3) := by decide +kernel
theorem dX3_init_63 : decode cX3_init 63 = .ok (.aload_n 0, 1) := by decide +kernel
theorem dX3_init_64 : decode cX3_init 64 = .ok (.aload_n 2, 1) := by decide +kernel
theorem dX3_init_65 : decode cX3_init 65 = .ok (.putfield 36, 3) := by decide +kernel
theorem dX3_init_68 : decode cX3_init 68 = .ok (.aload_n 0, 1) := by decide +kernel
theorem dX3_init_69 : decode cX3_init 69 = .ok (.aload_n 3, 1) := by decide +kernel
theorem dX3_init_70 : decode cX3_init 70 = .ok (.putfield 40, 3) := by decide +kernel
theorem dX3_init_73 : decode cX3_init 73 = .ok (.return_, 1) := by decide +kernel
theorem dX3_forget_0 : decode cX3_forget 0 = .ok (.aload_n 0, 1) := by decide +kernel
theorem dX3_forget_1 : decode cX3_forget 1 = .ok (.iconst 0, 1) := by decide +kernel
theorem dX3_forget_2 : decode cX3_forget 2 = .ok (.putfield 44, 3) := by decide +kernel
theorem dX3_forget_5 : decode cX3_forget 5 = .ok (.aload_n 0, 1) := by decide +kernel
theorem dX3_forget_6 : decode cX3_forget 6 = .ok (.iconst 0, 1) := by decide +kernel
theorem dX3_forget_7 : decode cX3_forget 7 = .ok (.putfield 48, 3) := by decide +kernel
theorem dX3_forget_10 : decode cX3_forget 10 = .ok (.aload_n 0, 1) := by decide +kernel
theorem dX3_forget_11 : decode cX3_forget 11 = .ok (.iconst 0, 1) := by decide +kernel
theorem dX3_forget_12 : decode cX3_forget 12 = .ok (.putfield 51, 3) := by decide +kernel
theorem dX3_forget_15 : decode cX3_forget 15 = .ok (.return_, 1) := by decide +kernel
theorem dX3_run_0 : decode cX3_run 0 = .ok (.aload_n 0, 1) := by decide +kernel
theorem dX3_run_1 : decode cX3_run 1 = .ok (.invokevirtual 54, 3) := by decide +kernel
theorem dX3_run_4 : decode cX3_run 4 = .ok (.aload_n 0, 1) := by decide +kernel
theorem dX3_run_5 : decode cX3_run 5 = .ok (.iload_n 2, 1) := by decide +kernel
theorem dX3_run_6 : decode cX3_run 6 = .ok (.putfield 57, 3) := by decide +kernel
theorem dX3_run_9 : decode cX3_run 9 = .ok (.aload_n 0, 1) := by decide +kernel
theorem dX3_run_10 : decode cX3_run 10 = .ok (.iconst 1, 1) := by decide +kernel
theorem dX3_run_11 : decode cX3_run 11 = .ok (.putfield 48, 3) := by decide +kernel
theorem dX3_run_14 : decode cX3_run 14 = .ok (.aload_n 0, 1) := by decide +kernel
theorem dX3_run_15 : decode cX3_run 15 = .ok (.getfield 48, 3) := by decide +kernel
theorem dX3_run_18 : decode cX3_run 18 = .ok (.iload_n 1, 1) := by decide +kernel
theorem dX3_run_19 : decode cX3_run 19 = .ok (.if_icmp .gt 57, 3) := by decide +kernel
theorem dX3_run_22 : decode cX3_run 22 = .ok (.aload_n 0, 1) := by decide +kernel
theorem dX3_run_23 : decode cX3_run 23 = .ok (.iconst 0, 1) := by decide +kernel
theorem dX3_run_24 : decode cX3_run 24 = .ok (.putfield 60, 3) := by decide +kernel
theorem dX3_run_27 : decode cX3_run 27 = .ok (.aload_n 0, 1) := by decide +kernel
theorem dX3_run_28 : decode cX3_run 28 = .ok (.invokevirtual 64, 3) := by decide +kernel
theorem dX3_run_31 : decode cX3_run 31 = .ok (.istore_n 3, 1) := by decide +kernel
theorem dX3_run_32 : decode cX3_run 32 = .ok (.iload_n 3, 1) := by decide +kernel
theorem dX3_run_33 : decode cX3_run 33 = .ok (.iconst 1, 1) := by decide +kernel
theorem dX3_run_34 : decode cX3_run 34 = .ok (.if_icmp .ne 13, 3) := by decide +kernel
theorem dX3_run_37 : decode cX3_run 37 = .ok (.aload_n 0, 1) := by decide +kernel
theorem dX3_run_38 : decode cX3_run 38 = .ok (.aload_n 0, 1) := by decide +kernel
theorem dX3_run_39 : decode cX3_run 39 = .ok (.getfield 68, 3) := by decide +kernel
theorem dX3_run_42 : decode cX3_run 42 = .ok (.iconst 1, 1) := by decide +kernel
theorem dX3_run_43 : decode cX3_run 43 = .ok (.iadd, 1) := by decide +kernel
theorem dX3_run_44 : decode cX3_run 44 = .ok (.putfield 51, 3) := by decide +kernel
theorem dX3_run_47 : decode cX3_run 47 = .ok (.iload_n 3, 1) := by decide +kernel
theorem dX3_run_48 : decode cX3_run 48 = .ok (.iconst 3, 1) := by decide +kernel
theorem dX3_run_49 : decode cX3_run 49 = .ok (.if_icmp .eq 5, 3) := by decide +kernel
theorem dX3_run_52 : decode cX3_run 52 = .ok (.iload_n 3, 1) := by decide +kernel
theorem dX3_run_53 : decode cX3_run 53 = .ok (.ireturn, 1) := by decide +kernel
theorem dX3_run_54 : decode cX3_run 54 = .ok (.aload_n 0, 1) := by decide +kernel
theorem dX3_run_55 : decode cX3_run 55 = .ok (.getfield 60, 3) := by decide +kernel
theorem dX3_run_58 : decode cX3_run 58 = .ok (.ifCond .ne 5, 3) := by decide +kernel
theorem dX3_run_61 : decode cX3_run 61 = .ok (.iconst 0, 1) := by decide +kernel
theorem dX3_run_62 : decode cX3_run 62 = .ok (.ireturn, 1) := by decide +kernel
theorem dX3_run_63 : decode cX3_run 63 = .ok (.aload_n 0, 1) := by decide +kernel
theorem dX3_run_64 : decode cX3_run 64 = .ok (.dup, 1) := by decide +kernel
theorem dX3_run_65 : decode cX3_run 65 = .ok (.getfield 48, 3) := by decide +kernel
theorem dX3_run_68 : decode cX3_run 68 = .ok (.iconst 1, 1) := by decide +kernel
theorem dX3_run_69 : decode cX3_run 69 = .ok (.iadd, 1) := by decide +kernel
theorem dX3_run_70 : decode cX3_run 70 = .ok (.putfield 48, 3) := by decide +kernel
theorem dX3_run_73 : decode cX3_run 73 = .ok (.goto (-59), 3) := by decide +kernel
theorem dX3_run_76 : decode cX3_run 76 = .ok (.aload_n 0, 1) := by decide +kernel
theorem dX3_run_77 : decode cX3_run 77 = .ok (.iload_n 1, 1) := by decide +kernel
theorem dX3_run_78 : decode cX3_run 78 = .ok (.putfield 48, 3) := by decide +kernel
theorem dX3_run_81 : decode cX3_run 81 = .ok (.bipush (-5), 2) := by decide +kernel
theorem dX3_run_83 : decode cX3_run 83 = .ok (.ireturn, 1) := by decide +kernel
theorem dX3_runLimit_0 : decode cX3_runLimit 0 = .ok (.aload_n 0, 1) := by decide +kernel
theorem dX3_runLimit_1 : decode cX3_runLimit 1 = .ok (.getfield 36, 3) := by decide +kernel
theorem dX3_runLimit_4 : decode cX3_runLimit 4 = .ok (.iconst 0, 1) := by decide +kernel
theorem dX3_runLimit_5 : decode cX3_runLimit 5 = .ok (.invokevirtual 71, 3) := by decide +kernel
theorem dX3_runLimit_8 : decode cX3_runLimit 8 = .ok (.aload_n 0, 1) := by decide +kernel
theorem dX3_runLimit_9 : decode cX3_runLimit 9 = .ok (.getfield 36, 3) := by decide +kernel
theorem dX3_runLimit_12 : decode cX3_runLimit 12 = .ok (.iconst 0, 1) := by decide +kernel
theorem dX3_runLimit_13 : decode cX3_runLimit 13 = .ok (.putfield 75, 3) := by decide +kernel
theorem dX3_runLimit_16 : decode cX3_runLimit 16 = .ok (.aload_n 0, 1) := by decide +kernel
theorem dX3_runLimit_17 : decode cX3_runLimit 17 = .ok (.getfield 36, 3) := by decide +kernel
theorem dX3_runLimit_20 : decode cX3_runLimit 20 = .ok (.iconst 0, 1) := by decide +kernel
theorem dX3_runLimit_21 : decode cX3_runLimit 21 = .ok (.putfield 78, 3) := by decide +kernel
theorem dX3_runLimit_24 : decode cX3_runLimit 24 = .ok (.aload_n 0, 1) := by decide +kernel
theorem dX3_runLimit_25 : decode cX3_runLimit 25 = .ok (.iconst (-1), 1) := by decide +kernel
theorem dX3_runLimit_26 : decode cX3_runLimit 26 = .ok (.putfield 68, 3) := by decide +kernel
theorem dX3_runLimit_29 : decode cX3_runLimit 29 = .ok (.aload_n 0, 1) := by decide +kernel
theorem dX3_runLimit_30 : decode cX3_runLimit 30 = .ok (.iconst 0, 1) := by decide +kernel
theorem dX3_runLimit_31 : decode cX3_runLimit 31 = .ok (.iconst (-1), 1) := by decide +kernel
theorem dX3_runLimit_32 : decode cX3_runLimit 32 = .ok (.iconst (-1), 1) := by decide +kernel
theorem dX3_runLimit_33 : decode cX3_runLimit 33 = .ok (.invokevirtual 81, 3) := by decide +kernel
theorem dX3_runLimit_36 : decode cX3_runLimit 36 = .ok (.pop, 1) := by decide +kernel
theorem dX3_runLimit_37 : decode cX3_runLimit 37 = .ok (.iconst 0, 1) := by decide +kernel
theorem dX3_runLimit_38 : decode cX3_runLimit 38 = .ok (.istore_n 1, 1) := by decide +kernel
theorem dX3_runLimit_39 : decode cX3_runLimit 39 = .ok (.iload_n 1, 1) := by decide +kernel
theorem dX3_runLimit_40 : decode cX3_runLimit 40 = .ok (.ldc 85, 2) := by decide +kernel
theorem dX3_runLimit_42 : decode cX3_runLimit 42 = .ok (.if_icmp .ge 143, 3) := by decide +kernel
theorem dX3_runLimit_45 : decode cX3_runLimit 45 = .ok (.aload_n 0, 1) := by decide +kernel
theorem dX3_runLimit_46 : decode cX3_runLimit 46 = .ok (.getfield 68, 3) := by decide +kernel
theorem dX3_runLimit_49 : decode cX3_runLimit 49 = .ok (.ifCond .lt 136, 3) := by decide +kernel
theorem dX3_runLimit_52 : decode cX3_runLimit 52 = .ok (.aload_n 0, 1) := by decide +kernel
theorem dX3_runLimit_53 : decode cX3_runLimit 53 = .ok (.getfield 36, 3) := by decide +kernel
theorem dX3_runLimit_56 : decode cX3_runLimit 56 = .ok (.aload_n 0, 1) := by decide +kernel
theorem dX3_runLimit_57 : decode cX3_runLimit 57 = .ok (.getfield 23, 3) := by decide +kernel
theorem dX3_runLimit_60 : decode cX3_runLimit 60 = .ok (.aload_n 0, 1) := by decide +kernel
theorem dX3_runLimit_61 : decode cX3_runLimit 61 = .ok (.getfield 68, 3) := by decide +kernel
theorem dX3_runLimit_64 : decode cX3_runLimit 64 = .ok (.iaload, 1) := by decide +kernel
theorem dX3_runLimit_65 : decode cX3_runLimit 65 = .ok (.invokevirtual 71, 3) := by decide +kernel
theorem dX3_runLimit_68 : decode cX3_runLimit 68 = .ok (.aload_n 0, 1) := by decide +kernel
theorem dX3_runLimit_69 : decode cX3_runLimit 69 = .ok (.getfield 36, 3) := by decide +kernel
theorem dX3_runLimit_72 : decode cX3_runLimit 72 = .ok (.aload_n 0, 1) := by decide +kernel
theorem dX3_runLimit_73 : decode cX3_runLimit 73 = .ok (.getfield 26, 3) := by decide +kernel
theorem dX3_runLimit_76 : decode cX3_runLimit 76 = .ok (.aload_n 0, 1) := by decide +kernel
theorem dX3_runLimit_77 : decode cX3_runLimit 77 = .ok (.getfield 68, 3) := by decide +kernel
theorem dX3_runLimit_80 : decode cX3_runLimit 80 = .ok (.iaload, 1) := by decide +kernel
theorem dX3_runLimit_81 : decode cX3_runLimit 81 = .ok (.putfield 75, 3) := by decide +kernel
theorem dX3_runLimit_84 : decode cX3_runLimit 84 = .ok (.aload_n 0, 1) := by decide +kernel
theorem dX3_runLimit_85 : decode cX3_runLimit 85 = .ok (.getfield 36, 3) := by decide +kernel
theorem dX3_runLimit_88 : decode cX3_runLimit 88 = .ok (.aload_n 0, 1) := by decide +kernel
theorem dX3_runLimit_89 : decode cX3_runLimit 89 = .ok (.getfield 29, 3) := by decide +kernel
theorem dX3_runLimit_92 : decode cX3_runLimit 92 = .ok (.aload_n 0, 1) := by decide +kernel
theorem dX3_runLimit_93 : decode cX3_runLimit 93 = .ok (.getfield 68, 3) := by decide +kernel
theorem dX3_runLimit_96 : decode cX3_runLimit 96 = .ok (.iaload, 1) := by decide +kernel
theorem dX3_runLimit_97 : decode cX3_runLimit 97 = .ok (.putfield 78, 3) := by decide +kernel
theorem dX3_runLimit_100 : decode cX3_runLimit 100 = .ok (.aload_n 0, 1) := by decide +kernel
theorem dX3_runLimit_101 : decode cX3_runLimit 101 = .ok (.invokevirtual 86, 3) := by decide +kernel
theorem dX3_runLimit_104 : decode cX3_runLimit 104 = .ok (.istore_n 2, 1) := by decide +kernel
theorem dX3_runLimit_105 : decode cX3_runLimit 105 = .ok (.iload_n 2, 1) := by decide +kernel
theorem dX3_runLimit_106 : decode cX3_runLimit 106 = .ok (.iconst 3, 1) := by decide +kernel
theorem dX3_runLimit_107 : decode cX3_runLimit 107 = .ok (.if_icmp .ne 16, 3) := by decide +kernel
theorem dX3_runLimit_110 : decode cX3_runLimit 110 = .ok (.aload_n 0, 1) := by decide +kernel
theorem dX3_runLimit_111 : decode cX3_runLimit 111 = .ok (.dup, 1) := by decide +kernel
theorem dX3_runLimit_112 : decode cX3_runLimit 112 = .ok (.getfield 68, 3) := by decide +kernel
theorem dX3_runLimit_115 : decode cX3_runLimit 115 = .ok (.iconst 1, 1) := by decide +kernel
theorem dX3_runLimit_116 : decode cX3_runLimit 116 = .ok (.isub, 1) := by decide +kernel
theorem dX3_runLimit_117 : decode cX3_runLimit 117 = .ok (.putfield 68, 3) := by decide +kernel
theorem dX3_runLimit_120 : decode cX3_runLimit 120 = .ok (.goto 59, 3) := by decide +kernel
theorem dX3_runLimit_123 : decode cX3_runLimit 123 = .ok (.iload_n 2, 1) := by decide +kernel
theorem dX3_runLimit_124 : decode cX3_runLimit 124 = .ok (.iconst 2, 1) := by decide +kernel
theorem dX3_runLimit_125 : decode cX3_runLimit 125 = .ok (.if_icmp .eq 5, 3) := by decide +kernel
theorem dX3_runLimit_128 : decode cX3_runLimit 128 = .ok (.iload_n 2, 1) := by decide +kernel
theorem dX3_runLimit_129 : decode cX3_runLimit 129 = .ok (.ireturn, 1) := by decide +kernel
theorem dX3_runLimit_130 : decode cX3_runLimit 130 = .ok (.aload_n 0, 1) := by decide +kernel
theorem dX3_runLimit_131 : decode cX3_runLimit 131 = .ok (.getfield 89, 3) := by decide +kernel
theorem dX3_runLimit_134 : decode cX3_runLimit 134 = .ok (.ifCond .ge 5, 3) := by decide +kernel
theorem dX3_runLimit_137 : decode cX3_runLimit 137 = .ok (.iconst 1, 1) := by decide +kernel
theorem dX3_runLimit_138 : decode cX3_runLimit 138 = .ok (.ireturn, 1) := by decide +kernel
theorem dX3_runLimit_139 : decode cX3_runLimit 139 = .ok (.aload_n 0, 1) := by decide +kernel
theorem dX3_runLimit_140 : decode cX3_runLimit 140 = .ok (.getfield 40, 3) := by decide +kernel
theorem dX3_runLimit_143 : decode cX3_runLimit 143 = .ok (.aload_n 0, 1) := by decide +kernel
theorem dX3_runLimit_144 : decode cX3_runLimit 144 = .ok (.getfield 89, 3) := by decide +kernel
theorem dX3_runLimit_147 : decode cX3_runLimit 147 = .ok (.invokevirtual 92, 3) := by decide +kernel
theorem dX3_runLimit_150 : decode cX3_runLimit 150 = .ok (.istore_n 3, 1) := by decide +kernel
theorem dX3_runLimit_151 : decode cX3_runLimit 151 = .ok (.iload_n 3, 1) := by decide +kernel
theorem dX3_runLimit_152 : decode cX3_runLimit 152 = .ok (.iconst 2, 1) := by decide +kernel
theorem dX3_runLimit_153 : decode cX3_runLimit 153 = .ok (.if_icmp .eq 23, 3) := by decide +kernel
theorem dX3_runLimit_156 : decode cX3_runLimit 156 = .ok (.iload_n 3, 1) := by decide +kernel
theorem dX3_runLimit_157 : decode cX3_runLimit 157 = .ok (.ifCond .ne 22, 3) := by decide +kernel
theorem dX3_runLimit_160 : decode cX3_runLimit 160 = .ok (.aload_n 0, 1) := by decide +kernel
theorem dX3_runLimit_161 : decode cX3_runLimit 161 = .ok (.iconst 2, 1) := by decide +kernel
theorem dX3_runLimit_162 : decode cX3_runLimit 162 = .ok (.aload_n 0, 1) := by decide +kernel
theorem dX3_runLimit_163 : decode cX3_runLimit 163 = .ok (.getfield 89, 3) := by decide +kernel
theorem dX3_runLimit_166 : decode cX3_runLimit 166 = .ok (.aload_n 0, 1) := by decide +kernel
theorem dX3_runLimit_167 : decode cX3_runLimit 167 = .ok (.getfield 89, 3) := by decide +kernel
theorem dX3_runLimit_170 : decode cX3_runLimit 170 = .ok (.invokevirtual 81, 3) := by decide +kernel
theorem dX3_runLimit_173 : decode cX3_runLimit 173 = .ok (.ifCond .ne 6, 3) := by decide +kernel
theorem dX3_runLimit_176 : decode cX3_runLimit 176 = .ok (.bipush (-7), 2) := by decide +kernel
theorem dX3_runLimit_178 : decode cX3_runLimit 178 = .ok (.ireturn, 1) := by decide +kernel
theorem dX3_runLimit_179 : decode cX3_runLimit 179 = .ok (.iinc 1 1, 3) := by decide +kernel
theorem dX3_runLimit_182 : decode cX3_runLimit 182 = .ok (.goto (-143), 3) := by decide +kernel
theorem dX3_runLimit_185 : decode cX3_runLimit 185 = .ok (.iconst 3, 1) := by decide +kernel
theorem dX3_runLimit_186 : decode cX3_runLimit 186 = .ok (.ireturn, 1) := by decide +kernel
theorem dX3_push_0 : decode cX3_push 0 = .ok (.aload_n 0, 1) := by decide +kernel
theorem dX3_push_1 : decode cX3_push 1 = .ok (.getfield 68, 3) := by decide +kernel
theorem dX3_push_4 : decode cX3_push 4 = .ok (.iconst 1, 1) := by decide +kernel
theorem dX3_push_5 : decode cX3_push 5 = .ok (.iadd, 1) := by decide +kernel
theorem dX3_push_6 : decode cX3_push 6 = .ok (.sipush 151, 3) := by decide +kernel
theorem dX3_push_9 : decode cX3_push 9 = .ok (.if_icmp .lt 5, 3) := by decide +kernel
theorem dX3_push_12 : decode cX3_push 12 = .ok (.iconst 0, 1) := by decide +kernel
theorem dX3_push_13 : decode cX3_push 13 = .ok (.ireturn, 1) := by decide +kernel
theorem dX3_push_14 : decode cX3_push 14 = .ok (.aload_n 0, 1) := by decide +kernel
theorem dX3_push_15 : decode cX3_push 15 = .ok (.dup, 1) := by decide +kernel
theorem dX3_push_16 : decode cX3_push 16 = .ok (.getfield 68, 3) := by decide +kernel
theorem dX3_push_19 : decode cX3_push 19 = .ok (.iconst 1, 1) := by decide +kernel
theorem dX3_push_20 : decode cX3_push 20 = .ok (.iadd, 1) := by decide +kernel
theorem dX3_push_21 : decode cX3_push 21 = .ok (.putfield 68, 3) := by decide +kernel
theorem dX3_push_24 : decode cX3_push 24 = .ok (.aload_n 0, 1) := by decide +kernel
theorem dX3_push_25 : decode cX3_push 25 = .ok (.getfield 13, 3) := by decide +kernel
theorem dX3_push_28 : decode cX3_push 28 = .ok (.aload_n 0, 1) := by decide +kernel
theorem dX3_push_29 : decode cX3_push 29 = .ok (.getfield 68, 3) := by decide +kernel
theorem dX3_push_32 : decode cX3_push 32 = .ok (.iload_n 1, 1) := by decide +kernel
theorem dX3_push_33 : decode cX3_push 33 = .ok (.iastore, 1) := by decide +kernel
theorem dX3_push_34 : decode cX3_push 34 = .ok (.aload_n 0, 1) := by decide +kernel
theorem dX3_push_35 : decode cX3_push 35 = .ok (.getfield 17, 3) := by decide +kernel
theorem dX3_push_38 : decode cX3_push 38 = .ok (.aload_n 0, 1) := by decide +kernel
theorem dX3_push_39 : decode cX3_push 39 = .ok (.getfield 68, 3) := by decide +kernel
theorem dX3_push_42 : decode cX3_push 42 = .ok (.iload_n 2, 1) := by decide +kernel
theorem dX3_push_43 : decode cX3_push 43 = .ok (.iastore, 1) := by decide +kernel
theorem dX3_push_44 : decode cX3_push 44 = .ok (.aload_n 0, 1) := by decide +kernel
theorem dX3_push_45 : decode cX3_push 45 = .ok (.getfield 20, 3) := by decide +kernel
theorem dX3_push_48 : decode cX3_push 48 = .ok (.aload_n 0, 1) := by decide +kernel
theorem dX3_push_49 : decode cX3_push 49 = .ok (.getfield 68, 3) := by decide +kernel
theorem dX3_push_52 : decode cX3_push 52 = .ok (.iload_n 3, 1) := by decide +kernel
theorem dX3_push_53 : decode cX3_push 53 = .ok (.iastore, 1) := by decide +kernel
theorem dX3_push_54 : decode cX3_push 54 = .ok (.aload_n 0, 1) := by decide +kernel
theorem dX3_push_55 : decode cX3_push 55 = .ok (.getfield 23, 3) := by decide +kernel
theorem dX3_push_58 : decode cX3_push 58 = .ok (.aload_n 0, 1) := by decide +kernel
theorem dX3_push_59 : decode cX3_push 59 = .ok (.getfield 68, 3) := by decide +kernel
theorem dX3_push_62 : decode cX3_push 62 = .ok (.aload_n 0, 1) := by decide +kernel
theorem dX3_push_63 : decode cX3_push 63 = .ok (.getfield 36, 3) := by decide +kernel
theorem dX3_push_66 : decode cX3_push 66 = .ok (.getfield 98, 3) := by decide +kernel
theorem dX3_push_69 : decode cX3_push 69 = .ok (.iastore, 1) := by decide +kernel
theorem dX3_push_70 : decode cX3_push 70 = .ok (.aload_n 0, 1) := by decide +kernel
theorem dX3_push_71 : decode cX3_push 71 = .ok (.getfield 26, 3) := by decide +kernel
theorem dX3_push_74 : decode cX3_push 74 = .ok (.aload_n 0, 1) := by decide +kernel
theorem dX3_push_75 : decode cX3_push 75 = .ok (.getfield 68, 3) := by decide +kernel
theorem dX3_push_78 : decode cX3_push 78 = .ok (.aload_n 0, 1) := by decide +kernel
theorem dX3_push_79 : decode cX3_push 79 = .ok (.getfield 36, 3) := by decide +kernel
theorem dX3_push_82 : decode cX3_push 82 = .ok (.getfield 75, 3) := by decide +kernel
theorem dX3_push_85 : decode cX3_push 85 = .ok (.iastore, 1) := by decide +kernel
theorem dX3_push_86 : decode cX3_push 86 = .ok (.aload_n 0, 1) := by decide +kernel
theorem dX3_push_87 : decode cX3_push 87 = .ok (.getfield 29, 3) := by decide +kernel
theorem dX3_push_90 : decode cX3_push 90 = .ok (.aload_n 0, 1) := by decide +kernel
theorem dX3_push_91 : decode cX3_push 91 = .ok (.getfield 68, 3) := by decide +kernel
theorem dX3_push_94 : decode cX3_push 94 = .ok (.aload_n 0, 1) := by decide +kernel
theorem dX3_push_95 : decode cX3_push 95 = .ok (.getfield 36, 3) := by decide +kernel
theorem dX3_push_98 : decode cX3_push 98 = .ok (.getfield 78, 3) := by decide +kernel
theorem dX3_push_101 : decode cX3_push 101 = .ok (.iastore, 1) := by decide +kernel
theorem dX3_push_102 : decode cX3_push 102 = .ok (.iconst 1, 1) := by decide +kernel
theorem dX3_push_103 : decode cX3_push 103 = .ok (.ireturn, 1) := by decide +kernel
theorem dX3_advance_0 : decode cX3_advance 0 = .ok (.iconst 0, 1) := by decide +kernel
theorem dX3_advance_1 : decode cX3_advance 1 = .ok (.istore_n 1, 1) := by decide +kernel
theorem dX3_advance_2 : decode cX3_advance 2 = .ok (.iload_n 1, 1) := by decide +kernel
theorem dX3_advance_3 : decode cX3_advance 3 = .ok (.ldc 85, 2) := by decide +kernel
theorem dX3_advance_5 : decode cX3_advance 5 = .ok (.if_icmp .ge 183, 3) := by decide +kernel
theorem dX3_advance_8 : decode cX3_advance 8 = .ok (.aload_n 0, 1) := by decide +kernel
theorem dX3_advance_9 : decode cX3_advance 9 = .ok (.invokevirtual 101, 3) := by decide +kernel
theorem dX3_advance_12 : decode cX3_advance 12 = .ok (.ifCond .eq 176, 3) := by decide +kernel
theorem dX3_advance_15 : decode cX3_advance 15 = .ok (.aload_n 0, 1) := by decide +kernel
theorem dX3_advance_16 : decode cX3_advance 16 = .ok (.getfield 44, 3) := by decide +kernel
theorem dX3_advance_19 : decode cX3_advance 19 = .ok (.aload_n 0, 1) := by decide +kernel
theorem dX3_advance_20 : decode cX3_advance 20 = .ok (.getfield 57, 3) := by decide +kernel
theorem dX3_advance_23 : decode cX3_advance 23 = .ok (.if_icmp .lt 6, 3) := by decide +kernel
theorem dX3_advance_26 : decode cX3_advance 26 = .ok (.bipush (-6), 2) := by decide +kernel
theorem dX3_advance_28 : decode cX3_advance 28 = .ok (.ireturn, 1) := by decide +kernel
theorem dX3_advance_29 : decode cX3_advance 29 = .ok (.aload_n 0, 1) := by decide +kernel
theorem dX3_advance_30 : decode cX3_advance 30 = .ok (.dup, 1) := by decide +kernel
theorem dX3_advance_31 : decode cX3_advance 31 = .ok (.getfield 44, 3) := by decide +kernel
theorem dX3_advance_34 : decode cX3_advance 34 = .ok (.iconst 1, 1) := by decide +kernel
theorem dX3_advance_35 : decode cX3_advance 35 = .ok (.iadd, 1) := by decide +kernel
theorem dX3_advance_36 : decode cX3_advance 36 = .ok (.putfield 44, 3) := by decide +kernel
theorem dX3_advance_39 : decode cX3_advance 39 = .ok (.iconst 1, 1) := by decide +kernel
theorem dX3_advance_40 : decode cX3_advance 40 = .ok (.istore_n 2, 1) := by decide +kernel
theorem dX3_advance_41 : decode cX3_advance 41 = .ok (.aload_n 0, 1) := by decide +kernel
theorem dX3_advance_42 : decode cX3_advance 42 = .ok (.getfield 13, 3) := by decide +kernel
theorem dX3_advance_45 : decode cX3_advance 45 = .ok (.aload_n 0, 1) := by decide +kernel
theorem dX3_advance_46 : decode cX3_advance 46 = .ok (.getfield 68, 3) := by decide +kernel
theorem dX3_advance_49 : decode cX3_advance 49 = .ok (.iaload, 1) := by decide +kernel
theorem dX3_advance_50 : decode cX3_advance 50 = .ok (.iconst 2, 1) := by decide +kernel
theorem dX3_advance_51 : decode cX3_advance 51 = .ok (.if_icmp .ne 51, 3) := by decide +kernel
theorem dX3_advance_54 : decode cX3_advance 54 = .ok (.aload_n 0, 1) := by decide +kernel
theorem dX3_advance_55 : decode cX3_advance 55 = .ok (.getfield 20, 3) := by decide +kernel
theorem dX3_advance_58 : decode cX3_advance 58 = .ok (.aload_n 0, 1) := by decide +kernel
theorem dX3_advance_59 : decode cX3_advance 59 = .ok (.getfield 68, 3) := by decide +kernel
theorem dX3_advance_62 : decode cX3_advance 62 = .ok (.iaload, 1) := by decide +kernel
theorem dX3_advance_63 : decode cX3_advance 63 = .ok (.istore_n 3, 1) := by decide +kernel
theorem dX3_advance_64 : decode cX3_advance 64 = .ok (.aload_n 0, 1) := by decide +kernel
theorem dX3_advance_65 : decode cX3_advance 65 = .ok (.getfield 40, 3) := by decide +kernel
theorem dX3_advance_68 : decode cX3_advance 68 = .ok (.aload_n 0, 1) := by decide +kernel
theorem dX3_advance_69 : decode cX3_advance 69 = .ok (.getfield 17, 3) := by decide +kernel
theorem dX3_advance_72 : decode cX3_advance 72 = .ok (.aload_n 0, 1) := by decide +kernel
theorem dX3_advance_73 : decode cX3_advance 73 = .ok (.getfield 68, 3) := by decide +kernel
theorem dX3_advance_76 : decode cX3_advance 76 = .ok (.iaload, 1) := by decide +kernel
theorem dX3_advance_77 : decode cX3_advance 77 = .ok (.aload_n 0, 1) := by decide +kernel
theorem dX3_advance_78 : decode cX3_advance 78 = .ok (.getfield 36, 3) := by decide +kernel
theorem dX3_advance_81 : decode cX3_advance 81 = .ok (.getfield 105, 3) := by decide +kernel
theorem dX3_advance_84 : decode cX3_advance 84 = .ok (.iload_n 3, 1) := by decide +kernel
theorem dX3_advance_85 : decode cX3_advance 85 = .ok (.iaload, 1) := by decide +kernel
theorem dX3_advance_86 : decode cX3_advance 86 = .ok (.aload_n 0, 1) := by decide +kernel
theorem dX3_advance_87 : decode cX3_advance 87 = .ok (.getfield 36, 3) := by decide +kernel
theorem dX3_advance_90 : decode cX3_advance 90 = .ok (.getfield 108, 3) := by decide +kernel
theorem dX3_advance_93 : decode cX3_advance 93 = .ok (.iload_n 3, 1) := by decide +kernel
theorem dX3_advance_94 : decode cX3_advance 94 = .ok (.iaload, 1) := by decide +kernel
theorem dX3_advance_95 : decode cX3_advance 95 = .ok (.invokevirtual 111, 3) := by decide +kernel
theorem dX3_advance_98 : decode cX3_advance 98 = .ok (.istore_n 2, 1) := by decide +kernel
theorem dX3_advance_99 : decode cX3_advance 99 = .ok (.goto 49, 3) := by decide +kernel
theorem dX3_advance_102 : decode cX3_advance 102 = .ok (.aload_n 0, 1) := by decide +kernel
theorem dX3_advance_103 : decode cX3_advance 103 = .ok (.getfield 13, 3) := by decide +kernel
theorem dX3_advance_106 : decode cX3_advance 106 = .ok (.aload_n 0, 1) := by decide +kernel
theorem dX3_advance_107 : decode cX3_advance 107 = .ok (.getfield 68, 3) := by decide +kernel
theorem dX3_advance_110 : decode cX3_advance 110 = .ok (.iaload, 1) := by decide +kernel
theorem dX3_advance_111 : decode cX3_advance 111 = .ok (.iconst 1, 1) := by decide +kernel
theorem dX3_advance_112 : decode cX3_advance 112 = .ok (.if_icmp .ne 36, 3) := by decide +kernel
theorem dX3_advance_115 : decode cX3_advance 115 = .ok (.aload_n 0, 1) := by decide +kernel
theorem dX3_advance_116 : decode cX3_advance 116 = .ok (.getfield 40, 3) := by decide +kernel
theorem dX3_advance_119 : decode cX3_advance 119 = .ok (.aload_n 0, 1) := by decide +kernel
theorem dX3_advance_120 : decode cX3_advance 120 = .ok (.getfield 17, 3) := by decide +kernel
theorem dX3_advance_123 : decode cX3_advance 123 = .ok (.aload_n 0, 1) := by decide +kernel
theorem dX3_advance_124 : decode cX3_advance 124 = .ok (.getfield 68, 3) := by decide +kernel
theorem dX3_advance_127 : decode cX3_advance 127 = .ok (.iaload, 1) := by decide +kernel
theorem dX3_advance_128 : decode cX3_advance 128 = .ok (.aload_n 0, 1) := by decide +kernel
theorem dX3_advance_129 : decode cX3_advance 129 = .ok (.getfield 20, 3) := by decide +kernel
theorem dX3_advance_132 : decode cX3_advance 132 = .ok (.aload_n 0, 1) := by decide +kernel
theorem dX3_advance_133 : decode cX3_advance 133 = .ok (.getfield 68, 3) := by decide +kernel
theorem dX3_advance_136 : decode cX3_advance 136 = .ok (.iaload, 1) := by decide +kernel
theorem dX3_advance_137 : decode cX3_advance 137 = .ok (.aload_n 0, 1) := by decide +kernel
theorem dX3_advance_138 : decode cX3_advance 138 = .ok (.getfield 36, 3) := by decide +kernel
theorem dX3_advance_141 : decode cX3_advance 141 = .ok (.getfield 78, 3) := by decide +kernel
theorem dX3_advance_144 : decode cX3_advance 144 = .ok (.invokevirtual 111, 3) := by decide +kernel
theorem dX3_advance_147 : decode cX3_advance 147 = .ok (.istore_n 2, 1) := by decide +kernel
theorem dX3_advance_148 : decode cX3_advance 148 = .ok (.iload_n 2, 1) := by decide +kernel
theorem dX3_advance_149 : decode cX3_advance 149 = .ok (.iconst 1, 1) := by decide +kernel
theorem dX3_advance_150 : decode cX3_advance 150 = .ok (.if_icmp .ne 8, 3) := by decide +kernel
theorem dX3_advance_153 : decode cX3_advance 153 = .ok (.aload_n 0, 1) := by decide +kernel
theorem dX3_advance_154 : decode cX3_advance 154 = .ok (.invokevirtual 115, 3) := by decide +kernel
theorem dX3_advance_157 : decode cX3_advance 157 = .ok (.ireturn, 1) := by decide +kernel
theorem dX3_advance_158 : decode cX3_advance 158 = .ok (.iload_n 2, 1) := by decide +kernel
theorem dX3_advance_159 : decode cX3_advance 159 = .ok (.iconst 2, 1) := by decide +kernel
theorem dX3_advance_160 : decode cX3_advance 160 = .ok (.if_icmp .ne 6, 3) := by decide +kernel
theorem dX3_advance_163 : decode cX3_advance 163 = .ok (.bipush (-7), 2) := by decide +kernel
theorem dX3_advance_165 : decode cX3_advance 165 = .ok (.ireturn, 1) := by decide +kernel
theorem dX3_advance_166 : decode cX3_advance 166 = .ok (.aload_n 0, 1) := by decide +kernel
theorem dX3_advance_167 : decode cX3_advance 167 = .ok (.getfield 36, 3) := by decide +kernel
theorem dX3_advance_170 : decode cX3_advance 170 = .ok (.aload_n 0, 1) := by decide +kernel
theorem dX3_advance_171 : decode cX3_advance 171 = .ok (.getfield 23, 3) := by decide +kernel
theorem dX3_advance_174 : decode cX3_advance 174 = .ok (.aload_n 0, 1) := by decide +kernel
theorem dX3_advance_175 : decode cX3_advance 175 = .ok (.getfield 68, 3) := by decide +kernel
theorem dX3_advance_178 : decode cX3_advance 178 = .ok (.iaload, 1) := by decide +kernel
theorem dX3_advance_179 : decode cX3_advance 179 = .ok (.invokevirtual 71, 3) := by decide +kernel
theorem dX3_advance_182 : decode cX3_advance 182 = .ok (.iinc 1 1, 3) := by decide +kernel
theorem dX3_advance_185 : decode cX3_advance 185 = .ok (.goto (-183), 3) := by decide +kernel
theorem dX3_advance_188 : decode cX3_advance 188 = .ok (.iconst 3, 1) := by decide +kernel
theorem dX3_advance_189 : decode cX3_advance 189 = .ok (.ireturn, 1) := by decide +kernel
theorem dX3_nextChoice_0 : decode cX3_nextChoice 0 = .ok (.aload_n 0, 1) := by decide +kernel
theorem dX3_nextChoice_1 : decode cX3_nextChoice 1 = .ok (.getfield 13, 3) := by decide +kernel
theorem dX3_nextChoice_4 : decode cX3_nextChoice 4 = .ok (.aload_n 0, 1) := by decide +kernel
theorem dX3_nextChoice_5 : decode cX3_nextChoice 5 = .ok (.getfield 68, 3) := by decide +kernel
theorem dX3_nextChoice_8 : decode cX3_nextChoice 8 = .ok (.iaload, 1) := by decide +kernel
theorem dX3_nextChoice_9 : decode cX3_nextChoice 9 = .ok (.ifCond .ne 8, 3) := by decide +kernel
theorem dX3_nextChoice_12 : decode cX3_nextChoice 12 = .ok (.aload_n 0, 1) := by decide +kernel
theorem dX3_nextChoice_13 : decode cX3_nextChoice 13 = .ok (.invokevirtual 118, 3) := by decide +kernel
theorem dX3_nextChoice_16 : decode cX3_nextChoice 16 = .ok (.ireturn, 1) := by decide +kernel
theorem dX3_nextChoice_17 : decode cX3_nextChoice 17 = .ok (.aload_n 0, 1) := by decide +kernel
theorem dX3_nextChoice_18 : decode cX3_nextChoice 18 = .ok (.getfield 13, 3) := by decide +kernel
theorem dX3_nextChoice_21 : decode cX3_nextChoice 21 = .ok (.aload_n 0, 1) := by decide +kernel
theorem dX3_nextChoice_22 : decode cX3_nextChoice 22 = .ok (.getfield 68, 3) := by decide +kernel
theorem dX3_nextChoice_25 : decode cX3_nextChoice 25 = .ok (.iaload, 1) := by decide +kernel
theorem dX3_nextChoice_26 : decode cX3_nextChoice 26 = .ok (.iconst 2, 1) := by decide +kernel
theorem dX3_nextChoice_27 : decode cX3_nextChoice 27 = .ok (.if_icmp .ne 32, 3) := by decide +kernel
theorem dX3_nextChoice_30 : decode cX3_nextChoice 30 = .ok (.aload_n 0, 1) := by decide +kernel
theorem dX3_nextChoice_31 : decode cX3_nextChoice 31 = .ok (.invokevirtual 121, 3) := by decide +kernel
theorem dX3_nextChoice_34 : decode cX3_nextChoice 34 = .ok (.ifCond .eq 5, 3) := by decide +kernel
theorem dX3_nextChoice_37 : decode cX3_nextChoice 37 = .ok (.iconst 1, 1) := by decide +kernel
theorem dX3_nextChoice_38 : decode cX3_nextChoice 38 = .ok (.ireturn, 1) := by decide +kernel
theorem dX3_nextChoice_39 : decode cX3_nextChoice 39 = .ok (.aload_n 0, 1) := by decide +kernel
theorem dX3_nextChoice_40 : decode cX3_nextChoice 40 = .ok (.getfield 13, 3) := by decide +kernel
theorem dX3_nextChoice_43 : decode cX3_nextChoice 43 = .ok (.aload_n 0, 1) := by decide +kernel
theorem dX3_nextChoice_44 : decode cX3_nextChoice 44 = .ok (.getfield 68, 3) := by decide +kernel
theorem dX3_nextChoice_47 : decode cX3_nextChoice 47 = .ok (.iconst 1, 1) := by decide +kernel
theorem dX3_nextChoice_48 : decode cX3_nextChoice 48 = .ok (.iastore, 1) := by decide +kernel
theorem dX3_nextChoice_49 : decode cX3_nextChoice 49 = .ok (.aload_n 0, 1) := by decide +kernel
theorem dX3_nextChoice_50 : decode cX3_nextChoice 50 = .ok (.getfield 20, 3) := by decide +kernel
theorem dX3_nextChoice_53 : decode cX3_nextChoice 53 = .ok (.aload_n 0, 1) := by decide +kernel
theorem dX3_nextChoice_54 : decode cX3_nextChoice 54 = .ok (.getfield 68, 3) := by decide +kernel
theorem dX3_nextChoice_57 : decode cX3_nextChoice 57 = .ok (.iconst (-1), 1) := by decide +kernel
theorem dX3_nextChoice_58 : decode cX3_nextChoice 58 = .ok (.iastore, 1) := by decide +kernel
theorem dX3_nextChoice_59 : decode cX3_nextChoice 59 = .ok (.aload_n 0, 1) := by decide +kernel
theorem dX3_nextChoice_60 : decode cX3_nextChoice 60 = .ok (.getfield 36, 3) := by decide +kernel
theorem dX3_nextChoice_63 : decode cX3_nextChoice 63 = .ok (.getfield 124, 3) := by decide +kernel
theorem dX3_nextChoice_66 : decode cX3_nextChoice 66 = .ok (.aload_n 0, 1) := by decide +kernel
theorem dX3_nextChoice_67 : decode cX3_nextChoice 67 = .ok (.getfield 17, 3) := by decide +kernel
theorem dX3_nextChoice_70 : decode cX3_nextChoice 70 = .ok (.aload_n 0, 1) := by decide +kernel
theorem dX3_nextChoice_71 : decode cX3_nextChoice 71 = .ok (.getfield 68, 3) := by decide +kernel
theorem dX3_nextChoice_74 : decode cX3_nextChoice 74 = .ok (.iaload, 1) := by decide +kernel
theorem dX3_nextChoice_75 : decode cX3_nextChoice 75 = .ok (.iaload, 1) := by decide +kernel
theorem dX3_nextChoice_76 : decode cX3_nextChoice 76 = .ok (.aload_n 0, 1) := by decide +kernel
theorem dX3_nextChoice_77 : decode cX3_nextChoice 77 = .ok (.getfield 48, 3) := by decide +kernel
theorem dX3_nextChoice_80 : decode cX3_nextChoice 80 = .ok (.if_icmp .lt 18, 3) := by decide +kernel
theorem dX3_nextChoice_83 : decode cX3_nextChoice 83 = .ok (.aload_n 0, 1) := by decide +kernel
theorem dX3_nextChoice_84 : decode cX3_nextChoice 84 = .ok (.dup, 1) := by decide +kernel
theorem dX3_nextChoice_85 : decode cX3_nextChoice 85 = .ok (.getfield 60, 3) := by decide +kernel
theorem dX3_nextChoice_88 : decode cX3_nextChoice 88 = .ok (.aload_n 0, 1) := by decide +kernel
theorem dX3_nextChoice_89 : decode cX3_nextChoice 89 = .ok (.invokevirtual 127, 3) := by decide +kernel
theorem dX3_nextChoice_92 : decode cX3_nextChoice 92 = .ok (.ior, 1) := by decide +kernel
theorem dX3_nextChoice_93 : decode cX3_nextChoice 93 = .ok (.putfield 60, 3) := by decide +kernel
theorem dX3_nextChoice_96 : decode cX3_nextChoice 96 = .ok (.iconst 0, 1) := by decide +kernel
theorem dX3_nextChoice_97 : decode cX3_nextChoice 97 = .ok (.ireturn, 1) := by decide +kernel
theorem dX3_nextChoice_98 : decode cX3_nextChoice 98 = .ok (.aload_n 0, 1) := by decide +kernel
theorem dX3_nextChoice_99 : decode cX3_nextChoice 99 = .ok (.invokevirtual 127, 3) := by decide +kernel
theorem dX3_nextChoice_102 : decode cX3_nextChoice 102 = .ok (.ireturn, 1) := by decide +kernel
theorem dX3_nextStart_0 : decode cX3_nextStart 0 = .ok (.aload_n 0, 1) := by decide +kernel
theorem dX3_nextStart_1 : decode cX3_nextStart 1 = .ok (.getfield 20, 3) := by decide +kernel
theorem dX3_nextStart_4 : decode cX3_nextStart 4 = .ok (.aload_n 0, 1) := by decide +kernel
theorem dX3_nextStart_5 : decode cX3_nextStart 5 = .ok (.getfield 68, 3) := by decide +kernel
theorem dX3_nextStart_8 : decode cX3_nextStart 8 = .ok (.iaload, 1) := by decide +kernel
theorem dX3_nextStart_9 : decode cX3_nextStart 9 = .ok (.iconst 1, 1) := by decide +kernel
theorem dX3_nextStart_10 : decode cX3_nextStart 10 = .ok (.iadd, 1) := by decide +kernel
theorem dX3_nextStart_11 : decode cX3_nextStart 11 = .ok (.istore_n 1, 1) := by decide +kernel
theorem dX3_nextStart_12 : decode cX3_nextStart 12 = .ok (.iload_n 1, 1) := by decide +kernel
theorem dX3_nextStart_13 : decode cX3_nextStart 13 = .ok (.aload_n 0, 1) := by decide +kernel
theorem dX3_nextStart_14 : decode cX3_nextStart 14 = .ok (.getfield 32, 3) := by decide +kernel
theorem dX3_nextStart_17 : decode cX3_nextStart 17 = .ok (.getfield 130, 3) := by decide +kernel
theorem dX3_nextStart_20 : decode cX3_nextStart 20 = .ok (.if_icmp .ge 32, 3) := by decide +kernel
theorem dX3_nextStart_23 : decode cX3_nextStart 23 = .ok (.aload_n 0, 1) := by decide +kernel
theorem dX3_nextStart_24 : decode cX3_nextStart 24 = .ok (.getfield 32, 3) := by decide +kernel
theorem dX3_nextStart_27 : decode cX3_nextStart 27 = .ok (.iload_n 1, 1) := by decide +kernel
theorem dX3_nextStart_28 : decode cX3_nextStart 28 = .ok (.invokevirtual 135, 3) := by decide +kernel
theorem dX3_nextStart_31 : decode cX3_nextStart 31 = .ok (.ifCond .eq 15, 3) := by decide +kernel
theorem dX3_nextStart_34 : decode cX3_nextStart 34 = .ok (.aload_n 0, 1) := by decide +kernel
theorem dX3_nextStart_35 : decode cX3_nextStart 35 = .ok (.getfield 20, 3) := by decide +kernel
theorem dX3_nextStart_38 : decode cX3_nextStart 38 = .ok (.aload_n 0, 1) := by decide +kernel
theorem dX3_nextStart_39 : decode cX3_nextStart 39 = .ok (.getfield 68, 3) := by decide +kernel
theorem dX3_nextStart_42 : decode cX3_nextStart 42 = .ok (.iload_n 1, 1) := by decide +kernel
theorem dX3_nextStart_43 : decode cX3_nextStart 43 = .ok (.iastore, 1) := by decide +kernel
theorem dX3_nextStart_44 : decode cX3_nextStart 44 = .ok (.iconst 1, 1) := by decide +kernel
theorem dX3_nextStart_45 : decode cX3_nextStart 45 = .ok (.ireturn, 1) := by decide +kernel
theorem dX3_nextStart_46 : decode cX3_nextStart 46 = .ok (.iinc 1 1, 3) := by decide +kernel
theorem dX3_nextStart_49 : decode cX3_nextStart 49 = .ok (.goto (-37), 3) := by decide +kernel
theorem dX3_nextStart_52 : decode cX3_nextStart 52 = .ok (.iconst 0, 1) := by decide +kernel
theorem dX3_nextStart_53 : decode cX3_nextStart 53 = .ok (.ireturn, 1) := by decide +kernel
theorem dX3_nextAbove_0 : decode cX3_nextAbove 0 = .ok (.aload_n 0, 1) := by decide +kernel
theorem dX3_nextAbove_1 : decode cX3_nextAbove 1 = .ok (.getfield 36, 3) := by decide +kernel
theorem dX3_nextAbove_4 : decode cX3_nextAbove 4 = .ok (.getfield 139, 3) := by decide +kernel
theorem dX3_nextAbove_7 : decode cX3_nextAbove 7 = .ok (.aload_n 0, 1) := by decide +kernel
theorem dX3_nextAbove_8 : decode cX3_nextAbove 8 = .ok (.getfield 20, 3) := by decide +kernel
theorem dX3_nextAbove_11 : decode cX3_nextAbove 11 = .ok (.aload_n 0, 1) := by decide +kernel
theorem dX3_nextAbove_12 : decode cX3_nextAbove 12 = .ok (.getfield 68, 3) := by decide +kernel
theorem dX3_nextAbove_15 : decode cX3_nextAbove 15 = .ok (.iaload, 1) := by decide +kernel
theorem dX3_nextAbove_16 : decode cX3_nextAbove 16 = .ok (.iaload, 1) := by decide +kernel
theorem dX3_nextAbove_17 : decode cX3_nextAbove 17 = .ok (.istore_n 1, 1) := by decide +kernel
theorem dX3_nextAbove_18 : decode cX3_nextAbove 18 = .ok (.iconst 0, 1) := by decide +kernel
theorem dX3_nextAbove_19 : decode cX3_nextAbove 19 = .ok (.istore_n 2, 1) := by decide +kernel
theorem dX3_nextAbove_20 : decode cX3_nextAbove 20 = .ok (.iload_n 2, 1) := by decide +kernel
theorem dX3_nextAbove_21 : decode cX3_nextAbove 21 = .ok (.sipush 150, 3) := by decide +kernel
theorem dX3_nextAbove_24 : decode cX3_nextAbove 24 = .ok (.if_icmp .ge 71, 3) := by decide +kernel
theorem dX3_nextAbove_27 : decode cX3_nextAbove 27 = .ok (.iload_n 1, 1) := by decide +kernel
theorem dX3_nextAbove_28 : decode cX3_nextAbove 28 = .ok (.ifCond .lt 67, 3) := by decide +kernel
theorem dX3_nextAbove_31 : decode cX3_nextAbove 31 = .ok (.aload_n 0, 1) := by decide +kernel
theorem dX3_nextAbove_32 : decode cX3_nextAbove 32 = .ok (.getfield 32, 3) := by decide +kernel
theorem dX3_nextAbove_35 : decode cX3_nextAbove 35 = .ok (.aload_n 0, 1) := by decide +kernel
theorem dX3_nextAbove_36 : decode cX3_nextAbove 36 = .ok (.getfield 36, 3) := by decide +kernel
theorem dX3_nextAbove_39 : decode cX3_nextAbove 39 = .ok (.getfield 105, 3) := by decide +kernel
theorem dX3_nextAbove_42 : decode cX3_nextAbove 42 = .ok (.aload_n 0, 1) := by decide +kernel
theorem dX3_nextAbove_43 : decode cX3_nextAbove 43 = .ok (.getfield 17, 3) := by decide +kernel
theorem dX3_nextAbove_46 : decode cX3_nextAbove 46 = .ok (.aload_n 0, 1) := by decide +kernel
theorem dX3_nextAbove_47 : decode cX3_nextAbove 47 = .ok (.getfield 68, 3) := by decide +kernel
theorem dX3_nextAbove_50 : decode cX3_nextAbove 50 = .ok (.iaload, 1) := by decide +kernel
theorem dX3_nextAbove_51 : decode cX3_nextAbove 51 = .ok (.iaload, 1) := by decide +kernel
theorem dX3_nextAbove_52 : decode cX3_nextAbove 52 = .ok (.aload_n 0, 1) := by decide +kernel
theorem dX3_nextAbove_53 : decode cX3_nextAbove 53 = .ok (.getfield 36, 3) := by decide +kernel
theorem dX3_nextAbove_56 : decode cX3_nextAbove 56 = .ok (.getfield 105, 3) := by decide +kernel
theorem dX3_nextAbove_59 : decode cX3_nextAbove 59 = .ok (.iload_n 1, 1) := by decide +kernel
theorem dX3_nextAbove_60 : decode cX3_nextAbove 60 = .ok (.iaload, 1) := by decide +kernel
theorem dX3_nextAbove_61 : decode cX3_nextAbove 61 = .ok (.invokevirtual 142, 3) := by decide +kernel
theorem dX3_nextAbove_64 : decode cX3_nextAbove 64 = .ok (.ifCond .eq 15, 3) := by decide +kernel
theorem dX3_nextAbove_67 : decode cX3_nextAbove 67 = .ok (.aload_n 0, 1) := by decide +kernel
theorem dX3_nextAbove_68 : decode cX3_nextAbove 68 = .ok (.getfield 20, 3) := by decide +kernel
theorem dX3_nextAbove_71 : decode cX3_nextAbove 71 = .ok (.aload_n 0, 1) := by decide +kernel
theorem dX3_nextAbove_72 : decode cX3_nextAbove 72 = .ok (.getfield 68, 3) := by decide +kernel
theorem dX3_nextAbove_75 : decode cX3_nextAbove 75 = .ok (.iload_n 1, 1) := by decide +kernel
theorem dX3_nextAbove_76 : decode cX3_nextAbove 76 = .ok (.iastore, 1) := by decide +kernel
theorem dX3_nextAbove_77 : decode cX3_nextAbove 77 = .ok (.iconst 1, 1) := by decide +kernel
theorem dX3_nextAbove_78 : decode cX3_nextAbove 78 = .ok (.ireturn, 1) := by decide +kernel
theorem dX3_nextAbove_79 : decode cX3_nextAbove 79 = .ok (.aload_n 0, 1) := by decide +kernel
theorem dX3_nextAbove_80 : decode cX3_nextAbove 80 = .ok (.getfield 36, 3) := by decide +kernel
theorem dX3_nextAbove_83 : decode cX3_nextAbove 83 = .ok (.getfield 139, 3) := by decide +kernel
theorem dX3_nextAbove_86 : decode cX3_nextAbove 86 = .ok (.iload_n 1, 1) := by decide +kernel
theorem dX3_nextAbove_87 : decode cX3_nextAbove 87 = .ok (.iaload, 1) := by decide +kernel
theorem dX3_nextAbove_88 : decode cX3_nextAbove 88 = .ok (.istore_n 1, 1) := by decide +kernel
theorem dX3_nextAbove_89 : decode cX3_nextAbove 89 = .ok (.iinc 2 1, 3) := by decide +kernel
theorem dX3_nextAbove_92 : decode cX3_nextAbove 92 = .ok (.goto (-72), 3) := by decide +kernel
theorem dX3_nextAbove_95 : decode cX3_nextAbove 95 = .ok (.iconst 0, 1) := by decide +kernel
theorem dX3_nextAbove_96 : decode cX3_nextAbove 96 = .ok (.ireturn, 1) := by decide +kernel
theorem dX3_nextLiteral_0 : decode cX3_nextLiteral 0 = .ok (.aload_n 0, 1) := by decide +kernel
theorem dX3_nextLiteral_1 : decode cX3_nextLiteral 1 = .ok (.getfield 20, 3) := by decide +kernel
theorem dX3_nextLiteral_4 : decode cX3_nextLiteral 4 = .ok (.aload_n 0, 1) := by decide +kernel
theorem dX3_nextLiteral_5 : decode cX3_nextLiteral 5 = .ok (.getfield 68, 3) := by decide +kernel
theorem dX3_nextLiteral_8 : decode cX3_nextLiteral 8 = .ok (.iaload, 1) := by decide +kernel
theorem dX3_nextLiteral_9 : decode cX3_nextLiteral 9 = .ok (.iconst 1, 1) := by decide +kernel
theorem dX3_nextLiteral_10 : decode cX3_nextLiteral 10 = .ok (.iadd, 1) := by decide +kernel
theorem dX3_nextLiteral_11 : decode cX3_nextLiteral 11 = .ok (.istore_n 1, 1) := by decide +kernel
theorem dX3_nextLiteral_12 : decode cX3_nextLiteral 12 = .ok (.iload_n 1, 1) := by decide +kernel
theorem dX3_nextLiteral_13 : decode cX3_nextLiteral 13 = .ok (.aload_n 0, 1) := by decide +kernel
theorem dX3_nextLiteral_14 : decode cX3_nextLiteral 14 = .ok (.getfield 32, 3) := by decide +kernel
theorem dX3_nextLiteral_17 : decode cX3_nextLiteral 17 = .ok (.invokevirtual 146, 3) := by decide +kernel
theorem dX3_nextLiteral_20 : decode cX3_nextLiteral 20 = .ok (.if_icmp .ge 49, 3) := by decide +kernel
theorem dX3_nextLiteral_23 : decode cX3_nextLiteral 23 = .ok (.aload_n 0, 1) := by decide +kernel
theorem dX3_nextLiteral_24 : decode cX3_nextLiteral 24 = .ok (.getfield 32, 3) := by decide +kernel
theorem dX3_nextLiteral_27 : decode cX3_nextLiteral 27 = .ok (.aload_n 0, 1) := by decide +kernel
theorem dX3_nextLiteral_28 : decode cX3_nextLiteral 28 = .ok (.getfield 36, 3) := by decide +kernel
theorem dX3_nextLiteral_31 : decode cX3_nextLiteral 31 = .ok (.getfield 105, 3) := by decide +kernel
theorem dX3_nextLiteral_34 : decode cX3_nextLiteral 34 = .ok (.aload_n 0, 1) := by decide +kernel
theorem dX3_nextLiteral_35 : decode cX3_nextLiteral 35 = .ok (.getfield 17, 3) := by decide +kernel
theorem dX3_nextLiteral_38 : decode cX3_nextLiteral 38 = .ok (.aload_n 0, 1) := by decide +kernel
theorem dX3_nextLiteral_39 : decode cX3_nextLiteral 39 = .ok (.getfield 68, 3) := by decide +kernel
theorem dX3_nextLiteral_42 : decode cX3_nextLiteral 42 = .ok (.iaload, 1) := by decide +kernel
theorem dX3_nextLiteral_43 : decode cX3_nextLiteral 43 = .ok (.iaload, 1) := by decide +kernel
theorem dX3_nextLiteral_44 : decode cX3_nextLiteral 44 = .ok (.iload_n 1, 1) := by decide +kernel
theorem dX3_nextLiteral_45 : decode cX3_nextLiteral 45 = .ok (.invokevirtual 142, 3) := by decide +kernel
theorem dX3_nextLiteral_48 : decode cX3_nextLiteral 48 = .ok (.ifCond .eq 15, 3) := by decide +kernel
theorem dX3_nextLiteral_51 : decode cX3_nextLiteral 51 = .ok (.aload_n 0, 1) := by decide +kernel
theorem dX3_nextLiteral_52 : decode cX3_nextLiteral 52 = .ok (.getfield 20, 3) := by decide +kernel
theorem dX3_nextLiteral_55 : decode cX3_nextLiteral 55 = .ok (.aload_n 0, 1) := by decide +kernel
theorem dX3_nextLiteral_56 : decode cX3_nextLiteral 56 = .ok (.getfield 68, 3) := by decide +kernel
theorem dX3_nextLiteral_59 : decode cX3_nextLiteral 59 = .ok (.iload_n 1, 1) := by decide +kernel
theorem dX3_nextLiteral_60 : decode cX3_nextLiteral 60 = .ok (.iastore, 1) := by decide +kernel
theorem dX3_nextLiteral_61 : decode cX3_nextLiteral 61 = .ok (.iconst 1, 1) := by decide +kernel
theorem dX3_nextLiteral_62 : decode cX3_nextLiteral 62 = .ok (.ireturn, 1) := by decide +kernel
theorem dX3_nextLiteral_63 : decode cX3_nextLiteral 63 = .ok (.iinc 1 1, 3) := by decide +kernel
theorem dX3_nextLiteral_66 : decode cX3_nextLiteral 66 = .ok (.goto (-54), 3) := by decide +kernel
theorem dX3_nextLiteral_69 : decode cX3_nextLiteral 69 = .ok (.iconst 0, 1) := by decide +kernel
theorem dX3_nextLiteral_70 : decode cX3_nextLiteral 70 = .ok (.ireturn, 1) := by decide +kernel
theorem dX3_grow_0 : decode cX3_grow 0 = .ok (.aload_n 0, 1) := by decide +kernel
theorem dX3_grow_1 : decode cX3_grow 1 = .ok (.getfield 13, 3) := by decide +kernel
theorem dX3_grow_4 : decode cX3_grow 4 = .ok (.aload_n 0, 1) := by decide +kernel
theorem dX3_grow_5 : decode cX3_grow 5 = .ok (.getfield 68, 3) := by decide +kernel
theorem dX3_grow_8 : decode cX3_grow 8 = .ok (.iaload, 1) := by decide +kernel
theorem dX3_grow_9 : decode cX3_grow 9 = .ok (.iconst 2, 1) := by decide +kernel
theorem dX3_grow_10 : decode cX3_grow 10 = .ok (.if_icmp .ne 26, 3) := by decide +kernel
theorem dX3_grow_13 : decode cX3_grow 13 = .ok (.aload_n 0, 1) := by decide +kernel
theorem dX3_grow_14 : decode cX3_grow 14 = .ok (.aload_n 0, 1) := by decide +kernel
theorem dX3_grow_15 : decode cX3_grow 15 = .ok (.getfield 36, 3) := by decide +kernel
theorem dX3_grow_18 : decode cX3_grow 18 = .ok (.getfield 148, 3) := by decide +kernel
theorem dX3_grow_21 : decode cX3_grow 21 = .ok (.aload_n 0, 1) := by decide +kernel
theorem dX3_grow_22 : decode cX3_grow 22 = .ok (.getfield 17, 3) := by decide +kernel
theorem dX3_grow_25 : decode cX3_grow 25 = .ok (.aload_n 0, 1) := by decide +kernel
theorem dX3_grow_26 : decode cX3_grow 26 = .ok (.getfield 68, 3) := by decide +kernel
theorem dX3_grow_29 : decode cX3_grow 29 = .ok (.iaload, 1) := by decide +kernel
theorem dX3_grow_30 : decode cX3_grow 30 = .ok (.iaload, 1) := by decide +kernel
theorem dX3_grow_31 : decode cX3_grow 31 = .ok (.putfield 89, 3) := by decide +kernel
theorem dX3_grow_34 : decode cX3_grow 34 = .ok (.iconst 2, 1) := by decide +kernel
theorem dX3_grow_35 : decode cX3_grow 35 = .ok (.ireturn, 1) := by decide +kernel
theorem dX3_grow_36 : decode cX3_grow 36 = .ok (.aload_n 0, 1) := by decide +kernel
theorem dX3_grow_37 : decode cX3_grow 37 = .ok (.aload_n 0, 1) := by decide +kernel
theorem dX3_grow_38 : decode cX3_grow 38 = .ok (.getfield 68, 3) := by decide +kernel
theorem dX3_grow_41 : decode cX3_grow 41 = .ok (.invokevirtual 151, 3) := by decide +kernel
theorem dX3_grow_44 : decode cX3_grow 44 = .ok (.istore_n 1, 1) := by decide +kernel
theorem dX3_grow_45 : decode cX3_grow 45 = .ok (.aload_n 0, 1) := by decide +kernel
theorem dX3_grow_46 : decode cX3_grow 46 = .ok (.getfield 36, 3) := by decide +kernel
theorem dX3_grow_49 : decode cX3_grow 49 = .ok (.iload_n 1, 1) := by decide +kernel
theorem dX3_grow_50 : decode cX3_grow 50 = .ok (.invokevirtual 154, 3) := by decide +kernel
theorem dX3_grow_53 : decode cX3_grow 53 = .ok (.ifCond .ne 6, 3) := by decide +kernel
theorem dX3_grow_56 : decode cX3_grow 56 = .ok (.bipush (-7), 2) := by decide +kernel
theorem dX3_grow_58 : decode cX3_grow 58 = .ok (.ireturn, 1) := by decide +kernel
theorem dX3_grow_59 : decode cX3_grow 59 = .ok (.aload_n 0, 1) := by decide +kernel
theorem dX3_grow_60 : decode cX3_grow 60 = .ok (.aload_n 0, 1) := by decide +kernel
theorem dX3_grow_61 : decode cX3_grow 61 = .ok (.getfield 36, 3) := by decide +kernel
theorem dX3_grow_64 : decode cX3_grow 64 = .ok (.iload_n 1, 1) := by decide +kernel
theorem dX3_grow_65 : decode cX3_grow 65 = .ok (.aload_n 0, 1) := by decide +kernel
theorem dX3_grow_66 : decode cX3_grow 66 = .ok (.getfield 17, 3) := by decide +kernel
theorem dX3_grow_69 : decode cX3_grow 69 = .ok (.aload_n 0, 1) := by decide +kernel
theorem dX3_grow_70 : decode cX3_grow 70 = .ok (.getfield 68, 3) := by decide +kernel
theorem dX3_grow_73 : decode cX3_grow 73 = .ok (.iaload, 1) := by decide +kernel
theorem dX3_grow_74 : decode cX3_grow 74 = .ok (.aload_n 0, 1) := by decide +kernel
theorem dX3_grow_75 : decode cX3_grow 75 = .ok (.getfield 13, 3) := by decide +kernel
theorem dX3_grow_78 : decode cX3_grow 78 = .ok (.aload_n 0, 1) := by decide +kernel
theorem dX3_grow_79 : decode cX3_grow 79 = .ok (.getfield 68, 3) := by decide +kernel
theorem dX3_grow_82 : decode cX3_grow 82 = .ok (.iaload, 1) := by decide +kernel
theorem dX3_grow_83 : decode cX3_grow 83 = .ok (.ifCond .ne 7, 3) := by decide +kernel
theorem dX3_grow_86 : decode cX3_grow 86 = .ok (.iconst (-1), 1) := by decide +kernel
theorem dX3_grow_87 : decode cX3_grow 87 = .ok (.goto 12, 3) := by decide +kernel
theorem dX3_grow_90 : decode cX3_grow 90 = .ok (.aload_n 0, 1) := by decide +kernel
theorem dX3_grow_91 : decode cX3_grow 91 = .ok (.getfield 20, 3) := by decide +kernel
theorem dX3_grow_94 : decode cX3_grow 94 = .ok (.aload_n 0, 1) := by decide +kernel
theorem dX3_grow_95 : decode cX3_grow 95 = .ok (.getfield 68, 3) := by decide +kernel
theorem dX3_grow_98 : decode cX3_grow 98 = .ok (.iaload, 1) := by decide +kernel
theorem dX3_grow_99 : decode cX3_grow 99 = .ok (.invokevirtual 157, 3) := by decide +kernel
theorem dX3_grow_102 : decode cX3_grow 102 = .ok (.putfield 89, 3) := by decide +kernel
theorem dX3_grow_105 : decode cX3_grow 105 = .ok (.iconst 2, 1) := by decide +kernel
theorem dX3_grow_106 : decode cX3_grow 106 = .ok (.ireturn, 1) := by decide +kernel
theorem dX3_rowOf_0 : decode cX3_rowOf 0 = .ok (.aload_n 0, 1) := by decide +kernel
theorem dX3_rowOf_1 : decode cX3_rowOf 1 = .ok (.getfield 13, 3) := by decide +kernel
theorem dX3_rowOf_4 : decode cX3_rowOf 4 = .ok (.iload_n 1, 1) := by decide +kernel
theorem dX3_rowOf_5 : decode cX3_rowOf 5 = .ok (.iaload, 1) := by decide +kernel
theorem dX3_rowOf_6 : decode cX3_rowOf 6 = .ok (.lookupswitch 48 #[(0, 26), (1, 33)], 26) := by decide +kernel
theorem dX3_rowOf_32 : decode cX3_rowOf 32 = .ok (.aload_n 0, 1) := by decide +kernel
theorem dX3_rowOf_33 : decode cX3_rowOf 33 = .ok (.getfield 20, 3) := by decide +kernel
theorem dX3_rowOf_36 : decode cX3_rowOf 36 = .ok (.iload_n 1, 1) := by decide +kernel
theorem dX3_rowOf_37 : decode cX3_rowOf 37 = .ok (.iaload, 1) := by decide +kernel
theorem dX3_rowOf_38 : decode cX3_rowOf 38 = .ok (.ireturn, 1) := by decide +kernel
theorem dX3_rowOf_39 : decode cX3_rowOf 39 = .ok (.aload_n 0, 1) := by decide +kernel
theorem dX3_rowOf_40 : decode cX3_rowOf 40 = .ok (.getfield 32, 3) := by decide +kernel
theorem dX3_rowOf_43 : decode cX3_rowOf 43 = .ok (.getfield 160, 3) := by decide +kernel
theorem dX3_rowOf_46 : decode cX3_rowOf 46 = .ok (.aload_n 0, 1) := by decide +kernel
theorem dX3_rowOf_47 : decode cX3_rowOf 47 = .ok (.getfield 20, 3) := by decide +kernel
theorem dX3_rowOf_50 : decode cX3_rowOf 50 = .ok (.iload_n 1, 1) := by decide +kernel
theorem dX3_rowOf_51 : decode cX3_rowOf 51 = .ok (.iaload, 1) := by decide +kernel
theorem dX3_rowOf_52 : decode cX3_rowOf 52 = .ok (.iaload, 1) := by decide +kernel
theorem dX3_rowOf_53 : decode cX3_rowOf 53 = .ok (.ireturn, 1) := by decide +kernel
theorem dX3_rowOf_54 : decode cX3_rowOf 54 = .ok (.iconst (-1), 1) := by decide +kernel
theorem dX3_rowOf_55 : decode cX3_rowOf 55 = .ok (.ireturn, 1) := by decide +kernel
theorem dX3_connected_0 : decode cX3_connected 0 = .ok (.aload_n 0, 1) := by decide +kernel
theorem dX3_connected_1 : decode cX3_connected 1 = .ok (.getfield 13, 3) := by decide +kernel
theorem dX3_connected_4 : decode cX3_connected 4 = .ok (.iload_n 1, 1) := by decide +kernel
theorem dX3_connected_5 : decode cX3_connected 5 = .ok (.iaload, 1) := by decide +kernel
theorem dX3_connected_6 : decode cX3_connected 6 = .ok (.lookupswitch 58 #[(0, 26), (1, 28)], 26) := by decide +kernel
theorem dX3_connected_32 : decode cX3_connected 32 = .ok (.iconst (-1), 1) := by decide +kernel
theorem dX3_connected_33 : decode cX3_connected 33 = .ok (.ireturn, 1) := by decide +kernel
theorem dX3_connected_34 : decode cX3_connected 34 = .ok (.aload_n 0, 1) := by decide +kernel
theorem dX3_connected_35 : decode cX3_connected 35 = .ok (.getfield 20, 3) := by decide +kernel
theorem dX3_connected_38 : decode cX3_connected 38 = .ok (.iload_n 1, 1) := by decide +kernel
theorem dX3_connected_39 : decode cX3_connected 39 = .ok (.iaload, 1) := by decide +kernel
theorem dX3_connected_40 : decode cX3_connected 40 = .ok (.aload_n 0, 1) := by decide +kernel
theorem dX3_connected_41 : decode cX3_connected 41 = .ok (.getfield 32, 3) := by decide +kernel
theorem dX3_connected_44 : decode cX3_connected 44 = .ok (.getfield 163, 3) := by decide +kernel
theorem dX3_connected_47 : decode cX3_connected 47 = .ok (.aload_n 0, 1) := by decide +kernel
theorem dX3_connected_48 : decode cX3_connected 48 = .ok (.getfield 32, 3) := by decide +kernel
theorem dX3_connected_51 : decode cX3_connected 51 = .ok (.getfield 160, 3) := by decide +kernel
theorem dX3_connected_54 : decode cX3_connected 54 = .ok (.aload_n 0, 1) := by decide +kernel
theorem dX3_connected_55 : decode cX3_connected 55 = .ok (.getfield 20, 3) := by decide +kernel
theorem dX3_connected_58 : decode cX3_connected 58 = .ok (.iload_n 1, 1) := by decide +kernel
theorem dX3_connected_59 : decode cX3_connected 59 = .ok (.iaload, 1) := by decide +kernel
theorem dX3_connected_60 : decode cX3_connected 60 = .ok (.iaload, 1) := by decide +kernel
theorem dX3_connected_61 : decode cX3_connected 61 = .ok (.iaload, 1) := by decide +kernel
theorem dX3_connected_62 : decode cX3_connected 62 = .ok (.isub, 1) := by decide +kernel
theorem dX3_connected_63 : decode cX3_connected 63 = .ok (.ireturn, 1) := by decide +kernel
theorem dX3_connected_64 : decode cX3_connected 64 = .ok (.aload_n 0, 1) := by decide +kernel
theorem dX3_connected_65 : decode cX3_connected 65 = .ok (.getfield 36, 3) := by decide +kernel
theorem dX3_connected_68 : decode cX3_connected 68 = .ok (.getfield 124, 3) := by decide +kernel
theorem dX3_connected_71 : decode cX3_connected 71 = .ok (.aload_n 0, 1) := by decide +kernel
theorem dX3_connected_72 : decode cX3_connected 72 = .ok (.getfield 20, 3) := by decide +kernel
theorem dX3_connected_75 : decode cX3_connected 75 = .ok (.iload_n 1, 1) := by decide +kernel
theorem dX3_connected_76 : decode cX3_connected 76 = .ok (.iaload, 1) := by decide +kernel
theorem dX3_connected_77 : decode cX3_connected 77 = .ok (.iaload, 1) := by decide +kernel
theorem dX3_connected_78 : decode cX3_connected 78 = .ok (.ireturn, 1) := by decide +kernel
theorem dX3_above_0 : decode cX3_above 0 = .ok (.aload_n 0, 1) := by decide +kernel
theorem dX3_above_1 : decode cX3_above 1 = .ok (.getfield 13, 3) := by decide +kernel
theorem dX3_above_4 : decode cX3_above 4 = .ok (.iload_n 1, 1) := by decide +kernel
theorem dX3_above_5 : decode cX3_above 5 = .ok (.iaload, 1) := by decide +kernel
theorem dX3_above_6 : decode cX3_above 6 = .ok (.ifCond .ne 7, 3) := by decide +kernel
theorem dX3_above_9 : decode cX3_above 9 = .ok (.iconst 0, 1) := by decide +kernel
theorem dX3_above_10 : decode cX3_above 10 = .ok (.goto 17, 3) := by decide +kernel
theorem dX3_above_13 : decode cX3_above 13 = .ok (.aload_n 0, 1) := by decide +kernel
theorem dX3_above_14 : decode cX3_above 14 = .ok (.getfield 36, 3) := by decide +kernel
theorem dX3_above_17 : decode cX3_above 17 = .ok (.getfield 124, 3) := by decide +kernel
theorem dX3_above_20 : decode cX3_above 20 = .ok (.aload_n 0, 1) := by decide +kernel
theorem dX3_above_21 : decode cX3_above 21 = .ok (.getfield 17, 3) := by decide +kernel
theorem dX3_above_24 : decode cX3_above 24 = .ok (.iload_n 1, 1) := by decide +kernel
theorem dX3_above_25 : decode cX3_above 25 = .ok (.iaload, 1) := by decide +kernel
theorem dX3_above_26 : decode cX3_above 26 = .ok (.iaload, 1) := by decide +kernel
theorem dX3_above_27 : decode cX3_above 27 = .ok (.ireturn, 1) := by decide +kernel
theorem dX3_goalSource_0 : decode cX3_goalSource 0 = .ok (.aload_n 0, 1) := by decide +kernel
theorem dX3_goalSource_1 : decode cX3_goalSource 1 = .ok (.getfield 13, 3) := by decide +kernel
theorem dX3_goalSource_4 : decode cX3_goalSource 4 = .ok (.iload_n 1, 1) := by decide +kernel
theorem dX3_goalSource_5 : decode cX3_goalSource 5 = .ok (.iaload, 1) := by decide +kernel
theorem dX3_goalSource_6 : decode cX3_goalSource 6 = .ok (.ifCond .ne 7, 3) := by decide +kernel
theorem dX3_goalSource_9 : decode cX3_goalSource 9 = .ok (.iconst 0, 1) := by decide +kernel
theorem dX3_goalSource_10 : decode cX3_goalSource 10 = .ok (.goto 17, 3) := by decide +kernel
theorem dX3_goalSource_13 : decode cX3_goalSource 13 = .ok (.aload_n 0, 1) := by decide +kernel
theorem dX3_goalSource_14 : decode cX3_goalSource 14 = .ok (.getfield 36, 3) := by decide +kernel
theorem dX3_goalSource_17 : decode cX3_goalSource 17 = .ok (.getfield 105, 3) := by decide +kernel
theorem dX3_goalSource_20 : decode cX3_goalSource 20 = .ok (.aload_n 0, 1) := by decide +kernel
theorem dX3_goalSource_21 : decode cX3_goalSource 21 = .ok (.getfield 17, 3) := by decide +kernel
theorem dX3_goalSource_24 : decode cX3_goalSource 24 = .ok (.iload_n 1, 1) := by decide +kernel
theorem dX3_goalSource_25 : decode cX3_goalSource 25 = .ok (.iaload, 1) := by decide +kernel
theorem dX3_goalSource_26 : decode cX3_goalSource 26 = .ok (.iaload, 1) := by decide +kernel
theorem dX3_goalSource_27 : decode cX3_goalSource 27 = .ok (.ireturn, 1) := by decide +kernel
theorem dX3_goalBase_0 : decode cX3_goalBase 0 = .ok (.aload_n 0, 1) := by decide +kernel
theorem dX3_goalBase_1 : decode cX3_goalBase 1 = .ok (.getfield 13, 3) := by decide +kernel
theorem dX3_goalBase_4 : decode cX3_goalBase 4 = .ok (.iload_n 1, 1) := by decide +kernel
theorem dX3_goalBase_5 : decode cX3_goalBase 5 = .ok (.iaload, 1) := by decide +kernel
theorem dX3_goalBase_6 : decode cX3_goalBase 6 = .ok (.ifCond .ne 7, 3) := by decide +kernel
theorem dX3_goalBase_9 : decode cX3_goalBase 9 = .ok (.iconst 0, 1) := by decide +kernel
theorem dX3_goalBase_10 : decode cX3_goalBase 10 = .ok (.goto 17, 3) := by decide +kernel
theorem dX3_goalBase_13 : decode cX3_goalBase 13 = .ok (.aload_n 0, 1) := by decide +kernel
theorem dX3_goalBase_14 : decode cX3_goalBase 14 = .ok (.getfield 36, 3) := by decide +kernel
theorem dX3_goalBase_17 : decode cX3_goalBase 17 = .ok (.getfield 108, 3) := by decide +kernel
theorem dX3_goalBase_20 : decode cX3_goalBase 20 = .ok (.aload_n 0, 1) := by decide +kernel
theorem dX3_goalBase_21 : decode cX3_goalBase 21 = .ok (.getfield 17, 3) := by decide +kernel
theorem dX3_goalBase_24 : decode cX3_goalBase 24 = .ok (.iload_n 1, 1) := by decide +kernel
theorem dX3_goalBase_25 : decode cX3_goalBase 25 = .ok (.iaload, 1) := by decide +kernel
theorem dX3_goalBase_26 : decode cX3_goalBase 26 = .ok (.iaload, 1) := by decide +kernel
theorem dX3_goalBase_27 : decode cX3_goalBase 27 = .ok (.ireturn, 1) := by decide +kernel
theorem dX4_init_0 : decode cX4_init 0 = .ok (.aload_n 0, 1) := by decide +kernel
theorem dX4_init_1 : decode cX4_init 1 = .ok (.invokespecial 5, 3) := by decide +kernel
theorem dX4_init_4 : decode cX4_init 4 = .ok (.aload_n 0, 1) := by decide +kernel
theorem dX4_init_5 : decode cX4_init 5 = .ok (.sipush 811, 3) := by decide +kernel
theorem dX4_init_8 : decode cX4_init 8 = .ok (.newarray .long, 2) := by decide +kernel
theorem dX4_init_10 : decode cX4_init 10 = .ok (.putfield 11, 3) := by decide +kernel
theorem dX4_init_13 : decode cX4_init 13 = .ok (.aload_n 0, 1) := by decide +kernel
theorem dX4_init_14 : decode cX4_init 14 = .ok (.sipush 811, 3) := by decide +kernel
theorem dX4_init_17 : decode cX4_init 17 = .ok (.newarray .int, 2) := by decide +kernel
theorem dX4_init_19 : decode cX4_init 19 = .ok (.putfield 15, 3) := by decide +kernel
theorem dX4_init_22 : decode cX4_init 22 = .ok (.aload_n 0, 1) := by decide +kernel
theorem dX4_init_23 : decode cX4_init 23 = .ok (.sipush 811, 3) := by decide +kernel
theorem dX4_init_26 : decode cX4_init 26 = .ok (.newarray .boolean, 2) := by decide +kernel
theorem dX4_init_28 : decode cX4_init 28 = .ok (.putfield 19, 3) := by decide +kernel
theorem dX4_init_31 : decode cX4_init 31 = .ok (.aload_n 0, 1) := by decide +kernel
theorem dX4_init_32 : decode cX4_init 32 = .ok (.bipush 101, 2) := by decide +kernel
theorem dX4_init_34 : decode cX4_init 34 = .ok (.newarray .int, 2) := by decide +kernel
theorem dX4_init_36 : decode cX4_init 36 = .ok (.putfield 23, 3) := by decide +kernel
theorem dX4_init_39 : decode cX4_init 39 = .ok (.aload_n 0, 1) := by decide +kernel
theorem dX4_init_40 : decode cX4_init 40 = .ok (.bipush 100, 2) := by decide +kernel
theorem dX4_init_42 : decode cX4_init 42 = .ok (.newarray .int, 2) := by decide +kernel
theorem dX4_init_44 : decode cX4_init 44 = .ok (.putfield 26, 3) := by decide +kernel
theorem dX4_init_47 : decode cX4_init 47 = .ok (.aload_n 0, 1) := by decide +kernel
theorem dX4_init_48 : decode cX4_init 48 = .ok (.sipush 1201, 3) := by decide +kernel
theorem dX4_init_51 : decode cX4_init 51 = .ok (.newarray .int, 2) := by decide +kernel
theorem dX4_init_53 : decode cX4_init 53 = .ok (.putfield 29, 3) := by decide +kernel
theorem dX4_init_56 : decode cX4_init 56 = .ok (.aload_n 0, 1) := by decide +kernel
theorem dX4_init_57 : decode cX4_init 57 = .ok (.sipush 1200, 3) := by decide +kernel
theorem dX4_init_60 : decode cX4_init 60 = .ok (.newarray .boolean, 2) := by decide +kernel
theorem dX4_init_62 : decode cX4_init 62 = .ok (.putfield 32, 3) := by decide +kernel
theorem dX4_init_65 : decode cX4_init 65 = .ok (.aload_n 0, 1) := by decide +kernel
theorem dX4_init_66 : decode cX4_init 66 = .ok (.sipush 1200, 3) := by decide +kernel
theorem dX4_init_69 : decode cX4_init 69 = .ok (.newarray .int, 2) := by decide +kernel
theorem dX4_init_71 : decode cX4_init 71 = .ok (.putfield 35, 3) := by decide +kernel
theorem dX4_init_74 : decode cX4_init 74 = .ok (.aload_n 0, 1) := by decide +kernel
theorem dX4_init_75 : decode cX4_init 75 = .ok (.sipush 20000, 3) := by decide +kernel
theorem dX4_init_78 : decode cX4_init 78 = .ok (.newarray .int, 2) := by decide +kernel
theorem dX4_init_80 : decode cX4_init 80 = .ok (.putfield 38, 3) := by decide +kernel
theorem dX4_init_83 : decode cX4_init 83 = .ok (.return_, 1) := by decide +kernel
theorem dX4_has_0 : decode cX4_has 0 = .ok (.iload_n 1, 1) := by decide +kernel
theorem dX4_has_1 : decode cX4_has 1 = .ok (.ifCond .lt 15, 3) := by decide +kernel
theorem dX4_has_4 : decode cX4_has 4 = .ok (.iload_n 1, 1) := by decide +kernel
theorem dX4_has_5 : decode cX4_has 5 = .ok (.aload_n 0, 1) := by decide +kernel
theorem dX4_has_6 : decode cX4_has 6 = .ok (.getfield 41, 3) := by decide +kernel
theorem dX4_has_9 : decode cX4_has 9 = .ok (.if_icmp .ge 7, 3) := by decide +kernel
theorem dX4_has_12 : decode cX4_has 12 = .ok (.iconst 1, 1) := by decide +kernel
theorem dX4_has_13 : decode cX4_has 13 = .ok (.goto 4, 3) := by decide +kernel
theorem dX4_has_16 : decode cX4_has 16 = .ok (.iconst 0, 1) := by decide +kernel
theorem dX4_has_17 : decode cX4_has 17 = .ok (.ireturn, 1) := by decide +kernel
theorem dX4_literals_0 : decode cX4_literals 0 = .ok (.aload_n 0, 1) := by decide +kernel
theorem dX4_literals_1 : decode cX4_literals 1 = .ok (.getfield 23, 3) := by decide +kernel
theorem dX4_literals_4 : decode cX4_literals 4 = .ok (.aload_n 0, 1) := by decide +kernel
theorem dX4_literals_5 : decode cX4_literals 5 = .ok (.getfield 41, 3) := by decide +kernel
theorem dX4_literals_8 : decode cX4_literals 8 = .ok (.iaload, 1) := by decide +kernel
theorem dX4_literals_9 : decode cX4_literals 9 = .ok (.ireturn, 1) := by decide +kernel
theorem dX4_symbol_0 : decode cX4_symbol 0 = .ok (.iconst 0, 1) := by decide +kernel
theorem dX4_symbol_1 : decode cX4_symbol 1 = .ok (.istore_n 3, 1) := by decide +kernel
theorem dX4_symbol_2 : decode cX4_symbol 2 = .ok (.iload_n 3, 1) := by decide +kernel
theorem dX4_symbol_3 : decode cX4_symbol 3 = .ok (.aload_n 0, 1) := by decide +kernel
theorem dX4_symbol_4 : decode cX4_symbol 4 = .ok (.getfield 45, 3) := by decide +kernel
theorem dX4_symbol_7 : decode cX4_symbol 7 = .ok (.if_icmp .ge 22, 3) := by decide +kernel
theorem dX4_symbol_10 : decode cX4_symbol 10 = .ok (.aload_n 0, 1) := by decide +kernel
theorem dX4_symbol_11 : decode cX4_symbol 11 = .ok (.getfield 11, 3) := by decide +kernel
theorem dX4_symbol_14 : decode cX4_symbol 14 = .ok (.iload_n 3, 1) := by decide +kernel
theorem dX4_symbol_15 : decode cX4_symbol 15 = .ok (.laload, 1) := by decide +kernel
theorem dX4_symbol_16 : decode cX4_symbol 16 = .ok (.lload_n 1, 1) := by decide +kernel
theorem dX4_symbol_17 : decode cX4_symbol 17 = .ok (.lcmp, 1) := by decide +kernel
theorem dX4_symbol_18 : decode cX4_symbol 18 = .ok (.ifCond .ne 5, 3) := by decide +kernel
theorem dX4_symbol_21 : decode cX4_symbol 21 = .ok (.iload_n 3, 1) := by decide +kernel
theorem dX4_symbol_22 : decode cX4_symbol 22 = .ok (.ireturn, 1) := by decide +kernel
theorem dX4_symbol_23 : decode cX4_symbol 23 = .ok (.iinc 3 1, 3) := by decide +kernel
theorem dX4_symbol_26 : decode cX4_symbol 26 = .ok (.goto (-24), 3) := by decide +kernel
theorem dX4_symbol_29 : decode cX4_symbol 29 = .ok (.aload_n 0, 1) := by decide +kernel
theorem dX4_symbol_30 : decode cX4_symbol 30 = .ok (.getfield 45, 3) := by decide +kernel
theorem dX4_symbol_33 : decode cX4_symbol 33 = .ok (.sipush 811, 3) := by decide +kernel
theorem dX4_symbol_36 : decode cX4_symbol 36 = .ok (.if_icmp .lt 5, 3) := by decide +kernel
theorem dX4_symbol_39 : decode cX4_symbol 39 = .ok (.iconst (-1), 1) := by decide +kernel
theorem dX4_symbol_40 : decode cX4_symbol 40 = .ok (.ireturn, 1) := by decide +kernel
theorem dX4_symbol_41 : decode cX4_symbol 41 = .ok (.aload_n 0, 1) := by decide +kernel
theorem dX4_symbol_42 : decode cX4_symbol 42 = .ok (.getfield 11, 3) := by decide +kernel
theorem dX4_symbol_45 : decode cX4_symbol 45 = .ok (.aload_n 0, 1) := by decide +kernel
theorem dX4_symbol_46 : decode cX4_symbol 46 = .ok (.getfield 45, 3) := by decide +kernel
theorem dX4_symbol_49 : decode cX4_symbol 49 = .ok (.lload_n 1, 1) := by decide +kernel
theorem dX4_symbol_50 : decode cX4_symbol 50 = .ok (.lastore, 1) := by decide +kernel
theorem dX4_symbol_51 : decode cX4_symbol 51 = .ok (.aload_n 0, 1) := by decide +kernel
theorem dX4_symbol_52 : decode cX4_symbol 52 = .ok (.getfield 15, 3) := by decide +kernel
theorem dX4_symbol_55 : decode cX4_symbol 55 = .ok (.aload_n 0, 1) := by decide +kernel
theorem dX4_symbol_56 : decode cX4_symbol 56 = .ok (.getfield 45, 3) := by decide +kernel
theorem dX4_symbol_59 : decode cX4_symbol 59 = .ok (.iconst (-1), 1) := by decide +kernel
theorem dX4_symbol_60 : decode cX4_symbol 60 = .ok (.iastore, 1) := by decide +kernel
theorem dX4_symbol_61 : decode cX4_symbol 61 = .ok (.aload_n 0, 1) := by decide +kernel
theorem dX4_symbol_62 : decode cX4_symbol 62 = .ok (.dup, 1) := by decide +kernel
theorem dX4_symbol_63 : decode cX4_symbol 63 = .ok (.getfield 45, 3) := by decide +kernel
theorem dX4_symbol_66 : decode cX4_symbol 66 = .ok (.iconst 1, 1) := by decide +kernel
theorem dX4_symbol_67 : decode cX4_symbol 67 = .ok (.iadd, 1) := by decide +kernel
theorem dX4_symbol_68 : decode cX4_symbol 68 = .ok (.putfield 45, 3) := by decide +kernel
theorem dX4_symbol_71 : decode cX4_symbol 71 = .ok (.aload_n 0, 1) := by decide +kernel
theorem dX4_symbol_72 : decode cX4_symbol 72 = .ok (.getfield 45, 3) := by decide +kernel
theorem dX4_symbol_75 : decode cX4_symbol 75 = .ok (.iconst 1, 1) := by decide +kernel
theorem dX4_symbol_76 : decode cX4_symbol 76 = .ok (.isub, 1) := by decide +kernel
theorem dX4_symbol_77 : decode cX4_symbol 77 = .ok (.ireturn, 1) := by decide +kernel
theorem dX4_settle_0 : decode cX4_settle 0 = .ok (.aload_n 0, 1) := by decide +kernel
theorem dX4_settle_1 : decode cX4_settle 1 = .ok (.getfield 15, 3) := by decide +kernel
theorem dX4_settle_4 : decode cX4_settle 4 = .ok (.iload_n 1, 1) := by decide +kernel
theorem dX4_settle_5 : decode cX4_settle 5 = .ok (.iaload, 1) := by decide +kernel
theorem dX4_settle_6 : decode cX4_settle 6 = .ok (.iconst (-1), 1) := by decide +kernel
theorem dX4_settle_7 : decode cX4_settle 7 = .ok (.if_icmp .ne 17, 3) := by decide +kernel
theorem dX4_settle_10 : decode cX4_settle 10 = .ok (.aload_n 0, 1) := by decide +kernel
theorem dX4_settle_11 : decode cX4_settle 11 = .ok (.getfield 15, 3) := by decide +kernel
theorem dX4_settle_14 : decode cX4_settle 14 = .ok (.iload_n 1, 1) := by decide +kernel
theorem dX4_settle_15 : decode cX4_settle 15 = .ok (.iload_n 2, 1) := by decide +kernel
theorem dX4_settle_16 : decode cX4_settle 16 = .ok (.iastore, 1) := by decide +kernel
theorem dX4_settle_17 : decode cX4_settle 17 = .ok (.aload_n 0, 1) := by decide +kernel
theorem dX4_settle_18 : decode cX4_settle 18 = .ok (.getfield 19, 3) := by decide +kernel
theorem dX4_settle_21 : decode cX4_settle 21 = .ok (.iload_n 1, 1) := by decide +kernel
theorem dX4_settle_22 : decode cX4_settle 22 = .ok (.iload_n 3, 1) := by decide +kernel
theorem dX4_settle_23 : decode cX4_settle 23 = .ok (.bastore, 1) := by decide +kernel
theorem dX4_settle_24 : decode cX4_settle 24 = .ok (.aload_n 0, 1) := by decide +kernel
theorem dX4_settle_25 : decode cX4_settle 25 = .ok (.getfield 15, 3) := by decide +kernel
theorem dX4_settle_28 : decode cX4_settle 28 = .ok (.iload_n 1, 1) := by decide +kernel
theorem dX4_settle_29 : decode cX4_settle 29 = .ok (.iaload, 1) := by decide +kernel
theorem dX4_settle_30 : decode cX4_settle 30 = .ok (.iload_n 2, 1) := by decide +kernel
theorem dX4_settle_31 : decode cX4_settle 31 = .ok (.if_icmp .ne 17, 3) := by decide +kernel
theorem dX4_settle_34 : decode cX4_settle 34 = .ok (.aload_n 0, 1) := by decide +kernel
theorem dX4_settle_35 : decode cX4_settle 35 = .ok (.getfield 19, 3) := by decide +kernel
theorem dX4_settle_38 : decode cX4_settle 38 = .ok (.iload_n 1, 1) := by decide +kernel
theorem dX4_settle_39 : decode cX4_settle 39 = .ok (.baload, 1) := by decide +kernel
theorem dX4_settle_40 : decode cX4_settle 40 = .ok (.iload_n 3, 1) := by decide +kernel
theorem dX4_settle_41 : decode cX4_settle 41 = .ok (.if_icmp .ne 7, 3) := by decide +kernel
theorem dX4_settle_44 : decode cX4_settle 44 = .ok (.iconst 1, 1) := by decide +kernel
theorem dX4_settle_45 : decode cX4_settle 45 = .ok (.goto 4, 3) := by decide +kernel
theorem dX4_settle_48 : decode cX4_settle 48 = .ok (.iconst 0, 1) := by decide +kernel
theorem dX4_settle_49 : decode cX4_settle 49 = .ok (.ireturn, 1) := by decide +kernel
theorem dX4_takeBack_0 : decode cX4_takeBack 0 = .ok (.aload_n 0, 1) := by decide +kernel
theorem dX4_takeBack_1 : decode cX4_takeBack 1 = .ok (.iload_n 1, 1) := by decide +kernel
theorem dX4_takeBack_2 : decode cX4_takeBack 2 = .ok (.putfield 41, 3) := by decide +kernel
theorem dX4_takeBack_5 : decode cX4_takeBack 5 = .ok (.aload_n 0, 1) := by decide +kernel
theorem dX4_takeBack_6 : decode cX4_takeBack 6 = .ok (.iload_n 2, 1) := by decide +kernel
theorem dX4_takeBack_7 : decode cX4_takeBack 7 = .ok (.putfield 45, 3) := by decide +kernel
theorem dX4_takeBack_10 : decode cX4_takeBack 10 = .ok (.aload_n 0, 1) := by decide +kernel
theorem dX4_takeBack_11 : decode cX4_takeBack 11 = .ok (.iload_n 3, 1) := by decide +kernel
theorem dX4_takeBack_12 : decode cX4_takeBack 12 = .ok (.putfield 48, 3) := by decide +kernel
theorem dX4_takeBack_15 : decode cX4_takeBack 15 = .ok (.return_, 1) := by decide +kernel
theorem dX4_opposed_0 : decode cX4_opposed 0 = .ok (.aload_n 0, 1) := by decide +kernel
theorem dX4_opposed_1 : decode cX4_opposed 1 = .ok (.getfield 32, 3) := by decide +kernel
theorem dX4_opposed_4 : decode cX4_opposed 4 = .ok (.iload_n 1, 1) := by decide +kernel
theorem dX4_opposed_5 : decode cX4_opposed 5 = .ok (.baload, 1) := by decide +kernel
theorem dX4_opposed_6 : decode cX4_opposed 6 = .ok (.aload_n 0, 1) := by decide +kernel
theorem dX4_opposed_7 : decode cX4_opposed 7 = .ok (.getfield 32, 3) := by decide +kernel
theorem dX4_opposed_10 : decode cX4_opposed 10 = .ok (.iload_n 2, 1) := by decide +kernel
theorem dX4_opposed_11 : decode cX4_opposed 11 = .ok (.baload, 1) := by decide +kernel
theorem dX4_opposed_12 : decode cX4_opposed 12 = .ok (.if_icmp .eq 32, 3) := by decide +kernel
theorem dX4_opposed_15 : decode cX4_opposed 15 = .ok (.aload_n 0, 1) := by decide +kernel
theorem dX4_opposed_16 : decode cX4_opposed 16 = .ok (.getfield 38, 3) := by decide +kernel
theorem dX4_opposed_19 : decode cX4_opposed 19 = .ok (.aload_n 0, 1) := by decide +kernel
theorem dX4_opposed_20 : decode cX4_opposed 20 = .ok (.getfield 29, 3) := by decide +kernel
theorem dX4_opposed_23 : decode cX4_opposed 23 = .ok (.iload_n 1, 1) := by decide +kernel
theorem dX4_opposed_24 : decode cX4_opposed 24 = .ok (.iaload, 1) := by decide +kernel
theorem dX4_opposed_25 : decode cX4_opposed 25 = .ok (.iaload, 1) := by decide +kernel
theorem dX4_opposed_26 : decode cX4_opposed 26 = .ok (.aload_n 0, 1) := by decide +kernel
theorem dX4_opposed_27 : decode cX4_opposed 27 = .ok (.getfield 38, 3) := by decide +kernel
theorem dX4_opposed_30 : decode cX4_opposed 30 = .ok (.aload_n 0, 1) := by decide +kernel
theorem dX4_opposed_31 : decode cX4_opposed 31 = .ok (.getfield 29, 3) := by decide +kernel
theorem dX4_opposed_34 : decode cX4_opposed 34 = .ok (.iload_n 2, 1) := by decide +kernel
theorem dX4_opposed_35 : decode cX4_opposed 35 = .ok (.iaload, 1) := by decide +kernel
theorem dX4_opposed_36 : decode cX4_opposed 36 = .ok (.iaload, 1) := by decide +kernel
theorem dX4_opposed_37 : decode cX4_opposed 37 = .ok (.if_icmp .ne 7, 3) := by decide +kernel
theorem dX4_opposed_40 : decode cX4_opposed 40 = .ok (.iconst 1, 1) := by decide +kernel
theorem dX4_opposed_41 : decode cX4_opposed 41 = .ok (.goto 4, 3) := by decide +kernel
theorem dX4_opposed_44 : decode cX4_opposed 44 = .ok (.iconst 0, 1) := by decide +kernel
theorem dX4_opposed_45 : decode cX4_opposed 45 = .ok (.ireturn, 1) := by decide +kernel
theorem dX4_alike_0 : decode cX4_alike 0 = .ok (.aload_n 0, 1) := by decide +kernel
theorem dX4_alike_1 : decode cX4_alike 1 = .ok (.getfield 32, 3) := by decide +kernel
theorem dX4_alike_4 : decode cX4_alike 4 = .ok (.iload_n 1, 1) := by decide +kernel
theorem dX4_alike_5 : decode cX4_alike 5 = .ok (.baload, 1) := by decide +kernel
theorem dX4_alike_6 : decode cX4_alike 6 = .ok (.aload_n 0, 1) := by decide +kernel
theorem dX4_alike_7 : decode cX4_alike 7 = .ok (.getfield 32, 3) := by decide +kernel
theorem dX4_alike_10 : decode cX4_alike 10 = .ok (.iload_n 2, 1) := by decide +kernel
theorem dX4_alike_11 : decode cX4_alike 11 = .ok (.baload, 1) := by decide +kernel
theorem dX4_alike_12 : decode cX4_alike 12 = .ok (.if_icmp .ne 32, 3) := by decide +kernel
theorem dX4_alike_15 : decode cX4_alike 15 = .ok (.aload_n 0, 1) := by decide +kernel
theorem dX4_alike_16 : decode cX4_alike 16 = .ok (.getfield 38, 3) := by decide +kernel
theorem dX4_alike_19 : decode cX4_alike 19 = .ok (.aload_n 0, 1) := by decide +kernel
theorem dX4_alike_20 : decode cX4_alike 20 = .ok (.getfield 29, 3) := by decide +kernel
theorem dX4_alike_23 : decode cX4_alike 23 = .ok (.iload_n 1, 1) := by decide +kernel
theorem dX4_alike_24 : decode cX4_alike 24 = .ok (.iaload, 1) := by decide +kernel
theorem dX4_alike_25 : decode cX4_alike 25 = .ok (.iaload, 1) := by decide +kernel
theorem dX4_alike_26 : decode cX4_alike 26 = .ok (.aload_n 0, 1) := by decide +kernel
theorem dX4_alike_27 : decode cX4_alike 27 = .ok (.getfield 38, 3) := by decide +kernel
theorem dX4_alike_30 : decode cX4_alike 30 = .ok (.aload_n 0, 1) := by decide +kernel
theorem dX4_alike_31 : decode cX4_alike 31 = .ok (.getfield 29, 3) := by decide +kernel
theorem dX4_alike_34 : decode cX4_alike 34 = .ok (.iload_n 2, 1) := by decide +kernel
theorem dX4_alike_35 : decode cX4_alike 35 = .ok (.iaload, 1) := by decide +kernel
theorem dX4_alike_36 : decode cX4_alike 36 = .ok (.iaload, 1) := by decide +kernel
theorem dX4_alike_37 : decode cX4_alike 37 = .ok (.if_icmp .ne 7, 3) := by decide +kernel
theorem dX4_alike_40 : decode cX4_alike 40 = .ok (.iconst 1, 1) := by decide +kernel
theorem dX4_alike_41 : decode cX4_alike 41 = .ok (.goto 4, 3) := by decide +kernel
theorem dX4_alike_44 : decode cX4_alike 44 = .ok (.iconst 0, 1) := by decide +kernel
theorem dX4_alike_45 : decode cX4_alike 45 = .ok (.ireturn, 1) := by decide +kernel
theorem dX4_positive_0 : decode cX4_positive 0 = .ok (.aload_n 0, 1) := by decide +kernel
theorem dX4_positive_1 : decode cX4_positive 1 = .ok (.getfield 23, 3) := by decide +kernel
theorem dX4_positive_4 : decode cX4_positive 4 = .ok (.iload_n 1, 1) := by decide +kernel
theorem dX4_positive_5 : decode cX4_positive 5 = .ok (.iaload, 1) := by decide +kernel
theorem dX4_positive_6 : decode cX4_positive 6 = .ok (.istore_n 2, 1) := by decide +kernel
theorem dX4_positive_7 : decode cX4_positive 7 = .ok (.iload_n 2, 1) := by decide +kernel
theorem dX4_positive_8 : decode cX4_positive 8 = .ok (.aload_n 0, 1) := by decide +kernel
theorem dX4_positive_9 : decode cX4_positive 9 = .ok (.getfield 23, 3) := by decide +kernel
theorem dX4_positive_12 : decode cX4_positive 12 = .ok (.iload_n 1, 1) := by decide +kernel
theorem dX4_positive_13 : decode cX4_positive 13 = .ok (.iconst 1, 1) := by decide +kernel
theorem dX4_positive_14 : decode cX4_positive 14 = .ok (.iadd, 1) := by decide +kernel
theorem dX4_positive_15 : decode cX4_positive 15 = .ok (.iaload, 1) := by decide +kernel
theorem dX4_positive_16 : decode cX4_positive 16 = .ok (.if_icmp .ge 20, 3) := by decide +kernel
theorem dX4_positive_19 : decode cX4_positive 19 = .ok (.aload_n 0, 1) := by decide +kernel
theorem dX4_positive_20 : decode cX4_positive 20 = .ok (.getfield 32, 3) := by decide +kernel
theorem dX4_positive_23 : decode cX4_positive 23 = .ok (.iload_n 2, 1) := by decide +kernel
theorem dX4_positive_24 : decode cX4_positive 24 = .ok (.baload, 1) := by decide +kernel
theorem dX4_positive_25 : decode cX4_positive 25 = .ok (.ifCond .eq 5, 3) := by decide +kernel
theorem dX4_positive_28 : decode cX4_positive 28 = .ok (.iconst 0, 1) := by decide +kernel
theorem dX4_positive_29 : decode cX4_positive 29 = .ok (.ireturn, 1) := by decide +kernel
theorem dX4_positive_30 : decode cX4_positive 30 = .ok (.iinc 2 1, 3) := by decide +kernel
theorem dX4_positive_33 : decode cX4_positive 33 = .ok (.goto (-26), 3) := by decide +kernel
theorem dX4_positive_36 : decode cX4_positive 36 = .ok (.iconst 1, 1) := by decide +kernel
theorem dX4_positive_37 : decode cX4_positive 37 = .ok (.ireturn, 1) := by decide +kernel
theorem dX5_init_0 : decode cX5_init 0 = .ok (.aload_n 0, 1) := by decide +kernel
theorem dX5_init_1 : decode cX5_init 1 = .ok (.invokespecial 5, 3) := by decide +kernel
theorem dX5_init_4 : decode cX5_init 4 = .ok (.aload_n 0, 1) := by decide +kernel
theorem dX5_init_5 : decode cX5_init 5 = .ok (.sipush 150, 3) := by decide +kernel
theorem dX5_init_8 : decode cX5_init 8 = .ok (.newarray .int, 2) := by decide +kernel
theorem dX5_init_10 : decode cX5_init 10 = .ok (.putfield 11, 3) := by decide +kernel
theorem dX5_init_13 : decode cX5_init 13 = .ok (.aload_n 0, 1) := by decide +kernel
theorem dX5_init_14 : decode cX5_init 14 = .ok (.sipush 150, 3) := by decide +kernel
theorem dX5_init_17 : decode cX5_init 17 = .ok (.newarray .int, 2) := by decide +kernel
theorem dX5_init_19 : decode cX5_init 19 = .ok (.putfield 15, 3) := by decide +kernel
theorem dX5_init_22 : decode cX5_init 22 = .ok (.aload_n 0, 1) := by decide +kernel
theorem dX5_init_23 : decode cX5_init 23 = .ok (.sipush 150, 3) := by decide +kernel
theorem dX5_init_26 : decode cX5_init 26 = .ok (.newarray .int, 2) := by decide +kernel
theorem dX5_init_28 : decode cX5_init 28 = .ok (.putfield 18, 3) := by decide +kernel
theorem dX5_init_31 : decode cX5_init 31 = .ok (.aload_n 0, 1) := by decide +kernel
theorem dX5_init_32 : decode cX5_init 32 = .ok (.sipush 150, 3) := by decide +kernel
theorem dX5_init_35 : decode cX5_init 35 = .ok (.newarray .int, 2) := by decide +kernel
theorem dX5_init_37 : decode cX5_init 37 = .ok (.putfield 21, 3) := by decide +kernel
theorem dX5_init_40 : decode cX5_init 40 = .ok (.aload_n 0, 1) := by decide +kernel
theorem dX5_init_41 : decode cX5_init 41 = .ok (.sipush 150, 3) := by decide +kernel
theorem dX5_init_44 : decode cX5_init 44 = .ok (.newarray .int, 2) := by decide +kernel
theorem dX5_init_46 : decode cX5_init 46 = .ok (.putfield 24, 3) := by decide +kernel
theorem dX5_init_49 : decode cX5_init 49 = .ok (.aload_n 0, 1) := by decide +kernel
theorem dX5_init_50 : decode cX5_init 50 = .ok (.sipush 220, 3) := by decide +kernel
theorem dX5_init_53 : decode cX5_init 53 = .ok (.newarray .int, 2) := by decide +kernel
theorem dX5_init_55 : decode cX5_init 55 = .ok (.putfield 27, 3) := by decide +kernel
theorem dX5_init_58 : decode cX5_init 58 = .ok (.aload_n 0, 1) := by decide +kernel
theorem dX5_init_59 : decode cX5_init 59 = .ok (.sipush 220, 3) := by decide +kernel
theorem dX5_init_62 : decode cX5_init 62 = .ok (.newarray .int, 2) := by decide +kernel
theorem dX5_init_64 : decode cX5_init 64 = .ok (.putfield 30, 3) := by decide +kernel
theorem dX5_init_67 : decode cX5_init 67 = .ok (.aload_n 0, 1) := by decide +kernel
theorem dX5_init_68 : decode cX5_init 68 = .ok (.sipush 220, 3) := by decide +kernel
theorem dX5_init_71 : decode cX5_init 71 = .ok (.newarray .int, 2) := by decide +kernel
theorem dX5_init_73 : decode cX5_init 73 = .ok (.putfield 33, 3) := by decide +kernel
theorem dX5_init_76 : decode cX5_init 76 = .ok (.aload_n 0, 1) := by decide +kernel
theorem dX5_init_77 : decode cX5_init 77 = .ok (.aload_n 1, 1) := by decide +kernel
theorem dX5_init_78 : decode cX5_init 78 = .ok (.putfield 36, 3) := by decide +kernel
theorem dX5_init_81 : decode cX5_init 81 = .ok (.iconst 0, 1) := by decide +kernel
theorem dX5_init_82 : decode cX5_init 82 = .ok (.istore_n 2, 1) := by decide +kernel
theorem dX5_init_83 : decode cX5_init 83 = .ok (.iload_n 2, 1) := by decide +kernel
theorem dX5_init_84 : decode cX5_init 84 = .ok (.sipush 220, 3) := by decide +kernel
theorem dX5_init_87 : decode cX5_init 87 = .ok (.if_icmp .ge 16, 3) := by decide +kernel
theorem dX5_init_90 : decode cX5_init 90 = .ok (.aload_n 0, 1) := by decide +kernel
theorem dX5_init_91 : decode cX5_init 91 = .ok (.getfield 27, 3) := by decide +kernel
theorem dX5_init_94 : decode cX5_init 94 = .ok (.iload_n 2, 1) := by decide +kernel
theorem dX5_init_95 : decode cX5_init 95 = .ok (.iconst (-1), 1) := by decide +kernel
theorem dX5_init_96 : decode cX5_init 96 = .ok (.iastore, 1) := by decide +kernel
theorem dX5_init_97 : decode cX5_init 97 = .ok (.iinc 2 1, 3) := by decide +kernel
theorem dX5_init_100 : decode cX5_init 100 = .ok (.goto (-17), 3) := by decide +kernel
theorem dX5_init_103 : decode cX5_init 103 = .ok (.return_, 1) := by decide +kernel
theorem dX5_bind_0 : decode cX5_bind 0 = .ok (.aload_n 0, 1) := by decide +kernel
theorem dX5_bind_1 : decode cX5_bind 1 = .ok (.getfield 40, 3) := by decide +kernel
theorem dX5_bind_4 : decode cX5_bind 4 = .ok (.sipush 220, 3) := by decide +kernel
theorem dX5_bind_7 : decode cX5_bind 7 = .ok (.if_icmp .ge 37, 3) := by decide +kernel
theorem dX5_bind_10 : decode cX5_bind 10 = .ok (.aload_n 0, 1) := by decide +kernel
theorem dX5_bind_11 : decode cX5_bind 11 = .ok (.getfield 27, 3) := by decide +kernel
theorem dX5_bind_14 : decode cX5_bind 14 = .ok (.iload_n 1, 1) := by decide +kernel
theorem dX5_bind_15 : decode cX5_bind 15 = .ok (.iload_n 2, 1) := by decide +kernel
theorem dX5_bind_16 : decode cX5_bind 16 = .ok (.iastore, 1) := by decide +kernel
theorem dX5_bind_17 : decode cX5_bind 17 = .ok (.aload_n 0, 1) := by decide +kernel
theorem dX5_bind_18 : decode cX5_bind 18 = .ok (.getfield 30, 3) := by decide +kernel
theorem dX5_bind_21 : decode cX5_bind 21 = .ok (.iload_n 1, 1) := by decide +kernel
theorem dX5_bind_22 : decode cX5_bind 22 = .ok (.iload_n 3, 1) := by decide +kernel
theorem dX5_bind_23 : decode cX5_bind 23 = .ok (.iastore, 1) := by decide +kernel
theorem dX5_bind_24 : decode cX5_bind 24 = .ok (.aload_n 0, 1) := by decide +kernel
theorem dX5_bind_25 : decode cX5_bind 25 = .ok (.getfield 33, 3) := by decide +kernel
theorem dX5_bind_28 : decode cX5_bind 28 = .ok (.aload_n 0, 1) := by decide +kernel
theorem dX5_bind_29 : decode cX5_bind 29 = .ok (.getfield 40, 3) := by decide +kernel
theorem dX5_bind_32 : decode cX5_bind 32 = .ok (.iload_n 1, 1) := by decide +kernel
theorem dX5_bind_33 : decode cX5_bind 33 = .ok (.iastore, 1) := by decide +kernel
theorem dX5_bind_34 : decode cX5_bind 34 = .ok (.aload_n 0, 1) := by decide +kernel
theorem dX5_bind_35 : decode cX5_bind 35 = .ok (.dup, 1) := by decide +kernel
theorem dX5_bind_36 : decode cX5_bind 36 = .ok (.getfield 40, 3) := by decide +kernel
theorem dX5_bind_39 : decode cX5_bind 39 = .ok (.iconst 1, 1) := by decide +kernel
theorem dX5_bind_40 : decode cX5_bind 40 = .ok (.iadd, 1) := by decide +kernel
theorem dX5_bind_41 : decode cX5_bind 41 = .ok (.putfield 40, 3) := by decide +kernel
theorem dX5_bind_44 : decode cX5_bind 44 = .ok (.return_, 1) := by decide +kernel
theorem dX5_unbind_0 : decode cX5_unbind 0 = .ok (.aload_n 0, 1) := by decide +kernel
theorem dX5_unbind_1 : decode cX5_unbind 1 = .ok (.getfield 40, 3) := by decide +kernel
theorem dX5_unbind_4 : decode cX5_unbind 4 = .ok (.iload_n 1, 1) := by decide +kernel
theorem dX5_unbind_5 : decode cX5_unbind 5 = .ok (.if_icmp .le 38, 3) := by decide +kernel
theorem dX5_unbind_8 : decode cX5_unbind 8 = .ok (.aload_n 0, 1) := by decide +kernel
theorem dX5_unbind_9 : decode cX5_unbind 9 = .ok (.getfield 40, 3) := by decide +kernel
theorem dX5_unbind_12 : decode cX5_unbind 12 = .ok (.ifCond .le 31, 3) := by decide +kernel
theorem dX5_unbind_15 : decode cX5_unbind 15 = .ok (.aload_n 0, 1) := by decide +kernel
theorem dX5_unbind_16 : decode cX5_unbind 16 = .ok (.dup, 1) := by decide +kernel
theorem dX5_unbind_17 : decode cX5_unbind 17 = .ok (.getfield 40, 3) := by decide +kernel
theorem dX5_unbind_20 : decode cX5_unbind 20 = .ok (.iconst 1, 1) := by decide +kernel
theorem dX5_unbind_21 : decode cX5_unbind 21 = .ok (.isub, 1) := by decide +kernel
theorem dX5_unbind_22 : decode cX5_unbind 22 = .ok (.putfield 40, 3) := by decide +kernel
theorem dX5_unbind_25 : decode cX5_unbind 25 = .ok (.aload_n 0, 1) := by decide +kernel
theorem dX5_unbind_26 : decode cX5_unbind 26 = .ok (.getfield 27, 3) := by decide +kernel
theorem dX5_unbind_29 : decode cX5_unbind 29 = .ok (.aload_n 0, 1) := by decide +kernel
theorem dX5_unbind_30 : decode cX5_unbind 30 = .ok (.getfield 33, 3) := by decide +kernel
theorem dX5_unbind_33 : decode cX5_unbind 33 = .ok (.aload_n 0, 1) := by decide +kernel
theorem dX5_unbind_34 : decode cX5_unbind 34 = .ok (.getfield 40, 3) := by decide +kernel
theorem dX5_unbind_37 : decode cX5_unbind 37 = .ok (.iaload, 1) := by decide +kernel
theorem dX5_unbind_38 : decode cX5_unbind 38 = .ok (.iconst (-1), 1) := by decide +kernel
theorem dX5_unbind_39 : decode cX5_unbind 39 = .ok (.iastore, 1) := by decide +kernel
theorem dX5_unbind_40 : decode cX5_unbind 40 = .ok (.goto (-40), 3) := by decide +kernel
theorem dX5_unbind_43 : decode cX5_unbind 43 = .ok (.return_, 1) := by decide +kernel
theorem dX5_fits_0 : decode cX5_fits 0 = .ok (.aload_n 0, 1) := by decide +kernel
theorem dX5_fits_1 : decode cX5_fits 1 = .ok (.getfield 36, 3) := by decide +kernel
theorem dX5_fits_4 : decode cX5_fits 4 = .ok (.getfield 44, 3) := by decide +kernel
theorem dX5_fits_7 : decode cX5_fits 7 = .ok (.iload_n 1, 1) := by decide +kernel
theorem dX5_fits_8 : decode cX5_fits 8 = .ok (.iconst 1, 1) := by decide +kernel
theorem dX5_fits_9 : decode cX5_fits 9 = .ok (.iadd, 1) := by decide +kernel
theorem dX5_fits_10 : decode cX5_fits 10 = .ok (.iaload, 1) := by decide +kernel
theorem dX5_fits_11 : decode cX5_fits 11 = .ok (.aload_n 0, 1) := by decide +kernel
theorem dX5_fits_12 : decode cX5_fits 12 = .ok (.getfield 36, 3) := by decide +kernel
theorem dX5_fits_15 : decode cX5_fits 15 = .ok (.getfield 44, 3) := by decide +kernel
theorem dX5_fits_18 : decode cX5_fits 18 = .ok (.iload_n 1, 1) := by decide +kernel
theorem dX5_fits_19 : decode cX5_fits 19 = .ok (.iaload, 1) := by decide +kernel
theorem dX5_fits_20 : decode cX5_fits 20 = .ok (.isub, 1) := by decide +kernel
theorem dX5_fits_21 : decode cX5_fits 21 = .ok (.istore_n 2, 1) := by decide +kernel
theorem dX5_fits_22 : decode cX5_fits 22 = .ok (.aload_n 0, 1) := by decide +kernel
theorem dX5_fits_23 : decode cX5_fits 23 = .ok (.getfield 47, 3) := by decide +kernel
theorem dX5_fits_26 : decode cX5_fits 26 = .ok (.iload_n 2, 1) := by decide +kernel
theorem dX5_fits_27 : decode cX5_fits 27 = .ok (.iadd, 1) := by decide +kernel
theorem dX5_fits_28 : decode cX5_fits 28 = .ok (.sipush 150, 3) := by decide +kernel
theorem dX5_fits_31 : decode cX5_fits 31 = .ok (.if_icmp .gt 27, 3) := by decide +kernel
theorem dX5_fits_34 : decode cX5_fits 34 = .ok (.aload_n 0, 1) := by decide +kernel
theorem dX5_fits_35 : decode cX5_fits 35 = .ok (.getfield 50, 3) := by decide +kernel
theorem dX5_fits_38 : decode cX5_fits 38 = .ok (.aload_n 0, 1) := by decide +kernel
theorem dX5_fits_39 : decode cX5_fits 39 = .ok (.getfield 36, 3) := by decide +kernel
theorem dX5_fits_42 : decode cX5_fits 42 = .ok (.getfield 53, 3) := by decide +kernel
theorem dX5_fits_45 : decode cX5_fits 45 = .ok (.iload_n 1, 1) := by decide +kernel
theorem dX5_fits_46 : decode cX5_fits 46 = .ok (.iaload, 1) := by decide +kernel
theorem dX5_fits_47 : decode cX5_fits 47 = .ok (.iadd, 1) := by decide +kernel
theorem dX5_fits_48 : decode cX5_fits 48 = .ok (.sipush 200, 3) := by decide +kernel
theorem dX5_fits_51 : decode cX5_fits 51 = .ok (.if_icmp .gt 7, 3) := by decide +kernel
theorem dX5_fits_54 : decode cX5_fits 54 = .ok (.iconst 1, 1) := by decide +kernel
theorem dX5_fits_55 : decode cX5_fits 55 = .ok (.goto 4, 3) := by decide +kernel
theorem dX5_fits_58 : decode cX5_fits 58 = .ok (.iconst 0, 1) := by decide +kernel
theorem dX5_fits_59 : decode cX5_fits 59 = .ok (.ireturn, 1) := by decide +kernel
theorem dX5_add_0 : decode cX5_add 0 = .ok (.iload_n 2, 1) := by decide +kernel
theorem dX5_add_1 : decode cX5_add 1 = .ok (.ifCond .ge 7, 3) := by decide +kernel
theorem dX5_add_4 : decode cX5_add 4 = .ok (.iconst (-1), 1) := by decide +kernel
theorem dX5_add_5 : decode cX5_add 5 = .ok (.goto 9, 3) := by decide +kernel
theorem dX5_add_8 : decode cX5_add 8 = .ok (.aload_n 0, 1) := by decide +kernel
theorem dX5_add_9 : decode cX5_add 9 = .ok (.getfield 24, 3) := by decide +kernel
theorem dX5_add_12 : decode cX5_add 12 = .ok (.iload_n 2, 1) := by decide +kernel
theorem dX5_add_13 : decode cX5_add 13 = .ok (.iaload, 1) := by decide +kernel
theorem dX5_add_14 : decode cX5_add 14 = .ok (.istore 4, 2) := by decide +kernel
theorem dX5_add_16 : decode cX5_add 16 = .ok (.iload_n 2, 1) := by decide +kernel
theorem dX5_add_17 : decode cX5_add 17 = .ok (.ifCond .ge 7, 3) := by decide +kernel
theorem dX5_add_20 : decode cX5_add 20 = .ok (.iconst 0, 1) := by decide +kernel
theorem dX5_add_21 : decode cX5_add 21 = .ok (.goto 11, 3) := by decide +kernel
theorem dX5_add_24 : decode cX5_add 24 = .ok (.aload_n 0, 1) := by decide +kernel
theorem dX5_add_25 : decode cX5_add 25 = .ok (.getfield 21, 3) := by decide +kernel
theorem dX5_add_28 : decode cX5_add 28 = .ok (.iload_n 2, 1) := by decide +kernel
theorem dX5_add_29 : decode cX5_add 29 = .ok (.iaload, 1) := by decide +kernel
theorem dX5_add_30 : decode cX5_add 30 = .ok (.iconst 1, 1) := by decide +kernel
theorem dX5_add_31 : decode cX5_add 31 = .ok (.iadd, 1) := by decide +kernel
theorem dX5_add_32 : decode cX5_add 32 = .ok (.istore 5, 2) := by decide +kernel
theorem dX5_add_34 : decode cX5_add 34 = .ok (.aload_n 0, 1) := by decide +kernel
theorem dX5_add_35 : decode cX5_add 35 = .ok (.getfield 36, 3) := by decide +kernel
theorem dX5_add_38 : decode cX5_add 38 = .ok (.getfield 44, 3) := by decide +kernel
theorem dX5_add_41 : decode cX5_add 41 = .ok (.iload_n 1, 1) := by decide +kernel
theorem dX5_add_42 : decode cX5_add 42 = .ok (.iaload, 1) := by decide +kernel
theorem dX5_add_43 : decode cX5_add 43 = .ok (.istore 6, 2) := by decide +kernel
theorem dX5_add_45 : decode cX5_add 45 = .ok (.iload 6, 2) := by decide +kernel
theorem dX5_add_47 : decode cX5_add 47 = .ok (.istore 7, 2) := by decide +kernel
theorem dX5_add_49 : decode cX5_add 49 = .ok (.iload 7, 2) := by decide +kernel
theorem dX5_add_51 : decode cX5_add 51 = .ok (.aload_n 0, 1) := by decide +kernel
theorem dX5_add_52 : decode cX5_add 52 = .ok (.getfield 36, 3) := by decide +kernel
theorem dX5_add_55 : decode cX5_add 55 = .ok (.getfield 44, 3) := by decide +kernel
theorem dX5_add_58 : decode cX5_add 58 = .ok (.iload_n 1, 1) := by decide +kernel
theorem dX5_add_59 : decode cX5_add 59 = .ok (.iconst 1, 1) := by decide +kernel
theorem dX5_add_60 : decode cX5_add 60 = .ok (.iadd, 1) := by decide +kernel
theorem dX5_add_61 : decode cX5_add 61 = .ok (.iaload, 1) := by decide +kernel
theorem dX5_add_62 : decode cX5_add 62 = .ok (.if_icmp .ge 78, 3) := by decide +kernel
theorem dX5_add_65 : decode cX5_add 65 = .ok (.aload_n 0, 1) := by decide +kernel
theorem dX5_add_66 : decode cX5_add 66 = .ok (.getfield 11, 3) := by decide +kernel
theorem dX5_add_69 : decode cX5_add 69 = .ok (.aload_n 0, 1) := by decide +kernel
theorem dX5_add_70 : decode cX5_add 70 = .ok (.getfield 47, 3) := by decide +kernel
theorem dX5_add_73 : decode cX5_add 73 = .ok (.iload 7, 2) := by decide +kernel
theorem dX5_add_75 : decode cX5_add 75 = .ok (.iadd, 1) := by decide +kernel
theorem dX5_add_76 : decode cX5_add 76 = .ok (.iload 6, 2) := by decide +kernel
theorem dX5_add_78 : decode cX5_add 78 = .ok (.isub, 1) := by decide +kernel
theorem dX5_add_79 : decode cX5_add 79 = .ok (.iload 7, 2) := by decide +kernel
theorem dX5_add_81 : decode cX5_add 81 = .ok (.iastore, 1) := by decide +kernel
theorem dX5_add_82 : decode cX5_add 82 = .ok (.aload_n 0, 1) := by decide +kernel
theorem dX5_add_83 : decode cX5_add 83 = .ok (.getfield 15, 3) := by decide +kernel
theorem dX5_add_86 : decode cX5_add 86 = .ok (.aload_n 0, 1) := by decide +kernel
theorem dX5_add_87 : decode cX5_add 87 = .ok (.getfield 47, 3) := by decide +kernel
theorem dX5_add_90 : decode cX5_add 90 = .ok (.iload 7, 2) := by decide +kernel
theorem dX5_add_92 : decode cX5_add 92 = .ok (.iadd, 1) := by decide +kernel
theorem dX5_add_93 : decode cX5_add 93 = .ok (.iload 6, 2) := by decide +kernel
theorem dX5_add_95 : decode cX5_add 95 = .ok (.isub, 1) := by decide +kernel
theorem dX5_add_96 : decode cX5_add 96 = .ok (.aload_n 0, 1) := by decide +kernel
theorem dX5_add_97 : decode cX5_add 97 = .ok (.getfield 50, 3) := by decide +kernel
theorem dX5_add_100 : decode cX5_add 100 = .ok (.iastore, 1) := by decide +kernel
theorem dX5_add_101 : decode cX5_add 101 = .ok (.aload_n 0, 1) := by decide +kernel
theorem dX5_add_102 : decode cX5_add 102 = .ok (.getfield 18, 3) := by decide +kernel
theorem dX5_add_105 : decode cX5_add 105 = .ok (.aload_n 0, 1) := by decide +kernel
theorem dX5_add_106 : decode cX5_add 106 = .ok (.getfield 47, 3) := by decide +kernel
theorem dX5_add_109 : decode cX5_add 109 = .ok (.iload 7, 2) := by decide +kernel
theorem dX5_add_111 : decode cX5_add 111 = .ok (.iadd, 1) := by decide +kernel
theorem dX5_add_112 : decode cX5_add 112 = .ok (.iload 6, 2) := by decide +kernel
theorem dX5_add_114 : decode cX5_add 114 = .ok (.isub, 1) := by decide +kernel
theorem dX5_add_115 : decode cX5_add 115 = .ok (.iload_n 2, 1) := by decide +kernel
theorem dX5_add_116 : decode cX5_add 116 = .ok (.iastore, 1) := by decide +kernel
theorem dX5_add_117 : decode cX5_add 117 = .ok (.aload_n 0, 1) := by decide +kernel
theorem dX5_add_118 : decode cX5_add 118 = .ok (.getfield 21, 3) := by decide +kernel
theorem dX5_add_121 : decode cX5_add 121 = .ok (.aload_n 0, 1) := by decide +kernel
theorem dX5_add_122 : decode cX5_add 122 = .ok (.getfield 47, 3) := by decide +kernel
theorem dX5_add_125 : decode cX5_add 125 = .ok (.iload 7, 2) := by decide +kernel
theorem dX5_add_127 : decode cX5_add 127 = .ok (.iadd, 1) := by decide +kernel
theorem dX5_add_128 : decode cX5_add 128 = .ok (.iload 6, 2) := by decide +kernel
theorem dX5_add_130 : decode cX5_add 130 = .ok (.isub, 1) := by decide +kernel
theorem dX5_add_131 : decode cX5_add 131 = .ok (.iload 5, 2) := by decide +kernel
theorem dX5_add_133 : decode cX5_add 133 = .ok (.iastore, 1) := by decide +kernel
theorem dX5_add_134 : decode cX5_add 134 = .ok (.iinc 7 1, 3) := by decide +kernel
theorem dX5_add_137 : decode cX5_add 137 = .ok (.goto (-88), 3) := by decide +kernel
theorem dX5_add_140 : decode cX5_add 140 = .ok (.iload 4, 2) := by decide +kernel
theorem dX5_add_142 : decode cX5_add 142 = .ok (.istore 7, 2) := by decide +kernel
theorem dX5_add_144 : decode cX5_add 144 = .ok (.aload_n 0, 1) := by decide +kernel
theorem dX5_add_145 : decode cX5_add 145 = .ok (.getfield 36, 3) := by decide +kernel
theorem dX5_add_148 : decode cX5_add 148 = .ok (.getfield 44, 3) := by decide +kernel
theorem dX5_add_151 : decode cX5_add 151 = .ok (.iload_n 1, 1) := by decide +kernel
theorem dX5_add_152 : decode cX5_add 152 = .ok (.iconst 1, 1) := by decide +kernel
theorem dX5_add_153 : decode cX5_add 153 = .ok (.iadd, 1) := by decide +kernel
theorem dX5_add_154 : decode cX5_add 154 = .ok (.iaload, 1) := by decide +kernel
theorem dX5_add_155 : decode cX5_add 155 = .ok (.iconst 1, 1) := by decide +kernel
theorem dX5_add_156 : decode cX5_add 156 = .ok (.isub, 1) := by decide +kernel
theorem dX5_add_157 : decode cX5_add 157 = .ok (.istore 8, 2) := by decide +kernel
theorem dX5_add_159 : decode cX5_add 159 = .ok (.iload 8, 2) := by decide +kernel
theorem dX5_add_161 : decode cX5_add 161 = .ok (.iload 6, 2) := by decide +kernel
theorem dX5_add_163 : decode cX5_add 163 = .ok (.if_icmp .lt 44, 3) := by decide +kernel
theorem dX5_add_166 : decode cX5_add 166 = .ok (.iload 8, 2) := by decide +kernel
theorem dX5_add_168 : decode cX5_add 168 = .ok (.iload_n 3, 1) := by decide +kernel
theorem dX5_add_169 : decode cX5_add 169 = .ok (.if_icmp .eq 32, 3) := by decide +kernel
theorem dX5_add_172 : decode cX5_add 172 = .ok (.aload_n 0, 1) := by decide +kernel
theorem dX5_add_173 : decode cX5_add 173 = .ok (.getfield 24, 3) := by decide +kernel
theorem dX5_add_176 : decode cX5_add 176 = .ok (.aload_n 0, 1) := by decide +kernel
theorem dX5_add_177 : decode cX5_add 177 = .ok (.getfield 47, 3) := by decide +kernel
theorem dX5_add_180 : decode cX5_add 180 = .ok (.iload 8, 2) := by decide +kernel
theorem dX5_add_182 : decode cX5_add 182 = .ok (.iadd, 1) := by decide +kernel
theorem dX5_add_183 : decode cX5_add 183 = .ok (.iload 6, 2) := by decide +kernel
theorem dX5_add_185 : decode cX5_add 185 = .ok (.isub, 1) := by decide +kernel
theorem dX5_add_186 : decode cX5_add 186 = .ok (.iload 7, 2) := by decide +kernel
theorem dX5_add_188 : decode cX5_add 188 = .ok (.iastore, 1) := by decide +kernel
theorem dX5_add_189 : decode cX5_add 189 = .ok (.aload_n 0, 1) := by decide +kernel
theorem dX5_add_190 : decode cX5_add 190 = .ok (.getfield 47, 3) := by decide +kernel
theorem dX5_add_193 : decode cX5_add 193 = .ok (.iload 8, 2) := by decide +kernel
theorem dX5_add_195 : decode cX5_add 195 = .ok (.iadd, 1) := by decide +kernel
theorem dX5_add_196 : decode cX5_add 196 = .ok (.iload 6, 2) := by decide +kernel
theorem dX5_add_198 : decode cX5_add 198 = .ok (.isub, 1) := by decide +kernel
theorem dX5_add_199 : decode cX5_add 199 = .ok (.istore 7, 2) := by decide +kernel
theorem dX5_add_201 : decode cX5_add 201 = .ok (.iinc 8 (-1), 3) := by decide +kernel
theorem dX5_add_204 : decode cX5_add 204 = .ok (.goto (-45), 3) := by decide +kernel
theorem dX5_add_207 : decode cX5_add 207 = .ok (.aload_n 0, 1) := by decide +kernel
theorem dX5_add_208 : decode cX5_add 208 = .ok (.dup, 1) := by decide +kernel
theorem dX5_add_209 : decode cX5_add 209 = .ok (.getfield 47, 3) := by decide +kernel
theorem dX5_add_212 : decode cX5_add 212 = .ok (.aload_n 0, 1) := by decide +kernel
theorem dX5_add_213 : decode cX5_add 213 = .ok (.getfield 36, 3) := by decide +kernel
theorem dX5_add_216 : decode cX5_add 216 = .ok (.getfield 44, 3) := by decide +kernel
theorem dX5_add_219 : decode cX5_add 219 = .ok (.iload_n 1, 1) := by decide +kernel
theorem dX5_add_220 : decode cX5_add 220 = .ok (.iconst 1, 1) := by decide +kernel
theorem dX5_add_221 : decode cX5_add 221 = .ok (.iadd, 1) := by decide +kernel
theorem dX5_add_222 : decode cX5_add 222 = .ok (.iaload, 1) := by decide +kernel
theorem dX5_add_223 : decode cX5_add 223 = .ok (.iload 6, 2) := by decide +kernel
theorem dX5_add_225 : decode cX5_add 225 = .ok (.isub, 1) := by decide +kernel
theorem dX5_add_226 : decode cX5_add 226 = .ok (.iadd, 1) := by decide +kernel
theorem dX5_add_227 : decode cX5_add 227 = .ok (.putfield 47, 3) := by decide +kernel
theorem dX5_add_230 : decode cX5_add 230 = .ok (.aload_n 0, 1) := by decide +kernel
theorem dX5_add_231 : decode cX5_add 231 = .ok (.dup, 1) := by decide +kernel
theorem dX5_add_232 : decode cX5_add 232 = .ok (.getfield 50, 3) := by decide +kernel
theorem dX5_add_235 : decode cX5_add 235 = .ok (.aload_n 0, 1) := by decide +kernel
theorem dX5_add_236 : decode cX5_add 236 = .ok (.getfield 36, 3) := by decide +kernel
theorem dX5_add_239 : decode cX5_add 239 = .ok (.getfield 53, 3) := by decide +kernel
theorem dX5_add_242 : decode cX5_add 242 = .ok (.iload_n 1, 1) := by decide +kernel
theorem dX5_add_243 : decode cX5_add 243 = .ok (.iaload, 1) := by decide +kernel
theorem dX5_add_244 : decode cX5_add 244 = .ok (.iadd, 1) := by decide +kernel
theorem dX5_add_245 : decode cX5_add 245 = .ok (.putfield 50, 3) := by decide +kernel
theorem dX5_add_248 : decode cX5_add 248 = .ok (.iload 7, 2) := by decide +kernel
theorem dX5_add_250 : decode cX5_add 250 = .ok (.ireturn, 1) := by decide +kernel
theorem dX6_init_0 : decode cX6_init 0 = .ok (.aload_n 0, 1) := by decide +kernel
theorem dX6_init_1 : decode cX6_init 1 = .ok (.invokespecial 1, 3) := by decide +kernel
theorem dX6_init_4 : decode cX6_init 4 = .ok (.aload_n 0, 1) := by decide +kernel
theorem dX6_init_5 : decode cX6_init 5 = .ok (.sipush 1500, 3) := by decide +kernel
theorem dX6_init_8 : decode cX6_init 8 = .ok (.newarray .byte, 2) := by decide +kernel
theorem dX6_init_10 : decode cX6_init 10 = .ok (.putfield 9, 3) := by decide +kernel
theorem dX6_init_13 : decode cX6_init 13 = .ok (.return_, 1) := by decide +kernel
theorem dX6_append_0 : decode cX6_append 0 = .ok (.aload_n 0, 1) := by decide +kernel
theorem dX6_append_1 : decode cX6_append 1 = .ok (.getfield 13, 3) := by decide +kernel
theorem dX6_append_4 : decode cX6_append 4 = .ok (.iload_n 3, 1) := by decide +kernel
theorem dX6_append_5 : decode cX6_append 5 = .ok (.iadd, 1) := by decide +kernel
theorem dX6_append_6 : decode cX6_append 6 = .ok (.sipush 1500, 3) := by decide +kernel
theorem dX6_append_9 : decode cX6_append 9 = .ok (.if_icmp .le 5, 3) := by decide +kernel
theorem dX6_append_12 : decode cX6_append 12 = .ok (.iconst 0, 1) := by decide +kernel
theorem dX6_append_13 : decode cX6_append 13 = .ok (.ireturn, 1) := by decide +kernel
theorem dX6_append_14 : decode cX6_append 14 = .ok (.iload_n 3, 1) := by decide +kernel
theorem dX6_append_15 : decode cX6_append 15 = .ok (.iconst 1, 1) := by decide +kernel
theorem dX6_append_16 : decode cX6_append 16 = .ok (.isub, 1) := by decide +kernel
theorem dX6_append_17 : decode cX6_append 17 = .ok (.istore 4, 2) := by decide +kernel
theorem dX6_append_19 : decode cX6_append 19 = .ok (.iload 4, 2) := by decide +kernel
theorem dX6_append_21 : decode cX6_append 21 = .ok (.ifCond .lt 37, 3) := by decide +kernel
theorem dX6_append_24 : decode cX6_append 24 = .ok (.aload_n 0, 1) := by decide +kernel
theorem dX6_append_25 : decode cX6_append 25 = .ok (.getfield 9, 3) := by decide +kernel
theorem dX6_append_28 : decode cX6_append 28 = .ok (.aload_n 0, 1) := by decide +kernel
theorem dX6_append_29 : decode cX6_append 29 = .ok (.getfield 13, 3) := by decide +kernel
theorem dX6_append_32 : decode cX6_append 32 = .ok (.lload_n 1, 1) := by decide +kernel
theorem dX6_append_33 : decode cX6_append 33 = .ok (.bipush 8, 2) := by decide +kernel
theorem dX6_append_35 : decode cX6_append 35 = .ok (.iload 4, 2) := by decide +kernel
theorem dX6_append_37 : decode cX6_append 37 = .ok (.imul, 1) := by decide +kernel
theorem dX6_append_38 : decode cX6_append 38 = .ok (.lshr, 1) := by decide +kernel
theorem dX6_append_39 : decode cX6_append 39 = .ok (.l2i, 1) := by decide +kernel
theorem dX6_append_40 : decode cX6_append 40 = .ok (.i2b, 1) := by decide +kernel
theorem dX6_append_41 : decode cX6_append 41 = .ok (.bastore, 1) := by decide +kernel
theorem dX6_append_42 : decode cX6_append 42 = .ok (.aload_n 0, 1) := by decide +kernel
theorem dX6_append_43 : decode cX6_append 43 = .ok (.dup, 1) := by decide +kernel
theorem dX6_append_44 : decode cX6_append 44 = .ok (.getfield 13, 3) := by decide +kernel
theorem dX6_append_47 : decode cX6_append 47 = .ok (.iconst 1, 1) := by decide +kernel
theorem dX6_append_48 : decode cX6_append 48 = .ok (.iadd, 1) := by decide +kernel
theorem dX6_append_49 : decode cX6_append 49 = .ok (.putfield 13, 3) := by decide +kernel
theorem dX6_append_52 : decode cX6_append 52 = .ok (.iinc 4 (-1), 3) := by decide +kernel
theorem dX6_append_55 : decode cX6_append 55 = .ok (.goto (-36), 3) := by decide +kernel
theorem dX6_append_58 : decode cX6_append 58 = .ok (.iconst 1, 1) := by decide +kernel
theorem dX6_append_59 : decode cX6_append 59 = .ok (.ireturn, 1) := by decide +kernel
theorem dX6_begin_0 : decode cX6_begin 0 = .ok (.aload_n 0, 1) := by decide +kernel
theorem dX6_begin_1 : decode cX6_begin 1 = .ok (.iconst 0, 1) := by decide +kernel
theorem dX6_begin_2 : decode cX6_begin 2 = .ok (.putfield 17, 3) := by decide +kernel
theorem dX6_begin_5 : decode cX6_begin 5 = .ok (.aload_n 0, 1) := by decide +kernel
theorem dX6_begin_6 : decode cX6_begin 6 = .ok (.iconst 0, 1) := by decide +kernel
theorem dX6_begin_7 : decode cX6_begin 7 = .ok (.putfield 20, 3) := by decide +kernel
theorem dX6_begin_10 : decode cX6_begin 10 = .ok (.return_, 1) := by decide +kernel
theorem dX6_take_0 : decode cX6_take 0 = .ok (.aload_n 0, 1) := by decide +kernel
theorem dX6_take_1 : decode cX6_take 1 = .ok (.iconst 0, 1) := by decide +kernel
theorem dX6_take_2 : decode cX6_take 2 = .ok (.putfield 20, 3) := by decide +kernel
theorem dX6_take_5 : decode cX6_take 5 = .ok (.return_, 1) := by decide +kernel
theorem dX6_look_0 : decode cX6_look 0 = .ok (.aload_n 0, 1) := by decide +kernel
theorem dX6_look_1 : decode cX6_look 1 = .ok (.getfield 20, 3) := by decide +kernel
theorem dX6_look_4 : decode cX6_look 4 = .ok (.ifCond .eq 8, 3) := by decide +kernel
theorem dX6_look_7 : decode cX6_look 7 = .ok (.aload_n 0, 1) := by decide +kernel
theorem dX6_look_8 : decode cX6_look 8 = .ok (.getfield 24, 3) := by decide +kernel
theorem dX6_look_11 : decode cX6_look 11 = .ok (.ireturn, 1) := by decide +kernel
theorem dX6_look_12 : decode cX6_look 12 = .ok (.aload_n 0, 1) := by decide +kernel
theorem dX6_look_13 : decode cX6_look 13 = .ok (.iconst 1, 1) := by decide +kernel
theorem dX6_look_14 : decode cX6_look 14 = .ok (.putfield 20, 3) := by decide +kernel
theorem dX6_look_17 : decode cX6_look 17 = .ok (.aload_n 0, 1) := by decide +kernel
theorem dX6_look_18 : decode cX6_look 18 = .ok (.aload_n 0, 1) := by decide +kernel
theorem dX6_look_19 : decode cX6_look 19 = .ok (.getfield 17, 3) := by decide +kernel
theorem dX6_look_22 : decode cX6_look 22 = .ok (.putfield 27, 3) := by decide +kernel
theorem dX6_look_25 : decode cX6_look 25 = .ok (.aload_n 0, 1) := by decide +kernel
theorem dX6_look_26 : decode cX6_look 26 = .ok (.getfield 27, 3) := by decide +kernel
theorem dX6_look_29 : decode cX6_look 29 = .ok (.aload_n 0, 1) := by decide +kernel
theorem dX6_look_30 : decode cX6_look 30 = .ok (.getfield 13, 3) := by decide +kernel
theorem dX6_look_33 : decode cX6_look 33 = .ok (.if_icmp .ge 38, 3) := by decide +kernel
theorem dX6_look_36 : decode cX6_look 36 = .ok (.ldc 30, 2) := by decide +kernel
theorem dX6_look_38 : decode cX6_look 38 = .ok (.aload_n 0, 1) := by decide +kernel
theorem dX6_look_39 : decode cX6_look 39 = .ok (.getfield 9, 3) := by decide +kernel
theorem dX6_look_42 : decode cX6_look 42 = .ok (.aload_n 0, 1) := by decide +kernel
theorem dX6_look_43 : decode cX6_look 43 = .ok (.getfield 27, 3) := by decide +kernel
theorem dX6_look_46 : decode cX6_look 46 = .ok (.baload, 1) := by decide +kernel
theorem dX6_look_47 : decode cX6_look 47 = .ok (.sipush 255, 3) := by decide +kernel
theorem dX6_look_50 : decode cX6_look 50 = .ok (.iand, 1) := by decide +kernel
theorem dX6_look_51 : decode cX6_look 51 = .ok (.i2c, 1) := by decide +kernel
theorem dX6_look_52 : decode cX6_look 52 = .ok (.invokevirtual 32, 3) := by decide +kernel
theorem dX6_look_55 : decode cX6_look 55 = .ok (.ifCond .lt 16, 3) := by decide +kernel
theorem dX6_look_58 : decode cX6_look 58 = .ok (.aload_n 0, 1) := by decide +kernel
theorem dX6_look_59 : decode cX6_look 59 = .ok (.dup, 1) := by decide +kernel
theorem dX6_look_60 : decode cX6_look 60 = .ok (.getfield 27, 3) := by decide +kernel
theorem dX6_look_63 : decode cX6_look 63 = .ok (.iconst 1, 1) := by decide +kernel
theorem dX6_look_64 : decode cX6_look 64 = .ok (.iadd, 1) := by decide +kernel
theorem dX6_look_65 : decode cX6_look 65 = .ok (.putfield 27, 3) := by decide +kernel
theorem dX6_look_68 : decode cX6_look 68 = .ok (.goto (-43), 3) := by decide +kernel
theorem dX6_look_71 : decode cX6_look 71 = .ok (.aload_n 0, 1) := by decide +kernel
theorem dX6_look_72 : decode cX6_look 72 = .ok (.aload_n 0, 1) := by decide +kernel
theorem dX6_look_73 : decode cX6_look 73 = .ok (.getfield 27, 3) := by decide +kernel
theorem dX6_look_76 : decode cX6_look 76 = .ok (.putfield 17, 3) := by decide +kernel
theorem dX6_look_79 : decode cX6_look 79 = .ok (.aload_n 0, 1) := by decide +kernel
theorem dX6_look_80 : decode cX6_look 80 = .ok (.getfield 27, 3) := by decide +kernel
theorem dX6_look_83 : decode cX6_look 83 = .ok (.aload_n 0, 1) := by decide +kernel
theorem dX6_look_84 : decode cX6_look 84 = .ok (.getfield 13, 3) := by decide +kernel
theorem dX6_look_87 : decode cX6_look 87 = .ok (.if_icmp .lt 13, 3) := by decide +kernel
theorem dX6_look_90 : decode cX6_look 90 = .ok (.aload_n 0, 1) := by decide +kernel
theorem dX6_look_91 : decode cX6_look 91 = .ok (.iconst 1, 1) := by decide +kernel
theorem dX6_look_92 : decode cX6_look 92 = .ok (.putfield 24, 3) := by decide +kernel
theorem dX6_look_95 : decode cX6_look 95 = .ok (.aload_n 0, 1) := by decide +kernel
theorem dX6_look_96 : decode cX6_look 96 = .ok (.getfield 24, 3) := by decide +kernel
theorem dX6_look_99 : decode cX6_look 99 = .ok (.ireturn, 1) := by decide +kernel
theorem dX6_look_100 : decode cX6_look 100 = .ok (.aload_n 0, 1) := by decide +kernel
theorem dX6_look_101 : decode cX6_look 101 = .ok (.getfield 9, 3) := by decide +kernel
theorem dX6_look_104 : decode cX6_look 104 = .ok (.aload_n 0, 1) := by decide +kernel
theorem dX6_look_105 : decode cX6_look 105 = .ok (.getfield 27, 3) := by decide +kernel
theorem dX6_look_108 : decode cX6_look 108 = .ok (.baload, 1) := by decide +kernel
theorem dX6_look_109 : decode cX6_look 109 = .ok (.sipush 255, 3) := by decide +kernel
theorem dX6_look_112 : decode cX6_look 112 = .ok (.iand, 1) := by decide +kernel
theorem dX6_look_113 : decode cX6_look 113 = .ok (.i2c, 1) := by decide +kernel
theorem dX6_look_114 : decode cX6_look 114 = .ok (.istore_n 1, 1) := by decide +kernel
theorem dX6_look_115 : decode cX6_look 115 = .ok (.ldc 38, 2) := by decide +kernel
theorem dX6_look_117 : decode cX6_look 117 = .ok (.iload_n 1, 1) := by decide +kernel
theorem dX6_look_118 : decode cX6_look 118 = .ok (.invokevirtual 32, 3) := by decide +kernel
theorem dX6_look_121 : decode cX6_look 121 = .ok (.ifCond .lt 15, 3) := by decide +kernel
theorem dX6_look_124 : decode cX6_look 124 = .ok (.aload_n 0, 1) := by decide +kernel
theorem dX6_look_125 : decode cX6_look 125 = .ok (.aload_n 0, 1) := by decide +kernel
theorem dX6_look_126 : decode cX6_look 126 = .ok (.iconst 2, 1) := by decide +kernel
theorem dX6_look_127 : decode cX6_look 127 = .ok (.invokevirtual 40, 3) := by decide +kernel
theorem dX6_look_130 : decode cX6_look 130 = .ok (.putfield 24, 3) := by decide +kernel
theorem dX6_look_133 : decode cX6_look 133 = .ok (.goto 33, 3) := by decide +kernel
theorem dX6_look_136 : decode cX6_look 136 = .ok (.ldc 43, 2) := by decide +kernel
theorem dX6_look_138 : decode cX6_look 138 = .ok (.iload_n 1, 1) := by decide +kernel
theorem dX6_look_139 : decode cX6_look 139 = .ok (.invokevirtual 32, 3) := by decide +kernel
theorem dX6_look_142 : decode cX6_look 142 = .ok (.ifCond .lt 15, 3) := by decide +kernel
theorem dX6_look_145 : decode cX6_look 145 = .ok (.aload_n 0, 1) := by decide +kernel
theorem dX6_look_146 : decode cX6_look 146 = .ok (.aload_n 0, 1) := by decide +kernel
theorem dX6_look_147 : decode cX6_look 147 = .ok (.iconst 3, 1) := by decide +kernel
theorem dX6_look_148 : decode cX6_look 148 = .ok (.invokevirtual 40, 3) := by decide +kernel
theorem dX6_look_151 : decode cX6_look 151 = .ok (.putfield 24, 3) := by decide +kernel
theorem dX6_look_154 : decode cX6_look 154 = .ok (.goto 12, 3) := by decide +kernel
theorem dX6_look_157 : decode cX6_look 157 = .ok (.aload_n 0, 1) := by decide +kernel
theorem dX6_look_158 : decode cX6_look 158 = .ok (.aload_n 0, 1) := by decide +kernel
theorem dX6_look_159 : decode cX6_look 159 = .ok (.iload_n 1, 1) := by decide +kernel
theorem dX6_look_160 : decode cX6_look 160 = .ok (.invokevirtual 45, 3) := by decide +kernel
theorem dX6_look_163 : decode cX6_look 163 = .ok (.putfield 24, 3) := by decide +kernel
theorem dX6_look_166 : decode cX6_look 166 = .ok (.aload_n 0, 1) := by decide +kernel
theorem dX6_look_167 : decode cX6_look 167 = .ok (.getfield 24, 3) := by decide +kernel
theorem dX6_look_170 : decode cX6_look 170 = .ok (.ireturn, 1) := by decide +kernel
theorem dX6_scanWord_0 : decode cX6_scanWord 0 = .ok (.lconst 0, 1) := by decide +kernel
theorem dX6_scanWord_1 : decode cX6_scanWord 1 = .ok (.lstore_n 2, 1) := by decide +kernel
theorem dX6_scanWord_2 : decode cX6_scanWord 2 = .ok (.aload_n 0, 1) := by decide +kernel
theorem dX6_scanWord_3 : decode cX6_scanWord 3 = .ok (.getfield 17, 3) := by decide +kernel
theorem dX6_scanWord_6 : decode cX6_scanWord 6 = .ok (.aload_n 0, 1) := by decide +kernel
theorem dX6_scanWord_7 : decode cX6_scanWord 7 = .ok (.getfield 13, 3) := by decide +kernel
theorem dX6_scanWord_10 : decode cX6_scanWord 10 = .ok (.if_icmp .ge 58, 3) := by decide +kernel
theorem dX6_scanWord_13 : decode cX6_scanWord 13 = .ok (.ldc 49, 2) := by decide +kernel
theorem dX6_scanWord_15 : decode cX6_scanWord 15 = .ok (.aload_n 0, 1) := by decide +kernel
theorem dX6_scanWord_16 : decode cX6_scanWord 16 = .ok (.getfield 9, 3) := by decide +kernel
theorem dX6_scanWord_19 : decode cX6_scanWord 19 = .ok (.aload_n 0, 1) := by decide +kernel
theorem dX6_scanWord_20 : decode cX6_scanWord 20 = .ok (.getfield 17, 3) := by decide +kernel
theorem dX6_scanWord_23 : decode cX6_scanWord 23 = .ok (.baload, 1) := by decide +kernel
theorem dX6_scanWord_24 : decode cX6_scanWord 24 = .ok (.sipush 255, 3) := by decide +kernel
theorem dX6_scanWord_27 : decode cX6_scanWord 27 = .ok (.iand, 1) := by decide +kernel
theorem dX6_scanWord_28 : decode cX6_scanWord 28 = .ok (.i2c, 1) := by decide +kernel
theorem dX6_scanWord_29 : decode cX6_scanWord 29 = .ok (.invokevirtual 32, 3) := by decide +kernel
theorem dX6_scanWord_32 : decode cX6_scanWord 32 = .ok (.ifCond .lt 36, 3) := by decide +kernel
theorem dX6_scanWord_35 : decode cX6_scanWord 35 = .ok (.lload_n 2, 1) := by decide +kernel
theorem dX6_scanWord_36 : decode cX6_scanWord 36 = .ok (.bipush 8, 2) := by decide +kernel
theorem dX6_scanWord_38 : decode cX6_scanWord 38 = .ok (.lshl, 1) := by decide +kernel
theorem dX6_scanWord_39 : decode cX6_scanWord 39 = .ok (.aload_n 0, 1) := by decide +kernel
theorem dX6_scanWord_40 : decode cX6_scanWord 40 = .ok (.getfield 9, 3) := by decide +kernel
theorem dX6_scanWord_43 : decode cX6_scanWord 43 = .ok (.aload_n 0, 1) := by decide +kernel
theorem dX6_scanWord_44 : decode cX6_scanWord 44 = .ok (.getfield 17, 3) := by decide +kernel
theorem dX6_scanWord_47 : decode cX6_scanWord 47 = .ok (.baload, 1) := by decide +kernel
theorem dX6_scanWord_48 : decode cX6_scanWord 48 = .ok (.sipush 255, 3) := by decide +kernel
theorem dX6_scanWord_51 : decode cX6_scanWord 51 = .ok (.iand, 1) := by decide +kernel
theorem dX6_scanWord_52 : decode cX6_scanWord 52 = .ok (.i2l, 1) := by decide +kernel
theorem dX6_scanWord_53 : decode cX6_scanWord 53 = .ok (.lor, 1) := by decide +kernel
theorem dX6_scanWord_54 : decode cX6_scanWord 54 = .ok (.lstore_n 2, 1) := by decide +kernel
theorem dX6_scanWord_55 : decode cX6_scanWord 55 = .ok (.aload_n 0, 1) := by decide +kernel
theorem dX6_scanWord_56 : decode cX6_scanWord 56 = .ok (.dup, 1) := by decide +kernel
theorem dX6_scanWord_57 : decode cX6_scanWord 57 = .ok (.getfield 17, 3) := by decide +kernel
theorem dX6_scanWord_60 : decode cX6_scanWord 60 = .ok (.iconst 1, 1) := by decide +kernel
theorem dX6_scanWord_61 : decode cX6_scanWord 61 = .ok (.iadd, 1) := by decide +kernel
theorem dX6_scanWord_62 : decode cX6_scanWord 62 = .ok (.putfield 17, 3) := by decide +kernel
theorem dX6_scanWord_65 : decode cX6_scanWord 65 = .ok (.goto (-63), 3) := by decide +kernel
theorem dX6_scanWord_68 : decode cX6_scanWord 68 = .ok (.aload_n 0, 1) := by decide +kernel
theorem dX6_scanWord_69 : decode cX6_scanWord 69 = .ok (.lload_n 2, 1) := by decide +kernel
theorem dX6_scanWord_70 : decode cX6_scanWord 70 = .ok (.putfield 51, 3) := by decide +kernel
theorem dX6_scanWord_73 : decode cX6_scanWord 73 = .ok (.aload_n 0, 1) := by decide +kernel
theorem dX6_scanWord_74 : decode cX6_scanWord 74 = .ok (.getfield 17, 3) := by decide +kernel
theorem dX6_scanWord_77 : decode cX6_scanWord 77 = .ok (.aload_n 0, 1) := by decide +kernel
theorem dX6_scanWord_78 : decode cX6_scanWord 78 = .ok (.getfield 27, 3) := by decide +kernel
theorem dX6_scanWord_81 : decode cX6_scanWord 81 = .ok (.isub, 1) := by decide +kernel
theorem dX6_scanWord_82 : decode cX6_scanWord 82 = .ok (.bipush 8, 2) := by decide +kernel
theorem dX6_scanWord_84 : decode cX6_scanWord 84 = .ok (.if_icmp .le 7, 3) := by decide +kernel
theorem dX6_scanWord_87 : decode cX6_scanWord 87 = .ok (.iconst 0, 1) := by decide +kernel
theorem dX6_scanWord_88 : decode cX6_scanWord 88 = .ok (.goto 4, 3) := by decide +kernel
theorem dX6_scanWord_91 : decode cX6_scanWord 91 = .ok (.iload_n 1, 1) := by decide +kernel
theorem dX6_scanWord_92 : decode cX6_scanWord 92 = .ok (.ireturn, 1) := by decide +kernel
theorem dX6_scanMark_0 : decode cX6_scanMark 0 = .ok (.aload_n 0, 1) := by decide +kernel
theorem dX6_scanMark_1 : decode cX6_scanMark 1 = .ok (.getfield 13, 3) := by decide +kernel
theorem dX6_scanMark_4 : decode cX6_scanMark 4 = .ok (.aload_n 0, 1) := by decide +kernel
theorem dX6_scanMark_5 : decode cX6_scanMark 5 = .ok (.getfield 27, 3) := by decide +kernel
theorem dX6_scanMark_8 : decode cX6_scanMark 8 = .ok (.isub, 1) := by decide +kernel
theorem dX6_scanMark_9 : decode cX6_scanMark 9 = .ok (.istore_n 2, 1) := by decide +kernel
theorem dX6_scanMark_10 : decode cX6_scanMark 10 = .ok (.iload_n 1, 1) := by decide +kernel
theorem dX6_scanMark_11 : decode cX6_scanMark 11 = .ok (.bipush 61, 2) := by decide +kernel
theorem dX6_scanMark_13 : decode cX6_scanMark 13 = .ok (.if_icmp .ne 37, 3) := by decide +kernel
theorem dX6_scanMark_16 : decode cX6_scanMark 16 = .ok (.iload_n 2, 1) := by decide +kernel
theorem dX6_scanMark_17 : decode cX6_scanMark 17 = .ok (.iconst 1, 1) := by decide +kernel
theorem dX6_scanMark_18 : decode cX6_scanMark 18 = .ok (.if_icmp .le 32, 3) := by decide +kernel
theorem dX6_scanMark_21 : decode cX6_scanMark 21 = .ok (.aload_n 0, 1) := by decide +kernel
theorem dX6_scanMark_22 : decode cX6_scanMark 22 = .ok (.getfield 9, 3) := by decide +kernel
theorem dX6_scanMark_25 : decode cX6_scanMark 25 = .ok (.aload_n 0, 1) := by decide +kernel
theorem dX6_scanMark_26 : decode cX6_scanMark 26 = .ok (.getfield 27, 3) := by decide +kernel
theorem dX6_scanMark_29 : decode cX6_scanMark 29 = .ok (.iconst 1, 1) := by decide +kernel
theorem dX6_scanMark_30 : decode cX6_scanMark 30 = .ok (.iadd, 1) := by decide +kernel
theorem dX6_scanMark_31 : decode cX6_scanMark 31 = .ok (.baload, 1) := by decide +kernel
theorem dX6_scanMark_32 : decode cX6_scanMark 32 = .ok (.bipush 62, 2) := by decide +kernel
theorem dX6_scanMark_34 : decode cX6_scanMark 34 = .ok (.if_icmp .ne 16, 3) := by decide +kernel
theorem dX6_scanMark_37 : decode cX6_scanMark 37 = .ok (.aload_n 0, 1) := by decide +kernel
theorem dX6_scanMark_38 : decode cX6_scanMark 38 = .ok (.aload_n 0, 1) := by decide +kernel
theorem dX6_scanMark_39 : decode cX6_scanMark 39 = .ok (.getfield 27, 3) := by decide +kernel
theorem dX6_scanMark_42 : decode cX6_scanMark 42 = .ok (.iconst 2, 1) := by decide +kernel
theorem dX6_scanMark_43 : decode cX6_scanMark 43 = .ok (.iadd, 1) := by decide +kernel
theorem dX6_scanMark_44 : decode cX6_scanMark 44 = .ok (.putfield 17, 3) := by decide +kernel
theorem dX6_scanMark_47 : decode cX6_scanMark 47 = .ok (.bipush 14, 2) := by decide +kernel
theorem dX6_scanMark_49 : decode cX6_scanMark 49 = .ok (.ireturn, 1) := by decide +kernel
theorem dX6_scanMark_50 : decode cX6_scanMark 50 = .ok (.iload_n 1, 1) := by decide +kernel
theorem dX6_scanMark_51 : decode cX6_scanMark 51 = .ok (.bipush 60, 2) := by decide +kernel
theorem dX6_scanMark_53 : decode cX6_scanMark 53 = .ok (.if_icmp .ne 53, 3) := by decide +kernel
theorem dX6_scanMark_56 : decode cX6_scanMark 56 = .ok (.iload_n 2, 1) := by decide +kernel
theorem dX6_scanMark_57 : decode cX6_scanMark 57 = .ok (.iconst 2, 1) := by decide +kernel
theorem dX6_scanMark_58 : decode cX6_scanMark 58 = .ok (.if_icmp .le 48, 3) := by decide +kernel
theorem dX6_scanMark_61 : decode cX6_scanMark 61 = .ok (.aload_n 0, 1) := by decide +kernel
theorem dX6_scanMark_62 : decode cX6_scanMark 62 = .ok (.getfield 9, 3) := by decide +kernel
theorem dX6_scanMark_65 : decode cX6_scanMark 65 = .ok (.aload_n 0, 1) := by decide +kernel
theorem dX6_scanMark_66 : decode cX6_scanMark 66 = .ok (.getfield 27, 3) := by decide +kernel
theorem dX6_scanMark_69 : decode cX6_scanMark 69 = .ok (.iconst 1, 1) := by decide +kernel
theorem dX6_scanMark_70 : decode cX6_scanMark 70 = .ok (.iadd, 1) := by decide +kernel
theorem dX6_scanMark_71 : decode cX6_scanMark 71 = .ok (.baload, 1) := by decide +kernel
theorem dX6_scanMark_72 : decode cX6_scanMark 72 = .ok (.bipush 61, 2) := by decide +kernel
theorem dX6_scanMark_74 : decode cX6_scanMark 74 = .ok (.if_icmp .ne 32, 3) := by decide +kernel
theorem dX6_scanMark_77 : decode cX6_scanMark 77 = .ok (.aload_n 0, 1) := by decide +kernel
theorem dX6_scanMark_78 : decode cX6_scanMark 78 = .ok (.getfield 9, 3) := by decide +kernel
theorem dX6_scanMark_81 : decode cX6_scanMark 81 = .ok (.aload_n 0, 1) := by decide +kernel
theorem dX6_scanMark_82 : decode cX6_scanMark 82 = .ok (.getfield 27, 3) := by decide +kernel
theorem dX6_scanMark_85 : decode cX6_scanMark 85 = .ok (.iconst 2, 1) := by decide +kernel
theorem dX6_scanMark_86 : decode cX6_scanMark 86 = .ok (.iadd, 1) := by decide +kernel
theorem dX6_scanMark_87 : decode cX6_scanMark 87 = .ok (.baload, 1) := by decide +kernel
theorem dX6_scanMark_88 : decode cX6_scanMark 88 = .ok (.bipush 62, 2) := by decide +kernel
theorem dX6_scanMark_90 : decode cX6_scanMark 90 = .ok (.if_icmp .ne 16, 3) := by decide +kernel
theorem dX6_scanMark_93 : decode cX6_scanMark 93 = .ok (.aload_n 0, 1) := by decide +kernel
theorem dX6_scanMark_94 : decode cX6_scanMark 94 = .ok (.aload_n 0, 1) := by decide +kernel
theorem dX6_scanMark_95 : decode cX6_scanMark 95 = .ok (.getfield 27, 3) := by decide +kernel
theorem dX6_scanMark_98 : decode cX6_scanMark 98 = .ok (.iconst 3, 1) := by decide +kernel
theorem dX6_scanMark_99 : decode cX6_scanMark 99 = .ok (.iadd, 1) := by decide +kernel
theorem dX6_scanMark_100 : decode cX6_scanMark 100 = .ok (.putfield 17, 3) := by decide +kernel
theorem dX6_scanMark_103 : decode cX6_scanMark 103 = .ok (.bipush 15, 2) := by decide +kernel
theorem dX6_scanMark_105 : decode cX6_scanMark 105 = .ok (.ireturn, 1) := by decide +kernel
theorem dX6_scanMark_106 : decode cX6_scanMark 106 = .ok (.ldc 55, 2) := by decide +kernel
theorem dX6_scanMark_108 : decode cX6_scanMark 108 = .ok (.iload_n 1, 1) := by decide +kernel
theorem dX6_scanMark_109 : decode cX6_scanMark 109 = .ok (.invokevirtual 32, 3) := by decide +kernel
theorem dX6_scanMark_112 : decode cX6_scanMark 112 = .ok (.istore_n 3, 1) := by decide +kernel
theorem dX6_scanMark_113 : decode cX6_scanMark 113 = .ok (.iload_n 3, 1) := by decide +kernel
theorem dX6_scanMark_114 : decode cX6_scanMark 114 = .ok (.ifCond .ge 5, 3) := by decide +kernel
theorem dX6_scanMark_117 : decode cX6_scanMark 117 = .ok (.iconst 0, 1) := by decide +kernel
theorem dX6_scanMark_118 : decode cX6_scanMark 118 = .ok (.ireturn, 1) := by decide +kernel
theorem dX6_scanMark_119 : decode cX6_scanMark 119 = .ok (.aload_n 0, 1) := by decide +kernel
theorem dX6_scanMark_120 : decode cX6_scanMark 120 = .ok (.aload_n 0, 1) := by decide +kernel
theorem dX6_scanMark_121 : decode cX6_scanMark 121 = .ok (.getfield 27, 3) := by decide +kernel
theorem dX6_scanMark_124 : decode cX6_scanMark 124 = .ok (.iconst 1, 1) := by decide +kernel
theorem dX6_scanMark_125 : decode cX6_scanMark 125 = .ok (.iadd, 1) := by decide +kernel
theorem dX6_scanMark_126 : decode cX6_scanMark 126 = .ok (.putfield 17, 3) := by decide +kernel
theorem dX6_scanMark_129 : decode cX6_scanMark 129 = .ok (.iconst 4, 1) := by decide +kernel
theorem dX6_scanMark_130 : decode cX6_scanMark 130 = .ok (.iload_n 3, 1) := by decide +kernel
theorem dX6_scanMark_131 : decode cX6_scanMark 131 = .ok (.iadd, 1) := by decide +kernel
theorem dX6_scanMark_132 : decode cX6_scanMark 132 = .ok (.ireturn, 1) := by decide +kernel
theorem dX7_init_0 : decode cX7_init 0 = .ok (.aload_n 0, 1) := by decide +kernel
theorem dX7_init_1 : decode cX7_init 1 = .ok (.invokespecial 3, 3) := by decide +kernel
theorem dX7_init_4 : decode cX7_init 4 = .ok (.aload_n 0, 1) := by decide +kernel
theorem dX7_init_5 : decode cX7_init 5 = .ok (.sipush 1501, 3) := by decide +kernel
theorem dX7_init_8 : decode cX7_init 8 = .ok (.newarray .int, 2) := by decide +kernel
theorem dX7_init_10 : decode cX7_init 10 = .ok (.putfield 11, 3) := by decide +kernel
theorem dX7_init_13 : decode cX7_init 13 = .ok (.aload_n 0, 1) := by decide +kernel
theorem dX7_init_14 : decode cX7_init 14 = .ok (.sipush 1501, 3) := by decide +kernel
theorem dX7_init_17 : decode cX7_init 17 = .ok (.newarray .int, 2) := by decide +kernel
theorem dX7_init_19 : decode cX7_init 19 = .ok (.putfield 15, 3) := by decide +kernel
theorem dX7_init_22 : decode cX7_init 22 = .ok (.aload_n 0, 1) := by decide +kernel
theorem dX7_init_23 : decode cX7_init 23 = .ok (.sipush 1501, 3) := by decide +kernel
theorem dX7_init_26 : decode cX7_init 26 = .ok (.newarray .int, 2) := by decide +kernel
theorem dX7_init_28 : decode cX7_init 28 = .ok (.putfield 18, 3) := by decide +kernel
theorem dX7_init_31 : decode cX7_init 31 = .ok (.aload_n 0, 1) := by decide +kernel
theorem dX7_init_32 : decode cX7_init 32 = .ok (.sipush 1501, 3) := by decide +kernel
theorem dX7_init_35 : decode cX7_init 35 = .ok (.newarray .int, 2) := by decide +kernel
theorem dX7_init_37 : decode cX7_init 37 = .ok (.putfield 21, 3) := by decide +kernel
theorem dX7_init_40 : decode cX7_init 40 = .ok (.aload_n 0, 1) := by decide +kernel
theorem dX7_init_41 : decode cX7_init 41 = .ok (.sipush 1501, 3) := by decide +kernel
theorem dX7_init_44 : decode cX7_init 44 = .ok (.newarray .int, 2) := by decide +kernel
theorem dX7_init_46 : decode cX7_init 46 = .ok (.putfield 24, 3) := by decide +kernel
theorem dX7_init_49 : decode cX7_init 49 = .ok (.aload_n 0, 1) := by decide +kernel
theorem dX7_init_50 : decode cX7_init 50 = .ok (.sipush 1501, 3) := by decide +kernel
theorem dX7_init_53 : decode cX7_init 53 = .ok (.newarray .long, 2) := by decide +kernel
theorem dX7_init_55 : decode cX7_init 55 = .ok (.putfield 27, 3) := by decide +kernel
theorem dX7_init_58 : decode cX7_init 58 = .ok (.aload_n 0, 1) := by decide +kernel
theorem dX7_init_59 : decode cX7_init 59 = .ok (.sipush 1501, 3) := by decide +kernel
theorem dX7_init_62 : decode cX7_init 62 = .ok (.newarray .int, 2) := by decide +kernel
theorem dX7_init_64 : decode cX7_init 64 = .ok (.putfield 31, 3) := by decide +kernel
theorem dX7_init_67 : decode cX7_init 67 = .ok (.aload_n 0, 1) := by decide +kernel
theorem dX7_init_68 : decode cX7_init 68 = .ok (.sipush 1501, 3) := by decide +kernel
theorem dX7_init_71 : decode cX7_init 71 = .ok (.newarray .boolean, 2) := by decide +kernel
theorem dX7_init_73 : decode cX7_init 73 = .ok (.putfield 34, 3) := by decide +kernel
theorem dX7_init_76 : decode cX7_init 76 = .ok (.aload_n 0, 1) := by decide +kernel
theorem dX7_init_77 : decode cX7_init 77 = .ok (.sipush 1501, 3) := by decide +kernel
theorem dX7_init_80 : decode cX7_init 80 = .ok (.newarray .int, 2) := by decide +kernel
theorem dX7_init_82 : decode cX7_init 82 = .ok (.putfield 38, 3) := by decide +kernel
theorem dX7_init_85 : decode cX7_init 85 = .ok (.return_, 1) := by decide +kernel
theorem dX7_begin_0 : decode cX7_begin 0 = .ok (.aload_n 0, 1) := by decide +kernel
theorem dX7_begin_1 : decode cX7_begin 1 = .ok (.iconst 0, 1) := by decide +kernel
theorem dX7_begin_2 : decode cX7_begin 2 = .ok (.putfield 41, 3) := by decide +kernel
theorem dX7_begin_5 : decode cX7_begin 5 = .ok (.aload_n 0, 1) := by decide +kernel
theorem dX7_begin_6 : decode cX7_begin 6 = .ok (.iconst 0, 1) := by decide +kernel
theorem dX7_begin_7 : decode cX7_begin 7 = .ok (.putfield 45, 3) := by decide +kernel
theorem dX7_begin_10 : decode cX7_begin 10 = .ok (.aload_n 0, 1) := by decide +kernel
theorem dX7_begin_11 : decode cX7_begin 11 = .ok (.iconst 0, 1) := by decide +kernel
theorem dX7_begin_12 : decode cX7_begin 12 = .ok (.putfield 48, 3) := by decide +kernel
theorem dX7_begin_15 : decode cX7_begin 15 = .ok (.aload_n 0, 1) := by decide +kernel
theorem dX7_begin_16 : decode cX7_begin 16 = .ok (.iconst 0, 1) := by decide +kernel
theorem dX7_begin_17 : decode cX7_begin 17 = .ok (.putfield 51, 3) := by decide +kernel
theorem dX7_begin_20 : decode cX7_begin 20 = .ok (.return_, 1) := by decide +kernel
theorem dX7_variable_0 : decode cX7_variable 0 = .ok (.iconst 0, 1) := by decide +kernel
theorem dX7_variable_1 : decode cX7_variable 1 = .ok (.istore_n 3, 1) := by decide +kernel
theorem dX7_variable_2 : decode cX7_variable 2 = .ok (.iload_n 3, 1) := by decide +kernel
theorem dX7_variable_3 : decode cX7_variable 3 = .ok (.aload_n 0, 1) := by decide +kernel
theorem dX7_variable_4 : decode cX7_variable 4 = .ok (.getfield 48, 3) := by decide +kernel
theorem dX7_variable_7 : decode cX7_variable 7 = .ok (.if_icmp .ge 22, 3) := by decide +kernel
theorem dX7_variable_10 : decode cX7_variable 10 = .ok (.aload_n 0, 1) := by decide +kernel
theorem dX7_variable_11 : decode cX7_variable 11 = .ok (.getfield 27, 3) := by decide +kernel
theorem dX7_variable_14 : decode cX7_variable 14 = .ok (.iload_n 3, 1) := by decide +kernel
theorem dX7_variable_15 : decode cX7_variable 15 = .ok (.laload, 1) := by decide +kernel
theorem dX7_variable_16 : decode cX7_variable 16 = .ok (.lload_n 1, 1) := by decide +kernel
theorem dX7_variable_17 : decode cX7_variable 17 = .ok (.lcmp, 1) := by decide +kernel
theorem dX7_variable_18 : decode cX7_variable 18 = .ok (.ifCond .ne 5, 3) := by decide +kernel
theorem dX7_variable_21 : decode cX7_variable 21 = .ok (.iload_n 3, 1) := by decide +kernel
theorem dX7_variable_22 : decode cX7_variable 22 = .ok (.ireturn, 1) := by decide +kernel
theorem dX7_variable_23 : decode cX7_variable 23 = .ok (.iinc 3 1, 3) := by decide +kernel
theorem dX7_variable_26 : decode cX7_variable 26 = .ok (.goto (-24), 3) := by decide +kernel
theorem dX7_variable_29 : decode cX7_variable 29 = .ok (.aload_n 0, 1) := by decide +kernel
theorem dX7_variable_30 : decode cX7_variable 30 = .ok (.getfield 48, 3) := by decide +kernel
theorem dX7_variable_33 : decode cX7_variable 33 = .ok (.sipush 1501, 3) := by decide +kernel
theorem dX7_variable_36 : decode cX7_variable 36 = .ok (.if_icmp .lt 5, 3) := by decide +kernel
theorem dX7_variable_39 : decode cX7_variable 39 = .ok (.iconst 0, 1) := by decide +kernel
theorem dX7_variable_40 : decode cX7_variable 40 = .ok (.ireturn, 1) := by decide +kernel
theorem dX7_variable_41 : decode cX7_variable 41 = .ok (.aload_n 0, 1) := by decide +kernel
theorem dX7_variable_42 : decode cX7_variable 42 = .ok (.getfield 27, 3) := by decide +kernel
theorem dX7_variable_45 : decode cX7_variable 45 = .ok (.aload_n 0, 1) := by decide +kernel
theorem dX7_variable_46 : decode cX7_variable 46 = .ok (.getfield 48, 3) := by decide +kernel
theorem dX7_variable_49 : decode cX7_variable 49 = .ok (.lload_n 1, 1) := by decide +kernel
theorem dX7_variable_50 : decode cX7_variable 50 = .ok (.lastore, 1) := by decide +kernel
theorem dX7_variable_51 : decode cX7_variable 51 = .ok (.aload_n 0, 1) := by decide +kernel
theorem dX7_variable_52 : decode cX7_variable 52 = .ok (.getfield 31, 3) := by decide +kernel
theorem dX7_variable_55 : decode cX7_variable 55 = .ok (.aload_n 0, 1) := by decide +kernel
theorem dX7_variable_56 : decode cX7_variable 56 = .ok (.getfield 48, 3) := by decide +kernel
theorem dX7_variable_59 : decode cX7_variable 59 = .ok (.iconst 0, 1) := by decide +kernel
theorem dX7_variable_60 : decode cX7_variable 60 = .ok (.iastore, 1) := by decide +kernel
theorem dX7_variable_61 : decode cX7_variable 61 = .ok (.aload_n 0, 1) := by decide +kernel
theorem dX7_variable_62 : decode cX7_variable 62 = .ok (.getfield 34, 3) := by decide +kernel
theorem dX7_variable_65 : decode cX7_variable 65 = .ok (.aload_n 0, 1) := by decide +kernel
theorem dX7_variable_66 : decode cX7_variable 66 = .ok (.getfield 48, 3) := by decide +kernel
theorem dX7_variable_69 : decode cX7_variable 69 = .ok (.iconst 0, 1) := by decide +kernel
theorem dX7_variable_70 : decode cX7_variable 70 = .ok (.bastore, 1) := by decide +kernel
theorem dX7_variable_71 : decode cX7_variable 71 = .ok (.aload_n 0, 1) := by decide +kernel
theorem dX7_variable_72 : decode cX7_variable 72 = .ok (.dup, 1) := by decide +kernel
theorem dX7_variable_73 : decode cX7_variable 73 = .ok (.getfield 48, 3) := by decide +kernel
theorem dX7_variable_76 : decode cX7_variable 76 = .ok (.iconst 1, 1) := by decide +kernel
theorem dX7_variable_77 : decode cX7_variable 77 = .ok (.iadd, 1) := by decide +kernel
theorem dX7_variable_78 : decode cX7_variable 78 = .ok (.putfield 48, 3) := by decide +kernel
theorem dX7_variable_81 : decode cX7_variable 81 = .ok (.aload_n 0, 1) := by decide +kernel
theorem dX7_variable_82 : decode cX7_variable 82 = .ok (.getfield 48, 3) := by decide +kernel
theorem dX7_variable_85 : decode cX7_variable 85 = .ok (.iconst 1, 1) := by decide +kernel
theorem dX7_variable_86 : decode cX7_variable 86 = .ok (.isub, 1) := by decide +kernel
theorem dX7_variable_87 : decode cX7_variable 87 = .ok (.ireturn, 1) := by decide +kernel
theorem dX7_bind_0 : decode cX7_bind 0 = .ok (.aload_n 0, 1) := by decide +kernel
theorem dX7_bind_1 : decode cX7_bind 1 = .ok (.getfield 31, 3) := by decide +kernel
theorem dX7_bind_4 : decode cX7_bind 4 = .ok (.iload_n 1, 1) := by decide +kernel
theorem dX7_bind_5 : decode cX7_bind 5 = .ok (.dup2, 1) := by decide +kernel
theorem dX7_bind_6 : decode cX7_bind 6 = .ok (.iaload, 1) := by decide +kernel
theorem dX7_bind_7 : decode cX7_bind 7 = .ok (.iload_n 2, 1) := by decide +kernel
theorem dX7_bind_8 : decode cX7_bind 8 = .ok (.iadd, 1) := by decide +kernel
theorem dX7_bind_9 : decode cX7_bind 9 = .ok (.iastore, 1) := by decide +kernel
theorem dX7_bind_10 : decode cX7_bind 10 = .ok (.return_, 1) := by decide +kernel
theorem dX7_addVariable_0 : decode cX7_addVariable 0 = .ok (.aload_n 0, 1) := by decide +kernel
theorem dX7_addVariable_1 : decode cX7_addVariable 1 = .ok (.iconst (-1), 1) := by decide +kernel
theorem dX7_addVariable_2 : decode cX7_addVariable 2 = .ok (.iload_n 1, 1) := by decide +kernel
theorem dX7_addVariable_3 : decode cX7_addVariable 3 = .ok (.isub, 1) := by decide +kernel
theorem dX7_addVariable_4 : decode cX7_addVariable 4 = .ok (.invokevirtual 54, 3) := by decide +kernel
theorem dX7_addVariable_7 : decode cX7_addVariable 7 = .ok (.pop, 1) := by decide +kernel
theorem dX7_addVariable_8 : decode cX7_addVariable 8 = .ok (.aload_n 0, 1) := by decide +kernel
theorem dX7_addVariable_9 : decode cX7_addVariable 9 = .ok (.getfield 31, 3) := by decide +kernel
theorem dX7_addVariable_12 : decode cX7_addVariable 12 = .ok (.iload_n 1, 1) := by decide +kernel
theorem dX7_addVariable_13 : decode cX7_addVariable 13 = .ok (.iaload, 1) := by decide +kernel
theorem dX7_addVariable_14 : decode cX7_addVariable 14 = .ok (.ifCond .ne 39, 3) := by decide +kernel
theorem dX7_addVariable_17 : decode cX7_addVariable 17 = .ok (.aload_n 0, 1) := by decide +kernel
theorem dX7_addVariable_18 : decode cX7_addVariable 18 = .ok (.getfield 34, 3) := by decide +kernel
theorem dX7_addVariable_21 : decode cX7_addVariable 21 = .ok (.iload_n 1, 1) := by decide +kernel
theorem dX7_addVariable_22 : decode cX7_addVariable 22 = .ok (.baload, 1) := by decide +kernel
theorem dX7_addVariable_23 : decode cX7_addVariable 23 = .ok (.ifCond .ne 30, 3) := by decide +kernel
theorem dX7_addVariable_26 : decode cX7_addVariable 26 = .ok (.aload_n 0, 1) := by decide +kernel
theorem dX7_addVariable_27 : decode cX7_addVariable 27 = .ok (.getfield 34, 3) := by decide +kernel
theorem dX7_addVariable_30 : decode cX7_addVariable 30 = .ok (.iload_n 1, 1) := by decide +kernel
theorem dX7_addVariable_31 : decode cX7_addVariable 31 = .ok (.iconst 1, 1) := by decide +kernel
theorem dX7_addVariable_32 : decode cX7_addVariable 32 = .ok (.bastore, 1) := by decide +kernel
theorem dX7_addVariable_33 : decode cX7_addVariable 33 = .ok (.aload_n 0, 1) := by decide +kernel
theorem dX7_addVariable_34 : decode cX7_addVariable 34 = .ok (.getfield 38, 3) := by decide +kernel
theorem dX7_addVariable_37 : decode cX7_addVariable 37 = .ok (.aload_n 0, 1) := by decide +kernel
theorem dX7_addVariable_38 : decode cX7_addVariable 38 = .ok (.getfield 51, 3) := by decide +kernel
theorem dX7_addVariable_41 : decode cX7_addVariable 41 = .ok (.iload_n 1, 1) := by decide +kernel
theorem dX7_addVariable_42 : decode cX7_addVariable 42 = .ok (.iastore, 1) := by decide +kernel
theorem dX7_addVariable_43 : decode cX7_addVariable 43 = .ok (.aload_n 0, 1) := by decide +kernel
theorem dX7_addVariable_44 : decode cX7_addVariable 44 = .ok (.dup, 1) := by decide +kernel
theorem dX7_addVariable_45 : decode cX7_addVariable 45 = .ok (.getfield 51, 3) := by decide +kernel
theorem dX7_addVariable_48 : decode cX7_addVariable 48 = .ok (.iconst 1, 1) := by decide +kernel
theorem dX7_addVariable_49 : decode cX7_addVariable 49 = .ok (.iadd, 1) := by decide +kernel
theorem dX7_addVariable_50 : decode cX7_addVariable 50 = .ok (.putfield 51, 3) := by decide +kernel
theorem dX7_addVariable_53 : decode cX7_addVariable 53 = .ok (.return_, 1) := by decide +kernel
theorem dX7_addCell_0 : decode cX7_addCell 0 = .ok (.aload_n 0, 1) := by decide +kernel
theorem dX7_addCell_1 : decode cX7_addCell 1 = .ok (.getfield 45, 3) := by decide +kernel
theorem dX7_addCell_4 : decode cX7_addCell 4 = .ok (.sipush 1501, 3) := by decide +kernel
theorem dX7_addCell_7 : decode cX7_addCell 7 = .ok (.if_icmp .lt 5, 3) := by decide +kernel
theorem dX7_addCell_10 : decode cX7_addCell 10 = .ok (.iconst 0, 1) := by decide +kernel
theorem dX7_addCell_11 : decode cX7_addCell 11 = .ok (.ireturn, 1) := by decide +kernel
theorem dX7_addCell_12 : decode cX7_addCell 12 = .ok (.aload_n 0, 1) := by decide +kernel
theorem dX7_addCell_13 : decode cX7_addCell 13 = .ok (.getfield 24, 3) := by decide +kernel
theorem dX7_addCell_16 : decode cX7_addCell 16 = .ok (.aload_n 0, 1) := by decide +kernel
theorem dX7_addCell_17 : decode cX7_addCell 17 = .ok (.getfield 45, 3) := by decide +kernel
theorem dX7_addCell_20 : decode cX7_addCell 20 = .ok (.iload_n 1, 1) := by decide +kernel
theorem dX7_addCell_21 : decode cX7_addCell 21 = .ok (.iastore, 1) := by decide +kernel
theorem dX7_addCell_22 : decode cX7_addCell 22 = .ok (.aload_n 0, 1) := by decide +kernel
theorem dX7_addCell_23 : decode cX7_addCell 23 = .ok (.dup, 1) := by decide +kernel
theorem dX7_addCell_24 : decode cX7_addCell 24 = .ok (.getfield 45, 3) := by decide +kernel
theorem dX7_addCell_27 : decode cX7_addCell 27 = .ok (.iconst 1, 1) := by decide +kernel
theorem dX7_addCell_28 : decode cX7_addCell 28 = .ok (.iadd, 1) := by decide +kernel
theorem dX7_addCell_29 : decode cX7_addCell 29 = .ok (.putfield 45, 3) := by decide +kernel
theorem dX7_addCell_32 : decode cX7_addCell 32 = .ok (.aload_n 0, 1) := by decide +kernel
theorem dX7_addCell_33 : decode cX7_addCell 33 = .ok (.getfield 45, 3) := by decide +kernel
theorem dX7_addCell_36 : decode cX7_addCell 36 = .ok (.iconst 1, 1) := by decide +kernel
theorem dX7_addCell_37 : decode cX7_addCell 37 = .ok (.isub, 1) := by decide +kernel
theorem dX7_addCell_38 : decode cX7_addCell 38 = .ok (.ireturn, 1) := by decide +kernel
theorem dX7_add_0 : decode cX7_add 0 = .ok (.aload_n 0, 1) := by decide +kernel
theorem dX7_add_1 : decode cX7_add 1 = .ok (.getfield 41, 3) := by decide +kernel
theorem dX7_add_4 : decode cX7_add 4 = .ok (.sipush 1501, 3) := by decide +kernel
theorem dX7_add_7 : decode cX7_add 7 = .ok (.if_icmp .lt 5, 3) := by decide +kernel
theorem dX7_add_10 : decode cX7_add 10 = .ok (.iconst 0, 1) := by decide +kernel
theorem dX7_add_11 : decode cX7_add 11 = .ok (.ireturn, 1) := by decide +kernel
theorem dX7_add_12 : decode cX7_add 12 = .ok (.aload_n 0, 1) := by decide +kernel
theorem dX7_add_13 : decode cX7_add 13 = .ok (.getfield 11, 3) := by decide +kernel
theorem dX7_add_16 : decode cX7_add 16 = .ok (.aload_n 0, 1) := by decide +kernel
theorem dX7_add_17 : decode cX7_add 17 = .ok (.getfield 41, 3) := by decide +kernel
theorem dX7_add_20 : decode cX7_add 20 = .ok (.iload_n 1, 1) := by decide +kernel
theorem dX7_add_21 : decode cX7_add 21 = .ok (.iastore, 1) := by decide +kernel
theorem dX7_add_22 : decode cX7_add 22 = .ok (.aload_n 0, 1) := by decide +kernel
theorem dX7_add_23 : decode cX7_add 23 = .ok (.getfield 15, 3) := by decide +kernel
theorem dX7_add_26 : decode cX7_add 26 = .ok (.aload_n 0, 1) := by decide +kernel
theorem dX7_add_27 : decode cX7_add 27 = .ok (.getfield 41, 3) := by decide +kernel
theorem dX7_add_30 : decode cX7_add 30 = .ok (.iload_n 2, 1) := by decide +kernel
theorem dX7_add_31 : decode cX7_add 31 = .ok (.iastore, 1) := by decide +kernel
theorem dX7_add_32 : decode cX7_add 32 = .ok (.aload_n 0, 1) := by decide +kernel
theorem dX7_add_33 : decode cX7_add 33 = .ok (.getfield 18, 3) := by decide +kernel
theorem dX7_add_36 : decode cX7_add 36 = .ok (.aload_n 0, 1) := by decide +kernel
theorem dX7_add_37 : decode cX7_add 37 = .ok (.getfield 41, 3) := by decide +kernel
theorem dX7_add_40 : decode cX7_add 40 = .ok (.iload_n 3, 1) := by decide +kernel
theorem dX7_add_41 : decode cX7_add 41 = .ok (.iastore, 1) := by decide +kernel
theorem dX7_add_42 : decode cX7_add 42 = .ok (.aload_n 0, 1) := by decide +kernel
theorem dX7_add_43 : decode cX7_add 43 = .ok (.getfield 21, 3) := by decide +kernel
theorem dX7_add_46 : decode cX7_add 46 = .ok (.aload_n 0, 1) := by decide +kernel
theorem dX7_add_47 : decode cX7_add 47 = .ok (.getfield 41, 3) := by decide +kernel
theorem dX7_add_50 : decode cX7_add 50 = .ok (.ldc 58, 2) := by decide +kernel
theorem dX7_add_52 : decode cX7_add 52 = .ok (.aload_n 0, 1) := by decide +kernel
theorem dX7_add_53 : decode cX7_add 53 = .ok (.iload_n 1, 1) := by decide +kernel
theorem dX7_add_54 : decode cX7_add 54 = .ok (.iload_n 2, 1) := by decide +kernel
theorem dX7_add_55 : decode cX7_add 55 = .ok (.iload_n 3, 1) := by decide +kernel
theorem dX7_add_56 : decode cX7_add 56 = .ok (.invokevirtual 59, 3) := by decide +kernel
theorem dX7_add_59 : decode cX7_add 59 = .ok (.invokestatic 63, 3) := by decide +kernel
theorem dX7_add_62 : decode cX7_add 62 = .ok (.iastore, 1) := by decide +kernel
theorem dX7_add_63 : decode cX7_add 63 = .ok (.aload_n 0, 1) := by decide +kernel
theorem dX7_add_64 : decode cX7_add 64 = .ok (.dup, 1) := by decide +kernel
theorem dX7_add_65 : decode cX7_add 65 = .ok (.getfield 41, 3) := by decide +kernel
theorem dX7_add_68 : decode cX7_add 68 = .ok (.iconst 1, 1) := by decide +kernel
theorem dX7_add_69 : decode cX7_add 69 = .ok (.iadd, 1) := by decide +kernel
theorem dX7_add_70 : decode cX7_add 70 = .ok (.putfield 41, 3) := by decide +kernel
theorem dX7_add_73 : decode cX7_add 73 = .ok (.aload_n 0, 1) := by decide +kernel
theorem dX7_add_74 : decode cX7_add 74 = .ok (.getfield 41, 3) := by decide +kernel
theorem dX7_add_77 : decode cX7_add 77 = .ok (.iconst 1, 1) := by decide +kernel
theorem dX7_add_78 : decode cX7_add 78 = .ok (.isub, 1) := by decide +kernel
theorem dX7_add_79 : decode cX7_add 79 = .ok (.ireturn, 1) := by decide +kernel
theorem dX7_weigh_0 : decode cX7_weigh 0 = .ok (.iload_n 1, 1) := by decide +kernel
theorem dX7_weigh_1 : decode cX7_weigh 1 = .ok (.tableswitch 83 0 7 #[47, 51, 83, 83, 83, 67, 58, 58], 47) := by decide +kernel
theorem dX7_weigh_48 : decode cX7_weigh 48 = .ok (.iload_n 3, 1) := by decide +kernel
theorem dX7_weigh_49 : decode cX7_weigh 49 = .ok (.iload_n 2, 1) := by decide +kernel
theorem dX7_weigh_50 : decode cX7_weigh 50 = .ok (.isub, 1) := by decide +kernel
theorem dX7_weigh_51 : decode cX7_weigh 51 = .ok (.ireturn, 1) := by decide +kernel
theorem dX7_weigh_52 : decode cX7_weigh 52 = .ok (.aload_n 0, 1) := by decide +kernel
theorem dX7_weigh_53 : decode cX7_weigh 53 = .ok (.getfield 21, 3) := by decide +kernel
theorem dX7_weigh_56 : decode cX7_weigh 56 = .ok (.iload_n 2, 1) := by decide +kernel
theorem dX7_weigh_57 : decode cX7_weigh 57 = .ok (.iaload, 1) := by decide +kernel
theorem dX7_weigh_58 : decode cX7_weigh 58 = .ok (.ireturn, 1) := by decide +kernel
theorem dX7_weigh_59 : decode cX7_weigh 59 = .ok (.iconst 1, 1) := by decide +kernel
theorem dX7_weigh_60 : decode cX7_weigh 60 = .ok (.aload_n 0, 1) := by decide +kernel
theorem dX7_weigh_61 : decode cX7_weigh 61 = .ok (.getfield 21, 3) := by decide +kernel
theorem dX7_weigh_64 : decode cX7_weigh 64 = .ok (.iload_n 3, 1) := by decide +kernel
theorem dX7_weigh_65 : decode cX7_weigh 65 = .ok (.iaload, 1) := by decide +kernel
theorem dX7_weigh_66 : decode cX7_weigh 66 = .ok (.iadd, 1) := by decide +kernel
theorem dX7_weigh_67 : decode cX7_weigh 67 = .ok (.ireturn, 1) := by decide +kernel
theorem dX7_weigh_68 : decode cX7_weigh 68 = .ok (.iconst 2, 1) := by decide +kernel
theorem dX7_weigh_69 : decode cX7_weigh 69 = .ok (.aload_n 0, 1) := by decide +kernel
theorem dX7_weigh_70 : decode cX7_weigh 70 = .ok (.getfield 21, 3) := by decide +kernel
theorem dX7_weigh_73 : decode cX7_weigh 73 = .ok (.iload_n 2, 1) := by decide +kernel
theorem dX7_weigh_74 : decode cX7_weigh 74 = .ok (.iaload, 1) := by decide +kernel
theorem dX7_weigh_75 : decode cX7_weigh 75 = .ok (.aload_n 0, 1) := by decide +kernel
theorem dX7_weigh_76 : decode cX7_weigh 76 = .ok (.getfield 21, 3) := by decide +kernel
theorem dX7_weigh_79 : decode cX7_weigh 79 = .ok (.iload_n 3, 1) := by decide +kernel
theorem dX7_weigh_80 : decode cX7_weigh 80 = .ok (.iaload, 1) := by decide +kernel
theorem dX7_weigh_81 : decode cX7_weigh 81 = .ok (.iadd, 1) := by decide +kernel
theorem dX7_weigh_82 : decode cX7_weigh 82 = .ok (.imul, 1) := by decide +kernel
theorem dX7_weigh_83 : decode cX7_weigh 83 = .ok (.ireturn, 1) := by decide +kernel
theorem dX7_weigh_84 : decode cX7_weigh 84 = .ok (.aload_n 0, 1) := by decide +kernel
theorem dX7_weigh_85 : decode cX7_weigh 85 = .ok (.getfield 21, 3) := by decide +kernel
theorem dX7_weigh_88 : decode cX7_weigh 88 = .ok (.iload_n 2, 1) := by decide +kernel
theorem dX7_weigh_89 : decode cX7_weigh 89 = .ok (.iaload, 1) := by decide +kernel
theorem dX7_weigh_90 : decode cX7_weigh 90 = .ok (.aload_n 0, 1) := by decide +kernel
theorem dX7_weigh_91 : decode cX7_weigh 91 = .ok (.getfield 21, 3) := by decide +kernel
theorem dX7_weigh_94 : decode cX7_weigh 94 = .ok (.iload_n 3, 1) := by decide +kernel
theorem dX7_weigh_95 : decode cX7_weigh 95 = .ok (.iaload, 1) := by decide +kernel
theorem dX7_weigh_96 : decode cX7_weigh 96 = .ok (.iadd, 1) := by decide +kernel
theorem dX7_weigh_97 : decode cX7_weigh 97 = .ok (.ireturn, 1) := by decide +kernel
theorem dX8_init_0 : decode cX8_init 0 = .ok (.aload_n 0, 1) := by decide +kernel
theorem dX8_init_1 : decode cX8_init 1 = .ok (.invokespecial 1, 3) := by decide +kernel
theorem dX8_init_4 : decode cX8_init 4 = .ok (.aload_n 0, 1) := by decide +kernel
theorem dX8_init_5 : decode cX8_init 5 = .ok (.aload_n 1, 1) := by decide +kernel
theorem dX8_init_6 : decode cX8_init 6 = .ok (.putfield 7, 3) := by decide +kernel
theorem dX8_init_9 : decode cX8_init 9 = .ok (.aload_n 0, 1) := by decide +kernel
theorem dX8_init_10 : decode cX8_init 10 = .ok (.aload_n 2, 1) := by decide +kernel
theorem dX8_init_11 : decode cX8_init 11 = .ok (.putfield 13, 3) := by decide +kernel
theorem dX8_init_14 : decode cX8_init 14 = .ok (.aload_n 0, 1) := by decide +kernel
theorem dX8_init_15 : decode cX8_init 15 = .ok (.aload_n 3, 1) := by decide +kernel
theorem dX8_init_16 : decode cX8_init 16 = .ok (.putfield 17, 3) := by decide +kernel
theorem dX8_init_19 : decode cX8_init 19 = .ok (.aload_n 0, 1) := by decide +kernel
theorem dX8_init_20 : decode cX8_init 20 = .ok (.aload 4, 2) := by decide +kernel
theorem dX8_init_22 : decode cX8_init 22 = .ok (.putfield 21, 3) := by decide +kernel
theorem dX8_init_25 : decode cX8_init 25 = .ok (.aload_n 0, 1) := by decide +kernel
theorem dX8_init_26 : decode cX8_init 26 = .ok (.aload 5, 2) := by decide +kernel
theorem dX8_init_28 : decode cX8_init 28 = .ok (.putfield 24, 3) := by decide +kernel
theorem dX8_init_31 : decode cX8_init 31 = .ok (.return_, 1) := by decide +kernel
theorem dX8_begin_0 : decode cX8_begin 0 = .ok (.aload_n 0, 1) := by decide +kernel
theorem dX8_begin_1 : decode cX8_begin 1 = .ok (.getfield 7, 3) := by decide +kernel
theorem dX8_begin_4 : decode cX8_begin 4 = .ok (.getfield 27, 3) := by decide +kernel
theorem dX8_begin_7 : decode cX8_begin 7 = .ok (.aload_n 0, 1) := by decide +kernel
theorem dX8_begin_8 : decode cX8_begin 8 = .ok (.getfield 13, 3) := by decide +kernel
theorem dX8_begin_11 : decode cX8_begin 11 = .ok (.getfield 33, 3) := by decide +kernel
theorem dX8_begin_14 : decode cX8_begin 14 = .ok (.iload_n 1, 1) := by decide +kernel
theorem dX8_begin_15 : decode cX8_begin 15 = .ok (.iaload, 1) := by decide +kernel
theorem dX8_begin_16 : decode cX8_begin 16 = .ok (.iaload, 1) := by decide +kernel
theorem dX8_begin_17 : decode cX8_begin 17 = .ok (.istore 4, 2) := by decide +kernel
theorem dX8_begin_19 : decode cX8_begin 19 = .ok (.aload_n 0, 1) := by decide +kernel
theorem dX8_begin_20 : decode cX8_begin 20 = .ok (.getfield 7, 3) := by decide +kernel
theorem dX8_begin_23 : decode cX8_begin 23 = .ok (.getfield 38, 3) := by decide +kernel
theorem dX8_begin_26 : decode cX8_begin 26 = .ok (.iload 4, 2) := by decide +kernel
theorem dX8_begin_28 : decode cX8_begin 28 = .ok (.iaload, 1) := by decide +kernel
theorem dX8_begin_29 : decode cX8_begin 29 = .ok (.bipush 7, 2) := by decide +kernel
theorem dX8_begin_31 : decode cX8_begin 31 = .ok (.iand, 1) := by decide +kernel
theorem dX8_begin_32 : decode cX8_begin 32 = .ok (.istore 5, 2) := by decide +kernel
theorem dX8_begin_34 : decode cX8_begin 34 = .ok (.aload_n 0, 1) := by decide +kernel
theorem dX8_begin_35 : decode cX8_begin 35 = .ok (.getfield 17, 3) := by decide +kernel
theorem dX8_begin_38 : decode cX8_begin 38 = .ok (.iload 4, 2) := by decide +kernel
theorem dX8_begin_40 : decode cX8_begin 40 = .ok (.iconst 1, 1) := by decide +kernel
theorem dX8_begin_41 : decode cX8_begin 41 = .ok (.iadd, 1) := by decide +kernel
theorem dX8_begin_42 : decode cX8_begin 42 = .ok (.aload_n 0, 1) := by decide +kernel
theorem dX8_begin_43 : decode cX8_begin 43 = .ok (.getfield 13, 3) := by decide +kernel
theorem dX8_begin_46 : decode cX8_begin 46 = .ok (.getfield 41, 3) := by decide +kernel
theorem dX8_begin_49 : decode cX8_begin 49 = .ok (.iload_n 1, 1) := by decide +kernel
theorem dX8_begin_50 : decode cX8_begin 50 = .ok (.iaload, 1) := by decide +kernel
theorem dX8_begin_51 : decode cX8_begin 51 = .ok (.iload 5, 2) := by decide +kernel
theorem dX8_begin_53 : decode cX8_begin 53 = .ok (.invokevirtual 44, 3) := by decide +kernel
theorem dX8_begin_56 : decode cX8_begin 56 = .ok (.aload_n 0, 1) := by decide +kernel
theorem dX8_begin_57 : decode cX8_begin 57 = .ok (.getfield 21, 3) := by decide +kernel
theorem dX8_begin_60 : decode cX8_begin 60 = .ok (.aload_n 0, 1) := by decide +kernel
theorem dX8_begin_61 : decode cX8_begin 61 = .ok (.getfield 7, 3) := by decide +kernel
theorem dX8_begin_64 : decode cX8_begin 64 = .ok (.getfield 27, 3) := by decide +kernel
theorem dX8_begin_67 : decode cX8_begin 67 = .ok (.iload_n 2, 1) := by decide +kernel
theorem dX8_begin_68 : decode cX8_begin 68 = .ok (.iaload, 1) := by decide +kernel
theorem dX8_begin_69 : decode cX8_begin 69 = .ok (.iconst 1, 1) := by decide +kernel
theorem dX8_begin_70 : decode cX8_begin 70 = .ok (.iadd, 1) := by decide +kernel
theorem dX8_begin_71 : decode cX8_begin 71 = .ok (.iload_n 3, 1) := by decide +kernel
theorem dX8_begin_72 : decode cX8_begin 72 = .ok (.iload 5, 2) := by decide +kernel
theorem dX8_begin_74 : decode cX8_begin 74 = .ok (.invokevirtual 44, 3) := by decide +kernel
theorem dX8_begin_77 : decode cX8_begin 77 = .ok (.return_, 1) := by decide +kernel
theorem dX8_unify_0 : decode cX8_unify 0 = .ok (.aload_n 0, 1) := by decide +kernel
theorem dX8_unify_1 : decode cX8_unify 1 = .ok (.iload_n 1, 1) := by decide +kernel
theorem dX8_unify_2 : decode cX8_unify 2 = .ok (.iload_n 2, 1) := by decide +kernel
theorem dX8_unify_3 : decode cX8_unify 3 = .ok (.iload_n 3, 1) := by decide +kernel
theorem dX8_unify_4 : decode cX8_unify 4 = .ok (.invokevirtual 50, 3) := by decide +kernel
theorem dX8_unify_7 : decode cX8_unify 7 = .ok (.aload_n 0, 1) := by decide +kernel
theorem dX8_unify_8 : decode cX8_unify 8 = .ok (.iconst 0, 1) := by decide +kernel
theorem dX8_unify_9 : decode cX8_unify 9 = .ok (.putfield 51, 3) := by decide +kernel
theorem dX8_unify_12 : decode cX8_unify 12 = .ok (.aload_n 0, 1) := by decide +kernel
theorem dX8_unify_13 : decode cX8_unify 13 = .ok (.getfield 17, 3) := by decide +kernel
theorem dX8_unify_16 : decode cX8_unify 16 = .ok (.invokevirtual 55, 3) := by decide +kernel
theorem dX8_unify_19 : decode cX8_unify 19 = .ok (.ifCond .eq 178, 3) := by decide +kernel
theorem dX8_unify_22 : decode cX8_unify 22 = .ok (.aload_n 0, 1) := by decide +kernel
theorem dX8_unify_23 : decode cX8_unify 23 = .ok (.getfield 21, 3) := by decide +kernel
theorem dX8_unify_26 : decode cX8_unify 26 = .ok (.invokevirtual 55, 3) := by decide +kernel
theorem dX8_unify_29 : decode cX8_unify 29 = .ok (.ifCond .eq 168, 3) := by decide +kernel
theorem dX8_unify_32 : decode cX8_unify 32 = .ok (.aload_n 0, 1) := by decide +kernel
theorem dX8_unify_33 : decode cX8_unify 33 = .ok (.dup, 1) := by decide +kernel
theorem dX8_unify_34 : decode cX8_unify 34 = .ok (.getfield 51, 3) := by decide +kernel
theorem dX8_unify_37 : decode cX8_unify 37 = .ok (.iconst 1, 1) := by decide +kernel
theorem dX8_unify_38 : decode cX8_unify 38 = .ok (.iadd, 1) := by decide +kernel
theorem dX8_unify_39 : decode cX8_unify 39 = .ok (.putfield 51, 3) := by decide +kernel
theorem dX8_unify_42 : decode cX8_unify 42 = .ok (.aload_n 0, 1) := by decide +kernel
theorem dX8_unify_43 : decode cX8_unify 43 = .ok (.getfield 51, 3) := by decide +kernel
theorem dX8_unify_46 : decode cX8_unify 46 = .ok (.sipush 4000, 3) := by decide +kernel
theorem dX8_unify_49 : decode cX8_unify 49 = .ok (.if_icmp .le 5, 3) := by decide +kernel
theorem dX8_unify_52 : decode cX8_unify 52 = .ok (.iconst 2, 1) := by decide +kernel
theorem dX8_unify_53 : decode cX8_unify 53 = .ok (.ireturn, 1) := by decide +kernel
theorem dX8_unify_54 : decode cX8_unify 54 = .ok (.aload_n 0, 1) := by decide +kernel
theorem dX8_unify_55 : decode cX8_unify 55 = .ok (.getfield 17, 3) := by decide +kernel
theorem dX8_unify_58 : decode cX8_unify 58 = .ok (.invokevirtual 59, 3) := by decide +kernel
theorem dX8_unify_61 : decode cX8_unify 61 = .ok (.istore 4, 2) := by decide +kernel
theorem dX8_unify_63 : decode cX8_unify 63 = .ok (.aload_n 0, 1) := by decide +kernel
theorem dX8_unify_64 : decode cX8_unify 64 = .ok (.getfield 21, 3) := by decide +kernel
theorem dX8_unify_67 : decode cX8_unify 67 = .ok (.invokevirtual 59, 3) := by decide +kernel
theorem dX8_unify_70 : decode cX8_unify 70 = .ok (.istore 5, 2) := by decide +kernel
theorem dX8_unify_72 : decode cX8_unify 72 = .ok (.iload 4, 2) := by decide +kernel
theorem dX8_unify_74 : decode cX8_unify 74 = .ok (.ifCond .ge 44, 3) := by decide +kernel
theorem dX8_unify_77 : decode cX8_unify 77 = .ok (.iload 5, 2) := by decide +kernel
theorem dX8_unify_79 : decode cX8_unify 79 = .ok (.ifCond .ge 39, 3) := by decide +kernel
theorem dX8_unify_82 : decode cX8_unify 82 = .ok (.aload_n 0, 1) := by decide +kernel
theorem dX8_unify_83 : decode cX8_unify 83 = .ok (.getfield 17, 3) := by decide +kernel
theorem dX8_unify_86 : decode cX8_unify 86 = .ok (.invokevirtual 63, 3) := by decide +kernel
theorem dX8_unify_89 : decode cX8_unify 89 = .ok (.aload_n 0, 1) := by decide +kernel
theorem dX8_unify_90 : decode cX8_unify 90 = .ok (.getfield 21, 3) := by decide +kernel
theorem dX8_unify_93 : decode cX8_unify 93 = .ok (.invokevirtual 63, 3) := by decide +kernel
theorem dX8_unify_96 : decode cX8_unify 96 = .ok (.if_icmp .eq 5, 3) := by decide +kernel
theorem dX8_unify_99 : decode cX8_unify 99 = .ok (.iconst 0, 1) := by decide +kernel
theorem dX8_unify_100 : decode cX8_unify 100 = .ok (.ireturn, 1) := by decide +kernel
theorem dX8_unify_101 : decode cX8_unify 101 = .ok (.aload_n 0, 1) := by decide +kernel
theorem dX8_unify_102 : decode cX8_unify 102 = .ok (.getfield 17, 3) := by decide +kernel
theorem dX8_unify_105 : decode cX8_unify 105 = .ok (.invokevirtual 66, 3) := by decide +kernel
theorem dX8_unify_108 : decode cX8_unify 108 = .ok (.aload_n 0, 1) := by decide +kernel
theorem dX8_unify_109 : decode cX8_unify 109 = .ok (.getfield 21, 3) := by decide +kernel
theorem dX8_unify_112 : decode cX8_unify 112 = .ok (.invokevirtual 66, 3) := by decide +kernel
theorem dX8_unify_115 : decode cX8_unify 115 = .ok (.goto (-103), 3) := by decide +kernel
theorem dX8_unify_118 : decode cX8_unify 118 = .ok (.iload 4, 2) := by decide +kernel
theorem dX8_unify_120 : decode cX8_unify 120 = .ok (.iload 5, 2) := by decide +kernel
theorem dX8_unify_122 : decode cX8_unify 122 = .ok (.if_icmp .eq 58, 3) := by decide +kernel
theorem dX8_unify_125 : decode cX8_unify 125 = .ok (.iload 4, 2) := by decide +kernel
theorem dX8_unify_127 : decode cX8_unify 127 = .ok (.ifCond .lt 16, 3) := by decide +kernel
theorem dX8_unify_130 : decode cX8_unify 130 = .ok (.aload_n 0, 1) := by decide +kernel
theorem dX8_unify_131 : decode cX8_unify 131 = .ok (.iload 4, 2) := by decide +kernel
theorem dX8_unify_133 : decode cX8_unify 133 = .ok (.aload_n 0, 1) := by decide +kernel
theorem dX8_unify_134 : decode cX8_unify 134 = .ok (.getfield 21, 3) := by decide +kernel
theorem dX8_unify_137 : decode cX8_unify 137 = .ok (.invokevirtual 69, 3) := by decide +kernel
theorem dX8_unify_140 : decode cX8_unify 140 = .ok (.goto 13, 3) := by decide +kernel
theorem dX8_unify_143 : decode cX8_unify 143 = .ok (.aload_n 0, 1) := by decide +kernel
theorem dX8_unify_144 : decode cX8_unify 144 = .ok (.iload 5, 2) := by decide +kernel
theorem dX8_unify_146 : decode cX8_unify 146 = .ok (.aload_n 0, 1) := by decide +kernel
theorem dX8_unify_147 : decode cX8_unify 147 = .ok (.getfield 17, 3) := by decide +kernel
theorem dX8_unify_150 : decode cX8_unify 150 = .ok (.invokevirtual 69, 3) := by decide +kernel
theorem dX8_unify_153 : decode cX8_unify 153 = .ok (.istore 6, 2) := by decide +kernel
theorem dX8_unify_155 : decode cX8_unify 155 = .ok (.iload 6, 2) := by decide +kernel
theorem dX8_unify_157 : decode cX8_unify 157 = .ok (.ifCond .eq 15, 3) := by decide +kernel
theorem dX8_unify_160 : decode cX8_unify 160 = .ok (.iload 6, 2) := by decide +kernel
theorem dX8_unify_162 : decode cX8_unify 162 = .ok (.iconst 2, 1) := by decide +kernel
theorem dX8_unify_163 : decode cX8_unify 163 = .ok (.if_icmp .ne 7, 3) := by decide +kernel
theorem dX8_unify_166 : decode cX8_unify 166 = .ok (.iconst 2, 1) := by decide +kernel
theorem dX8_unify_167 : decode cX8_unify 167 = .ok (.goto 4, 3) := by decide +kernel
theorem dX8_unify_170 : decode cX8_unify 170 = .ok (.iconst 0, 1) := by decide +kernel
theorem dX8_unify_171 : decode cX8_unify 171 = .ok (.ireturn, 1) := by decide +kernel
theorem dX8_unify_172 : decode cX8_unify 172 = .ok (.aload_n 0, 1) := by decide +kernel
theorem dX8_unify_173 : decode cX8_unify 173 = .ok (.iload 4, 2) := by decide +kernel
theorem dX8_unify_175 : decode cX8_unify 175 = .ok (.iload 5, 2) := by decide +kernel
theorem dX8_unify_177 : decode cX8_unify 177 = .ok (.invokevirtual 73, 3) := by decide +kernel
theorem dX8_unify_180 : decode cX8_unify 180 = .ok (.aload_n 0, 1) := by decide +kernel
theorem dX8_unify_181 : decode cX8_unify 181 = .ok (.getfield 17, 3) := by decide +kernel
theorem dX8_unify_184 : decode cX8_unify 184 = .ok (.invokevirtual 77, 3) := by decide +kernel
theorem dX8_unify_187 : decode cX8_unify 187 = .ok (.aload_n 0, 1) := by decide +kernel
theorem dX8_unify_188 : decode cX8_unify 188 = .ok (.getfield 21, 3) := by decide +kernel
theorem dX8_unify_191 : decode cX8_unify 191 = .ok (.invokevirtual 77, 3) := by decide +kernel
theorem dX8_unify_194 : decode cX8_unify 194 = .ok (.goto (-182), 3) := by decide +kernel
theorem dX8_unify_197 : decode cX8_unify 197 = .ok (.iconst 1, 1) := by decide +kernel
theorem dX8_unify_198 : decode cX8_unify 198 = .ok (.ireturn, 1) := by decide +kernel
theorem dX8_bind_0 : decode cX8_bind 0 = .ok (.iload_n 1, 1) := by decide +kernel
theorem dX8_bind_1 : decode cX8_bind 1 = .ok (.ifCond .lt 28, 3) := by decide +kernel
theorem dX8_bind_4 : decode cX8_bind 4 = .ok (.aload_n 0, 1) := by decide +kernel
theorem dX8_bind_5 : decode cX8_bind 5 = .ok (.getfield 13, 3) := by decide +kernel
theorem dX8_bind_8 : decode cX8_bind 8 = .ok (.iload_n 1, 1) := by decide +kernel
theorem dX8_bind_9 : decode cX8_bind 9 = .ok (.aload_n 0, 1) := by decide +kernel
theorem dX8_bind_10 : decode cX8_bind 10 = .ok (.getfield 21, 3) := by decide +kernel
theorem dX8_bind_13 : decode cX8_bind 13 = .ok (.invokevirtual 80, 3) := by decide +kernel
theorem dX8_bind_16 : decode cX8_bind 16 = .ok (.aload_n 0, 1) := by decide +kernel
theorem dX8_bind_17 : decode cX8_bind 17 = .ok (.getfield 21, 3) := by decide +kernel
theorem dX8_bind_20 : decode cX8_bind 20 = .ok (.invokevirtual 83, 3) := by decide +kernel
theorem dX8_bind_23 : decode cX8_bind 23 = .ok (.invokevirtual 86, 3) := by decide +kernel
theorem dX8_bind_26 : decode cX8_bind 26 = .ok (.goto 25, 3) := by decide +kernel
theorem dX8_bind_29 : decode cX8_bind 29 = .ok (.aload_n 0, 1) := by decide +kernel
theorem dX8_bind_30 : decode cX8_bind 30 = .ok (.getfield 13, 3) := by decide +kernel
theorem dX8_bind_33 : decode cX8_bind 33 = .ok (.iload_n 2, 1) := by decide +kernel
theorem dX8_bind_34 : decode cX8_bind 34 = .ok (.aload_n 0, 1) := by decide +kernel
theorem dX8_bind_35 : decode cX8_bind 35 = .ok (.getfield 17, 3) := by decide +kernel
theorem dX8_bind_38 : decode cX8_bind 38 = .ok (.invokevirtual 80, 3) := by decide +kernel
theorem dX8_bind_41 : decode cX8_bind 41 = .ok (.aload_n 0, 1) := by decide +kernel
theorem dX8_bind_42 : decode cX8_bind 42 = .ok (.getfield 17, 3) := by decide +kernel
theorem dX8_bind_45 : decode cX8_bind 45 = .ok (.invokevirtual 83, 3) := by decide +kernel
theorem dX8_bind_48 : decode cX8_bind 48 = .ok (.invokevirtual 86, 3) := by decide +kernel
theorem dX8_bind_51 : decode cX8_bind 51 = .ok (.return_, 1) := by decide +kernel
theorem dX8_stands_0 : decode cX8_stands 0 = .ok (.aload_n 0, 1) := by decide +kernel
theorem dX8_stands_1 : decode cX8_stands 1 = .ok (.getfield 24, 3) := by decide +kernel
theorem dX8_stands_4 : decode cX8_stands 4 = .ok (.aload_n 2, 1) := by decide +kernel
theorem dX8_stands_5 : decode cX8_stands 5 = .ok (.invokevirtual 80, 3) := by decide +kernel
theorem dX8_stands_8 : decode cX8_stands 8 = .ok (.aload_n 2, 1) := by decide +kernel
theorem dX8_stands_9 : decode cX8_stands 9 = .ok (.invokevirtual 83, 3) := by decide +kernel
theorem dX8_stands_12 : decode cX8_stands 12 = .ok (.iconst 1, 1) := by decide +kernel
theorem dX8_stands_13 : decode cX8_stands 13 = .ok (.invokevirtual 44, 3) := by decide +kernel
theorem dX8_stands_16 : decode cX8_stands 16 = .ok (.aload_n 0, 1) := by decide +kernel
theorem dX8_stands_17 : decode cX8_stands 17 = .ok (.getfield 24, 3) := by decide +kernel
theorem dX8_stands_20 : decode cX8_stands 20 = .ok (.invokevirtual 55, 3) := by decide +kernel
theorem dX8_stands_23 : decode cX8_stands 23 = .ok (.ifCond .eq 48, 3) := by decide +kernel
theorem dX8_stands_26 : decode cX8_stands 26 = .ok (.aload_n 0, 1) := by decide +kernel
theorem dX8_stands_27 : decode cX8_stands 27 = .ok (.dup, 1) := by decide +kernel
theorem dX8_stands_28 : decode cX8_stands 28 = .ok (.getfield 51, 3) := by decide +kernel
theorem dX8_stands_31 : decode cX8_stands 31 = .ok (.iconst 1, 1) := by decide +kernel
theorem dX8_stands_32 : decode cX8_stands 32 = .ok (.iadd, 1) := by decide +kernel
theorem dX8_stands_33 : decode cX8_stands 33 = .ok (.putfield 51, 3) := by decide +kernel
theorem dX8_stands_36 : decode cX8_stands 36 = .ok (.aload_n 0, 1) := by decide +kernel
theorem dX8_stands_37 : decode cX8_stands 37 = .ok (.getfield 51, 3) := by decide +kernel
theorem dX8_stands_40 : decode cX8_stands 40 = .ok (.sipush 4000, 3) := by decide +kernel
theorem dX8_stands_43 : decode cX8_stands 43 = .ok (.if_icmp .le 5, 3) := by decide +kernel
theorem dX8_stands_46 : decode cX8_stands 46 = .ok (.iconst 2, 1) := by decide +kernel
theorem dX8_stands_47 : decode cX8_stands 47 = .ok (.ireturn, 1) := by decide +kernel
theorem dX8_stands_48 : decode cX8_stands 48 = .ok (.aload_n 0, 1) := by decide +kernel
theorem dX8_stands_49 : decode cX8_stands 49 = .ok (.getfield 24, 3) := by decide +kernel
theorem dX8_stands_52 : decode cX8_stands 52 = .ok (.invokevirtual 59, 3) := by decide +kernel
theorem dX8_stands_55 : decode cX8_stands 55 = .ok (.iload_n 1, 1) := by decide +kernel
theorem dX8_stands_56 : decode cX8_stands 56 = .ok (.if_icmp .ne 5, 3) := by decide +kernel
theorem dX8_stands_59 : decode cX8_stands 59 = .ok (.iconst 1, 1) := by decide +kernel
theorem dX8_stands_60 : decode cX8_stands 60 = .ok (.ireturn, 1) := by decide +kernel
theorem dX8_stands_61 : decode cX8_stands 61 = .ok (.aload_n 0, 1) := by decide +kernel
theorem dX8_stands_62 : decode cX8_stands 62 = .ok (.getfield 24, 3) := by decide +kernel
theorem dX8_stands_65 : decode cX8_stands 65 = .ok (.invokevirtual 66, 3) := by decide +kernel
theorem dX8_stands_68 : decode cX8_stands 68 = .ok (.goto (-52), 3) := by decide +kernel
theorem dX8_stands_71 : decode cX8_stands 71 = .ok (.iconst 0, 1) := by decide +kernel
theorem dX8_stands_72 : decode cX8_stands 72 = .ok (.ireturn, 1) := by decide +kernel
theorem dX8_repeats_0 : decode cX8_repeats 0 = .ok (.aload_n 0, 1) := by decide +kernel
theorem dX8_repeats_1 : decode cX8_repeats 1 = .ok (.iconst 0, 1) := by decide +kernel
theorem dX8_repeats_2 : decode cX8_repeats 2 = .ok (.putfield 51, 3) := by decide +kernel
theorem dX8_repeats_5 : decode cX8_repeats 5 = .ok (.aload_n 0, 1) := by decide +kernel
theorem dX8_repeats_6 : decode cX8_repeats 6 = .ok (.getfield 13, 3) := by decide +kernel
theorem dX8_repeats_9 : decode cX8_repeats 9 = .ok (.getfield 88, 3) := by decide +kernel
theorem dX8_repeats_12 : decode cX8_repeats 12 = .ok (.iload_n 1, 1) := by decide +kernel
theorem dX8_repeats_13 : decode cX8_repeats 13 = .ok (.iaload, 1) := by decide +kernel
theorem dX8_repeats_14 : decode cX8_repeats 14 = .ok (.istore_n 2, 1) := by decide +kernel
theorem dX8_repeats_15 : decode cX8_repeats 15 = .ok (.iconst 0, 1) := by decide +kernel
theorem dX8_repeats_16 : decode cX8_repeats 16 = .ok (.istore_n 3, 1) := by decide +kernel
theorem dX8_repeats_17 : decode cX8_repeats 17 = .ok (.iload_n 3, 1) := by decide +kernel
theorem dX8_repeats_18 : decode cX8_repeats 18 = .ok (.sipush 150, 3) := by decide +kernel
theorem dX8_repeats_21 : decode cX8_repeats 21 = .ok (.if_icmp .ge 67, 3) := by decide +kernel
theorem dX8_repeats_24 : decode cX8_repeats 24 = .ok (.iload_n 2, 1) := by decide +kernel
theorem dX8_repeats_25 : decode cX8_repeats 25 = .ok (.ifCond .lt 63, 3) := by decide +kernel
theorem dX8_repeats_28 : decode cX8_repeats 28 = .ok (.aload_n 0, 1) := by decide +kernel
theorem dX8_repeats_29 : decode cX8_repeats 29 = .ok (.getfield 7, 3) := by decide +kernel
theorem dX8_repeats_32 : decode cX8_repeats 32 = .ok (.aload_n 0, 1) := by decide +kernel
theorem dX8_repeats_33 : decode cX8_repeats 33 = .ok (.getfield 13, 3) := by decide +kernel
theorem dX8_repeats_36 : decode cX8_repeats 36 = .ok (.getfield 33, 3) := by decide +kernel
theorem dX8_repeats_39 : decode cX8_repeats 39 = .ok (.iload_n 1, 1) := by decide +kernel
theorem dX8_repeats_40 : decode cX8_repeats 40 = .ok (.iaload, 1) := by decide +kernel
theorem dX8_repeats_41 : decode cX8_repeats 41 = .ok (.aload_n 0, 1) := by decide +kernel
theorem dX8_repeats_42 : decode cX8_repeats 42 = .ok (.getfield 13, 3) := by decide +kernel
theorem dX8_repeats_45 : decode cX8_repeats 45 = .ok (.getfield 33, 3) := by decide +kernel
theorem dX8_repeats_48 : decode cX8_repeats 48 = .ok (.iload_n 2, 1) := by decide +kernel
theorem dX8_repeats_49 : decode cX8_repeats 49 = .ok (.iaload, 1) := by decide +kernel
theorem dX8_repeats_50 : decode cX8_repeats 50 = .ok (.invokevirtual 91, 3) := by decide +kernel
theorem dX8_repeats_53 : decode cX8_repeats 53 = .ok (.ifCond .eq 19, 3) := by decide +kernel
theorem dX8_repeats_56 : decode cX8_repeats 56 = .ok (.aload_n 0, 1) := by decide +kernel
theorem dX8_repeats_57 : decode cX8_repeats 57 = .ok (.iload_n 1, 1) := by decide +kernel
theorem dX8_repeats_58 : decode cX8_repeats 58 = .ok (.iload_n 2, 1) := by decide +kernel
theorem dX8_repeats_59 : decode cX8_repeats 59 = .ok (.invokevirtual 95, 3) := by decide +kernel
theorem dX8_repeats_62 : decode cX8_repeats 62 = .ok (.istore 4, 2) := by decide +kernel
theorem dX8_repeats_64 : decode cX8_repeats 64 = .ok (.iload 4, 2) := by decide +kernel
theorem dX8_repeats_66 : decode cX8_repeats 66 = .ok (.ifCond .eq 6, 3) := by decide +kernel
theorem dX8_repeats_69 : decode cX8_repeats 69 = .ok (.iload 4, 2) := by decide +kernel
theorem dX8_repeats_71 : decode cX8_repeats 71 = .ok (.ireturn, 1) := by decide +kernel
theorem dX8_repeats_72 : decode cX8_repeats 72 = .ok (.aload_n 0, 1) := by decide +kernel
theorem dX8_repeats_73 : decode cX8_repeats 73 = .ok (.getfield 13, 3) := by decide +kernel
theorem dX8_repeats_76 : decode cX8_repeats 76 = .ok (.getfield 88, 3) := by decide +kernel
theorem dX8_repeats_79 : decode cX8_repeats 79 = .ok (.iload_n 2, 1) := by decide +kernel
theorem dX8_repeats_80 : decode cX8_repeats 80 = .ok (.iaload, 1) := by decide +kernel
theorem dX8_repeats_81 : decode cX8_repeats 81 = .ok (.istore_n 2, 1) := by decide +kernel
theorem dX8_repeats_82 : decode cX8_repeats 82 = .ok (.iinc 3 1, 3) := by decide +kernel
theorem dX8_repeats_85 : decode cX8_repeats 85 = .ok (.goto (-68), 3) := by decide +kernel
theorem dX8_repeats_88 : decode cX8_repeats 88 = .ok (.iconst 0, 1) := by decide +kernel
theorem dX8_repeats_89 : decode cX8_repeats 89 = .ok (.ireturn, 1) := by decide +kernel
theorem dX8_same_0 : decode cX8_same 0 = .ok (.aload_n 0, 1) := by decide +kernel
theorem dX8_same_1 : decode cX8_same 1 = .ok (.iload_n 1, 1) := by decide +kernel
theorem dX8_same_2 : decode cX8_same 2 = .ok (.aload_n 0, 1) := by decide +kernel
theorem dX8_same_3 : decode cX8_same 3 = .ok (.getfield 13, 3) := by decide +kernel
theorem dX8_same_6 : decode cX8_same 6 = .ok (.getfield 33, 3) := by decide +kernel
theorem dX8_same_9 : decode cX8_same 9 = .ok (.iload_n 2, 1) := by decide +kernel
theorem dX8_same_10 : decode cX8_same 10 = .ok (.iaload, 1) := by decide +kernel
theorem dX8_same_11 : decode cX8_same 11 = .ok (.aload_n 0, 1) := by decide +kernel
theorem dX8_same_12 : decode cX8_same 12 = .ok (.getfield 13, 3) := by decide +kernel
theorem dX8_same_15 : decode cX8_same 15 = .ok (.getfield 41, 3) := by decide +kernel
theorem dX8_same_18 : decode cX8_same 18 = .ok (.iload_n 2, 1) := by decide +kernel
theorem dX8_same_19 : decode cX8_same 19 = .ok (.iaload, 1) := by decide +kernel
theorem dX8_same_20 : decode cX8_same 20 = .ok (.invokevirtual 50, 3) := by decide +kernel
theorem dX8_same_23 : decode cX8_same 23 = .ok (.aload_n 0, 1) := by decide +kernel
theorem dX8_same_24 : decode cX8_same 24 = .ok (.getfield 17, 3) := by decide +kernel
theorem dX8_same_27 : decode cX8_same 27 = .ok (.invokevirtual 55, 3) := by decide +kernel
theorem dX8_same_30 : decode cX8_same 30 = .ok (.ifCond .eq 94, 3) := by decide +kernel
theorem dX8_same_33 : decode cX8_same 33 = .ok (.aload_n 0, 1) := by decide +kernel
theorem dX8_same_34 : decode cX8_same 34 = .ok (.getfield 21, 3) := by decide +kernel
theorem dX8_same_37 : decode cX8_same 37 = .ok (.invokevirtual 55, 3) := by decide +kernel
theorem dX8_same_40 : decode cX8_same 40 = .ok (.ifCond .eq 84, 3) := by decide +kernel
theorem dX8_same_43 : decode cX8_same 43 = .ok (.aload_n 0, 1) := by decide +kernel
theorem dX8_same_44 : decode cX8_same 44 = .ok (.dup, 1) := by decide +kernel
theorem dX8_same_45 : decode cX8_same 45 = .ok (.getfield 51, 3) := by decide +kernel
theorem dX8_same_48 : decode cX8_same 48 = .ok (.iconst 1, 1) := by decide +kernel
theorem dX8_same_49 : decode cX8_same 49 = .ok (.iadd, 1) := by decide +kernel
theorem dX8_same_50 : decode cX8_same 50 = .ok (.putfield 51, 3) := by decide +kernel
theorem dX8_same_53 : decode cX8_same 53 = .ok (.aload_n 0, 1) := by decide +kernel
theorem dX8_same_54 : decode cX8_same 54 = .ok (.getfield 51, 3) := by decide +kernel
theorem dX8_same_57 : decode cX8_same 57 = .ok (.sipush 4000, 3) := by decide +kernel
theorem dX8_same_60 : decode cX8_same 60 = .ok (.if_icmp .le 5, 3) := by decide +kernel
theorem dX8_same_63 : decode cX8_same 63 = .ok (.iconst 2, 1) := by decide +kernel
theorem dX8_same_64 : decode cX8_same 64 = .ok (.ireturn, 1) := by decide +kernel
theorem dX8_same_65 : decode cX8_same 65 = .ok (.aload_n 0, 1) := by decide +kernel
theorem dX8_same_66 : decode cX8_same 66 = .ok (.getfield 17, 3) := by decide +kernel
theorem dX8_same_69 : decode cX8_same 69 = .ok (.invokevirtual 59, 3) := by decide +kernel
theorem dX8_same_72 : decode cX8_same 72 = .ok (.istore_n 3, 1) := by decide +kernel
theorem dX8_same_73 : decode cX8_same 73 = .ok (.iload_n 3, 1) := by decide +kernel
theorem dX8_same_74 : decode cX8_same 74 = .ok (.aload_n 0, 1) := by decide +kernel
theorem dX8_same_75 : decode cX8_same 75 = .ok (.getfield 21, 3) := by decide +kernel
theorem dX8_same_78 : decode cX8_same 78 = .ok (.invokevirtual 59, 3) := by decide +kernel
theorem dX8_same_81 : decode cX8_same 81 = .ok (.if_icmp .ne 24, 3) := by decide +kernel
theorem dX8_same_84 : decode cX8_same 84 = .ok (.iload_n 3, 1) := by decide +kernel
theorem dX8_same_85 : decode cX8_same 85 = .ok (.ifCond .ge 22, 3) := by decide +kernel
theorem dX8_same_88 : decode cX8_same 88 = .ok (.aload_n 0, 1) := by decide +kernel
theorem dX8_same_89 : decode cX8_same 89 = .ok (.getfield 17, 3) := by decide +kernel
theorem dX8_same_92 : decode cX8_same 92 = .ok (.invokevirtual 63, 3) := by decide +kernel
theorem dX8_same_95 : decode cX8_same 95 = .ok (.aload_n 0, 1) := by decide +kernel
theorem dX8_same_96 : decode cX8_same 96 = .ok (.getfield 21, 3) := by decide +kernel
theorem dX8_same_99 : decode cX8_same 99 = .ok (.invokevirtual 63, 3) := by decide +kernel
theorem dX8_same_102 : decode cX8_same 102 = .ok (.if_icmp .eq 5, 3) := by decide +kernel
theorem dX8_same_105 : decode cX8_same 105 = .ok (.iconst 0, 1) := by decide +kernel
theorem dX8_same_106 : decode cX8_same 106 = .ok (.ireturn, 1) := by decide +kernel
theorem dX8_same_107 : decode cX8_same 107 = .ok (.aload_n 0, 1) := by decide +kernel
theorem dX8_same_108 : decode cX8_same 108 = .ok (.getfield 17, 3) := by decide +kernel
theorem dX8_same_111 : decode cX8_same 111 = .ok (.invokevirtual 66, 3) := by decide +kernel
theorem dX8_same_114 : decode cX8_same 114 = .ok (.aload_n 0, 1) := by decide +kernel
theorem dX8_same_115 : decode cX8_same 115 = .ok (.getfield 21, 3) := by decide +kernel
theorem dX8_same_118 : decode cX8_same 118 = .ok (.invokevirtual 66, 3) := by decide +kernel
theorem dX8_same_121 : decode cX8_same 121 = .ok (.goto (-98), 3) := by decide +kernel
theorem dX8_same_124 : decode cX8_same 124 = .ok (.iconst 1, 1) := by decide +kernel
theorem dX8_same_125 : decode cX8_same 125 = .ok (.ireturn, 1) := by decide +kernel
theorem dX9_init_0 : decode cX9_init 0 = .ok (.aload_n 0, 1) := by decide +kernel
theorem dX9_init_1 : decode cX9_init 1 = .ok (.invokespecial 5, 3) := by decide +kernel
theorem dX9_init_4 : decode cX9_init 4 = .ok (.aload_n 0, 1) := by decide +kernel
theorem dX9_init_5 : decode cX9_init 5 = .ok (.sipush 222, 3) := by decide +kernel
theorem dX9_init_8 : decode cX9_init 8 = .ok (.newarray .int, 2) := by decide +kernel
theorem dX9_init_10 : decode cX9_init 10 = .ok (.putfield 13, 3) := by decide +kernel
theorem dX9_init_13 : decode cX9_init 13 = .ok (.aload_n 0, 1) := by decide +kernel
theorem dX9_init_14 : decode cX9_init 14 = .ok (.sipush 222, 3) := by decide +kernel
theorem dX9_init_17 : decode cX9_init 17 = .ok (.newarray .int, 2) := by decide +kernel
theorem dX9_init_19 : decode cX9_init 19 = .ok (.putfield 17, 3) := by decide +kernel
theorem dX9_init_22 : decode cX9_init 22 = .ok (.aload_n 0, 1) := by decide +kernel
theorem dX9_init_23 : decode cX9_init 23 = .ok (.sipush 222, 3) := by decide +kernel
theorem dX9_init_26 : decode cX9_init 26 = .ok (.newarray .int, 2) := by decide +kernel
theorem dX9_init_28 : decode cX9_init 28 = .ok (.putfield 20, 3) := by decide +kernel
theorem dX9_init_31 : decode cX9_init 31 = .ok (.aload_n 0, 1) := by decide +kernel
theorem dX9_init_32 : decode cX9_init 32 = .ok (.aload_n 1, 1) := by decide +kernel
theorem dX9_init_33 : decode cX9_init 33 = .ok (.putfield 23, 3) := by decide +kernel
theorem dX9_init_36 : decode cX9_init 36 = .ok (.aload_n 0, 1) := by decide +kernel
theorem dX9_init_37 : decode cX9_init 37 = .ok (.aload_n 2, 1) := by decide +kernel
theorem dX9_init_38 : decode cX9_init 38 = .ok (.putfield 27, 3) := by decide +kernel
theorem dX9_init_41 : decode cX9_init 41 = .ok (.return_, 1) := by decide +kernel
theorem dX9_begin_0 : decode cX9_begin 0 = .ok (.aload_n 0, 1) := by decide +kernel
theorem dX9_begin_1 : decode cX9_begin 1 = .ok (.getfield 13, 3) := by decide +kernel
theorem dX9_begin_4 : decode cX9_begin 4 = .ok (.iconst 0, 1) := by decide +kernel
theorem dX9_begin_5 : decode cX9_begin 5 = .ok (.iload_n 1, 1) := by decide +kernel
theorem dX9_begin_6 : decode cX9_begin 6 = .ok (.iastore, 1) := by decide +kernel
theorem dX9_begin_7 : decode cX9_begin 7 = .ok (.aload_n 0, 1) := by decide +kernel
theorem dX9_begin_8 : decode cX9_begin 8 = .ok (.getfield 17, 3) := by decide +kernel
theorem dX9_begin_11 : decode cX9_begin 11 = .ok (.iconst 0, 1) := by decide +kernel
theorem dX9_begin_12 : decode cX9_begin 12 = .ok (.iload_n 2, 1) := by decide +kernel
theorem dX9_begin_13 : decode cX9_begin 13 = .ok (.iastore, 1) := by decide +kernel
theorem dX9_begin_14 : decode cX9_begin 14 = .ok (.aload_n 0, 1) := by decide +kernel
theorem dX9_begin_15 : decode cX9_begin 15 = .ok (.getfield 20, 3) := by decide +kernel
theorem dX9_begin_18 : decode cX9_begin 18 = .ok (.iconst 0, 1) := by decide +kernel
theorem dX9_begin_19 : decode cX9_begin 19 = .ok (.iload_n 3, 1) := by decide +kernel
theorem dX9_begin_20 : decode cX9_begin 20 = .ok (.iastore, 1) := by decide +kernel
theorem dX9_begin_21 : decode cX9_begin 21 = .ok (.aload_n 0, 1) := by decide +kernel
theorem dX9_begin_22 : decode cX9_begin 22 = .ok (.iconst 0, 1) := by decide +kernel
theorem dX9_begin_23 : decode cX9_begin 23 = .ok (.putfield 31, 3) := by decide +kernel
theorem dX9_begin_26 : decode cX9_begin 26 = .ok (.return_, 1) := by decide +kernel
theorem dX9_more_0 : decode cX9_more 0 = .ok (.iconst 0, 1) := by decide +kernel
theorem dX9_more_1 : decode cX9_more 1 = .ok (.istore_n 1, 1) := by decide +kernel
theorem dX9_more_2 : decode cX9_more 2 = .ok (.iload_n 1, 1) := by decide +kernel
theorem dX9_more_3 : decode cX9_more 3 = .ok (.ldc 35, 2) := by decide +kernel
theorem dX9_more_5 : decode cX9_more 5 = .ok (.if_icmp .ge 203, 3) := by decide +kernel
theorem dX9_more_8 : decode cX9_more 8 = .ok (.aload_n 0, 1) := by decide +kernel
theorem dX9_more_9 : decode cX9_more 9 = .ok (.getfield 20, 3) := by decide +kernel
theorem dX9_more_12 : decode cX9_more 12 = .ok (.aload_n 0, 1) := by decide +kernel
theorem dX9_more_13 : decode cX9_more 13 = .ok (.getfield 31, 3) := by decide +kernel
theorem dX9_more_16 : decode cX9_more 16 = .ok (.iaload, 1) := by decide +kernel
theorem dX9_more_17 : decode cX9_more 17 = .ok (.ifCond .gt 25, 3) := by decide +kernel
theorem dX9_more_20 : decode cX9_more 20 = .ok (.aload_n 0, 1) := by decide +kernel
theorem dX9_more_21 : decode cX9_more 21 = .ok (.getfield 31, 3) := by decide +kernel
theorem dX9_more_24 : decode cX9_more 24 = .ok (.ifCond .ne 5, 3) := by decide +kernel
theorem dX9_more_27 : decode cX9_more 27 = .ok (.iconst 0, 1) := by decide +kernel
theorem dX9_more_28 : decode cX9_more 28 = .ok (.ireturn, 1) := by decide +kernel
theorem dX9_more_29 : decode cX9_more 29 = .ok (.aload_n 0, 1) := by decide +kernel
theorem dX9_more_30 : decode cX9_more 30 = .ok (.dup, 1) := by decide +kernel
theorem dX9_more_31 : decode cX9_more 31 = .ok (.getfield 31, 3) := by decide +kernel
theorem dX9_more_34 : decode cX9_more 34 = .ok (.iconst 1, 1) := by decide +kernel
theorem dX9_more_35 : decode cX9_more 35 = .ok (.isub, 1) := by decide +kernel
theorem dX9_more_36 : decode cX9_more 36 = .ok (.putfield 31, 3) := by decide +kernel
theorem dX9_more_39 : decode cX9_more 39 = .ok (.goto 163, 3) := by decide +kernel
theorem dX9_more_42 : decode cX9_more 42 = .ok (.aload_n 0, 1) := by decide +kernel
theorem dX9_more_43 : decode cX9_more 43 = .ok (.getfield 17, 3) := by decide +kernel
theorem dX9_more_46 : decode cX9_more 46 = .ok (.aload_n 0, 1) := by decide +kernel
theorem dX9_more_47 : decode cX9_more 47 = .ok (.getfield 31, 3) := by decide +kernel
theorem dX9_more_50 : decode cX9_more 50 = .ok (.iaload, 1) := by decide +kernel
theorem dX9_more_51 : decode cX9_more 51 = .ok (.iconst 1, 1) := by decide +kernel
theorem dX9_more_52 : decode cX9_more 52 = .ok (.isub, 1) := by decide +kernel
theorem dX9_more_53 : decode cX9_more 53 = .ok (.aload_n 0, 1) := by decide +kernel
theorem dX9_more_54 : decode cX9_more 54 = .ok (.getfield 23, 3) := by decide +kernel
theorem dX9_more_57 : decode cX9_more 57 = .ok (.getfield 36, 3) := by decide +kernel
theorem dX9_more_60 : decode cX9_more 60 = .ok (.aload_n 0, 1) := by decide +kernel
theorem dX9_more_61 : decode cX9_more 61 = .ok (.getfield 13, 3) := by decide +kernel
theorem dX9_more_64 : decode cX9_more 64 = .ok (.aload_n 0, 1) := by decide +kernel
theorem dX9_more_65 : decode cX9_more 65 = .ok (.getfield 31, 3) := by decide +kernel
theorem dX9_more_68 : decode cX9_more 68 = .ok (.iaload, 1) := by decide +kernel
theorem dX9_more_69 : decode cX9_more 69 = .ok (.iaload, 1) := by decide +kernel
theorem dX9_more_70 : decode cX9_more 70 = .ok (.isub, 1) := by decide +kernel
theorem dX9_more_71 : decode cX9_more 71 = .ok (.istore_n 2, 1) := by decide +kernel
theorem dX9_more_72 : decode cX9_more 72 = .ok (.aload_n 0, 1) := by decide +kernel
theorem dX9_more_73 : decode cX9_more 73 = .ok (.getfield 23, 3) := by decide +kernel
theorem dX9_more_76 : decode cX9_more 76 = .ok (.getfield 36, 3) := by decide +kernel
theorem dX9_more_79 : decode cX9_more 79 = .ok (.aload_n 0, 1) := by decide +kernel
theorem dX9_more_80 : decode cX9_more 80 = .ok (.getfield 13, 3) := by decide +kernel
theorem dX9_more_83 : decode cX9_more 83 = .ok (.aload_n 0, 1) := by decide +kernel
theorem dX9_more_84 : decode cX9_more 84 = .ok (.getfield 31, 3) := by decide +kernel
theorem dX9_more_87 : decode cX9_more 87 = .ok (.iaload, 1) := by decide +kernel
theorem dX9_more_88 : decode cX9_more 88 = .ok (.iaload, 1) := by decide +kernel
theorem dX9_more_89 : decode cX9_more 89 = .ok (.ifCond .ge 15, 3) := by decide +kernel
theorem dX9_more_92 : decode cX9_more 92 = .ok (.aload_n 0, 1) := by decide +kernel
theorem dX9_more_93 : decode cX9_more 93 = .ok (.getfield 27, 3) := by decide +kernel
theorem dX9_more_96 : decode cX9_more 96 = .ok (.getfield 41, 3) := by decide +kernel
theorem dX9_more_99 : decode cX9_more 99 = .ok (.iload_n 2, 1) := by decide +kernel
theorem dX9_more_100 : decode cX9_more 100 = .ok (.iaload, 1) := by decide +kernel
theorem dX9_more_101 : decode cX9_more 101 = .ok (.ifCond .ge 5, 3) := by decide +kernel
theorem dX9_more_104 : decode cX9_more 104 = .ok (.iconst 1, 1) := by decide +kernel
theorem dX9_more_105 : decode cX9_more 105 = .ok (.ireturn, 1) := by decide +kernel
theorem dX9_more_106 : decode cX9_more 106 = .ok (.aload_n 0, 1) := by decide +kernel
theorem dX9_more_107 : decode cX9_more 107 = .ok (.getfield 13, 3) := by decide +kernel
theorem dX9_more_110 : decode cX9_more 110 = .ok (.aload_n 0, 1) := by decide +kernel
theorem dX9_more_111 : decode cX9_more 111 = .ok (.getfield 31, 3) := by decide +kernel
theorem dX9_more_114 : decode cX9_more 114 = .ok (.dup2, 1) := by decide +kernel
theorem dX9_more_115 : decode cX9_more 115 = .ok (.iaload, 1) := by decide +kernel
theorem dX9_more_116 : decode cX9_more 116 = .ok (.iconst 1, 1) := by decide +kernel
theorem dX9_more_117 : decode cX9_more 117 = .ok (.iadd, 1) := by decide +kernel
theorem dX9_more_118 : decode cX9_more 118 = .ok (.iastore, 1) := by decide +kernel
theorem dX9_more_119 : decode cX9_more 119 = .ok (.aload_n 0, 1) := by decide +kernel
theorem dX9_more_120 : decode cX9_more 120 = .ok (.getfield 20, 3) := by decide +kernel
theorem dX9_more_123 : decode cX9_more 123 = .ok (.aload_n 0, 1) := by decide +kernel
theorem dX9_more_124 : decode cX9_more 124 = .ok (.getfield 31, 3) := by decide +kernel
theorem dX9_more_127 : decode cX9_more 127 = .ok (.dup2, 1) := by decide +kernel
theorem dX9_more_128 : decode cX9_more 128 = .ok (.iaload, 1) := by decide +kernel
theorem dX9_more_129 : decode cX9_more 129 = .ok (.iconst 1, 1) := by decide +kernel
theorem dX9_more_130 : decode cX9_more 130 = .ok (.isub, 1) := by decide +kernel
theorem dX9_more_131 : decode cX9_more 131 = .ok (.iastore, 1) := by decide +kernel
theorem dX9_more_132 : decode cX9_more 132 = .ok (.aload_n 0, 1) := by decide +kernel
theorem dX9_more_133 : decode cX9_more 133 = .ok (.getfield 31, 3) := by decide +kernel
theorem dX9_more_136 : decode cX9_more 136 = .ok (.iconst 1, 1) := by decide +kernel
theorem dX9_more_137 : decode cX9_more 137 = .ok (.iadd, 1) := by decide +kernel
theorem dX9_more_138 : decode cX9_more 138 = .ok (.sipush 222, 3) := by decide +kernel
theorem dX9_more_141 : decode cX9_more 141 = .ok (.if_icmp .lt 5, 3) := by decide +kernel
theorem dX9_more_144 : decode cX9_more 144 = .ok (.iconst 0, 1) := by decide +kernel
theorem dX9_more_145 : decode cX9_more 145 = .ok (.ireturn, 1) := by decide +kernel
theorem dX9_more_146 : decode cX9_more 146 = .ok (.aload_n 0, 1) := by decide +kernel
theorem dX9_more_147 : decode cX9_more 147 = .ok (.dup, 1) := by decide +kernel
theorem dX9_more_148 : decode cX9_more 148 = .ok (.getfield 31, 3) := by decide +kernel
theorem dX9_more_151 : decode cX9_more 151 = .ok (.iconst 1, 1) := by decide +kernel
theorem dX9_more_152 : decode cX9_more 152 = .ok (.iadd, 1) := by decide +kernel
theorem dX9_more_153 : decode cX9_more 153 = .ok (.putfield 31, 3) := by decide +kernel
theorem dX9_more_156 : decode cX9_more 156 = .ok (.aload_n 0, 1) := by decide +kernel
theorem dX9_more_157 : decode cX9_more 157 = .ok (.getfield 13, 3) := by decide +kernel
theorem dX9_more_160 : decode cX9_more 160 = .ok (.aload_n 0, 1) := by decide +kernel
theorem dX9_more_161 : decode cX9_more 161 = .ok (.getfield 31, 3) := by decide +kernel
theorem dX9_more_164 : decode cX9_more 164 = .ok (.aload_n 0, 1) := by decide +kernel
theorem dX9_more_165 : decode cX9_more 165 = .ok (.getfield 27, 3) := by decide +kernel
theorem dX9_more_168 : decode cX9_more 168 = .ok (.getfield 41, 3) := by decide +kernel
theorem dX9_more_171 : decode cX9_more 171 = .ok (.iload_n 2, 1) := by decide +kernel
theorem dX9_more_172 : decode cX9_more 172 = .ok (.iaload, 1) := by decide +kernel
theorem dX9_more_173 : decode cX9_more 173 = .ok (.iastore, 1) := by decide +kernel
theorem dX9_more_174 : decode cX9_more 174 = .ok (.aload_n 0, 1) := by decide +kernel
theorem dX9_more_175 : decode cX9_more 175 = .ok (.getfield 17, 3) := by decide +kernel
theorem dX9_more_178 : decode cX9_more 178 = .ok (.aload_n 0, 1) := by decide +kernel
theorem dX9_more_179 : decode cX9_more 179 = .ok (.getfield 31, 3) := by decide +kernel
theorem dX9_more_182 : decode cX9_more 182 = .ok (.aload_n 0, 1) := by decide +kernel
theorem dX9_more_183 : decode cX9_more 183 = .ok (.getfield 27, 3) := by decide +kernel
theorem dX9_more_186 : decode cX9_more 186 = .ok (.getfield 44, 3) := by decide +kernel
theorem dX9_more_189 : decode cX9_more 189 = .ok (.iload_n 2, 1) := by decide +kernel
theorem dX9_more_190 : decode cX9_more 190 = .ok (.iaload, 1) := by decide +kernel
theorem dX9_more_191 : decode cX9_more 191 = .ok (.iastore, 1) := by decide +kernel
theorem dX9_more_192 : decode cX9_more 192 = .ok (.aload_n 0, 1) := by decide +kernel
theorem dX9_more_193 : decode cX9_more 193 = .ok (.getfield 20, 3) := by decide +kernel
theorem dX9_more_196 : decode cX9_more 196 = .ok (.aload_n 0, 1) := by decide +kernel
theorem dX9_more_197 : decode cX9_more 197 = .ok (.getfield 31, 3) := by decide +kernel
theorem dX9_more_200 : decode cX9_more 200 = .ok (.iconst 1, 1) := by decide +kernel
theorem dX9_more_201 : decode cX9_more 201 = .ok (.iastore, 1) := by decide +kernel
theorem dX9_more_202 : decode cX9_more 202 = .ok (.iinc 1 1, 3) := by decide +kernel
theorem dX9_more_205 : decode cX9_more 205 = .ok (.goto (-203), 3) := by decide +kernel
theorem dX9_more_208 : decode cX9_more 208 = .ok (.iconst 0, 1) := by decide +kernel
theorem dX9_more_209 : decode cX9_more 209 = .ok (.ireturn, 1) := by decide +kernel
theorem dX9_cell_0 : decode cX9_cell 0 = .ok (.aload_n 0, 1) := by decide +kernel
theorem dX9_cell_1 : decode cX9_cell 1 = .ok (.getfield 13, 3) := by decide +kernel
theorem dX9_cell_4 : decode cX9_cell 4 = .ok (.aload_n 0, 1) := by decide +kernel
theorem dX9_cell_5 : decode cX9_cell 5 = .ok (.getfield 31, 3) := by decide +kernel
theorem dX9_cell_8 : decode cX9_cell 8 = .ok (.iaload, 1) := by decide +kernel
theorem dX9_cell_9 : decode cX9_cell 9 = .ok (.ireturn, 1) := by decide +kernel
theorem dX9_cellBase_0 : decode cX9_cellBase 0 = .ok (.aload_n 0, 1) := by decide +kernel
theorem dX9_cellBase_1 : decode cX9_cellBase 1 = .ok (.getfield 17, 3) := by decide +kernel
theorem dX9_cellBase_4 : decode cX9_cellBase 4 = .ok (.aload_n 0, 1) := by decide +kernel
theorem dX9_cellBase_5 : decode cX9_cellBase 5 = .ok (.getfield 31, 3) := by decide +kernel
theorem dX9_cellBase_8 : decode cX9_cellBase 8 = .ok (.iaload, 1) := by decide +kernel
theorem dX9_cellBase_9 : decode cX9_cellBase 9 = .ok (.ireturn, 1) := by decide +kernel
theorem dX9_symbol_0 : decode cX9_symbol 0 = .ok (.aload_n 0, 1) := by decide +kernel
theorem dX9_symbol_1 : decode cX9_symbol 1 = .ok (.getfield 23, 3) := by decide +kernel
theorem dX9_symbol_4 : decode cX9_symbol 4 = .ok (.getfield 36, 3) := by decide +kernel
theorem dX9_symbol_7 : decode cX9_symbol 7 = .ok (.aload_n 0, 1) := by decide +kernel
theorem dX9_symbol_8 : decode cX9_symbol 8 = .ok (.getfield 13, 3) := by decide +kernel
theorem dX9_symbol_11 : decode cX9_symbol 11 = .ok (.aload_n 0, 1) := by decide +kernel
theorem dX9_symbol_12 : decode cX9_symbol 12 = .ok (.getfield 31, 3) := by decide +kernel
theorem dX9_symbol_15 : decode cX9_symbol 15 = .ok (.iaload, 1) := by decide +kernel
theorem dX9_symbol_16 : decode cX9_symbol 16 = .ok (.iaload, 1) := by decide +kernel
theorem dX9_symbol_17 : decode cX9_symbol 17 = .ok (.ireturn, 1) := by decide +kernel
theorem dX9_variable_0 : decode cX9_variable 0 = .ok (.aload_n 0, 1) := by decide +kernel
theorem dX9_variable_1 : decode cX9_variable 1 = .ok (.getfield 23, 3) := by decide +kernel
theorem dX9_variable_4 : decode cX9_variable 4 = .ok (.getfield 36, 3) := by decide +kernel
theorem dX9_variable_7 : decode cX9_variable 7 = .ok (.aload_n 0, 1) := by decide +kernel
theorem dX9_variable_8 : decode cX9_variable 8 = .ok (.getfield 13, 3) := by decide +kernel
theorem dX9_variable_11 : decode cX9_variable 11 = .ok (.aload_n 0, 1) := by decide +kernel
theorem dX9_variable_12 : decode cX9_variable 12 = .ok (.getfield 31, 3) := by decide +kernel
theorem dX9_variable_15 : decode cX9_variable 15 = .ok (.iaload, 1) := by decide +kernel
theorem dX9_variable_16 : decode cX9_variable 16 = .ok (.iaload, 1) := by decide +kernel
theorem dX9_variable_17 : decode cX9_variable 17 = .ok (.istore_n 1, 1) := by decide +kernel
theorem dX9_variable_18 : decode cX9_variable 18 = .ok (.iload_n 1, 1) := by decide +kernel
theorem dX9_variable_19 : decode cX9_variable 19 = .ok (.ifCond .ge 19, 3) := by decide +kernel
theorem dX9_variable_22 : decode cX9_variable 22 = .ok (.aload_n 0, 1) := by decide +kernel
theorem dX9_variable_23 : decode cX9_variable 23 = .ok (.getfield 17, 3) := by decide +kernel
theorem dX9_variable_26 : decode cX9_variable 26 = .ok (.aload_n 0, 1) := by decide +kernel
theorem dX9_variable_27 : decode cX9_variable 27 = .ok (.getfield 31, 3) := by decide +kernel
theorem dX9_variable_30 : decode cX9_variable 30 = .ok (.iaload, 1) := by decide +kernel
theorem dX9_variable_31 : decode cX9_variable 31 = .ok (.iconst 1, 1) := by decide +kernel
theorem dX9_variable_32 : decode cX9_variable 32 = .ok (.isub, 1) := by decide +kernel
theorem dX9_variable_33 : decode cX9_variable 33 = .ok (.iload_n 1, 1) := by decide +kernel
theorem dX9_variable_34 : decode cX9_variable 34 = .ok (.isub, 1) := by decide +kernel
theorem dX9_variable_35 : decode cX9_variable 35 = .ok (.goto 4, 3) := by decide +kernel
theorem dX9_variable_38 : decode cX9_variable 38 = .ok (.iconst (-1), 1) := by decide +kernel
theorem dX9_variable_39 : decode cX9_variable 39 = .ok (.ireturn, 1) := by decide +kernel
theorem dX9_enter_0 : decode cX9_enter 0 = .ok (.aload_n 0, 1) := by decide +kernel
theorem dX9_enter_1 : decode cX9_enter 1 = .ok (.getfield 23, 3) := by decide +kernel
theorem dX9_enter_4 : decode cX9_enter 4 = .ok (.getfield 36, 3) := by decide +kernel
theorem dX9_enter_7 : decode cX9_enter 7 = .ok (.aload_n 0, 1) := by decide +kernel
theorem dX9_enter_8 : decode cX9_enter 8 = .ok (.getfield 13, 3) := by decide +kernel
theorem dX9_enter_11 : decode cX9_enter 11 = .ok (.aload_n 0, 1) := by decide +kernel
theorem dX9_enter_12 : decode cX9_enter 12 = .ok (.getfield 31, 3) := by decide +kernel
theorem dX9_enter_15 : decode cX9_enter 15 = .ok (.iaload, 1) := by decide +kernel
theorem dX9_enter_16 : decode cX9_enter 16 = .ok (.iaload, 1) := by decide +kernel
theorem dX9_enter_17 : decode cX9_enter 17 = .ok (.istore_n 1, 1) := by decide +kernel
theorem dX9_enter_18 : decode cX9_enter 18 = .ok (.aload_n 0, 1) := by decide +kernel
theorem dX9_enter_19 : decode cX9_enter 19 = .ok (.getfield 13, 3) := by decide +kernel
theorem dX9_enter_22 : decode cX9_enter 22 = .ok (.aload_n 0, 1) := by decide +kernel
theorem dX9_enter_23 : decode cX9_enter 23 = .ok (.getfield 31, 3) := by decide +kernel
theorem dX9_enter_26 : decode cX9_enter 26 = .ok (.dup2, 1) := by decide +kernel
theorem dX9_enter_27 : decode cX9_enter 27 = .ok (.iaload, 1) := by decide +kernel
theorem dX9_enter_28 : decode cX9_enter 28 = .ok (.iconst 1, 1) := by decide +kernel
theorem dX9_enter_29 : decode cX9_enter 29 = .ok (.iadd, 1) := by decide +kernel
theorem dX9_enter_30 : decode cX9_enter 30 = .ok (.iastore, 1) := by decide +kernel
theorem dX9_enter_31 : decode cX9_enter 31 = .ok (.aload_n 0, 1) := by decide +kernel
theorem dX9_enter_32 : decode cX9_enter 32 = .ok (.getfield 20, 3) := by decide +kernel
theorem dX9_enter_35 : decode cX9_enter 35 = .ok (.aload_n 0, 1) := by decide +kernel
theorem dX9_enter_36 : decode cX9_enter 36 = .ok (.getfield 31, 3) := by decide +kernel
theorem dX9_enter_39 : decode cX9_enter 39 = .ok (.dup2, 1) := by decide +kernel
theorem dX9_enter_40 : decode cX9_enter 40 = .ok (.iaload, 1) := by decide +kernel
theorem dX9_enter_41 : decode cX9_enter 41 = .ok (.iload_n 1, 1) := by decide +kernel
theorem dX9_enter_42 : decode cX9_enter 42 = .ok (.ifCond .ge 7, 3) := by decide +kernel
theorem dX9_enter_45 : decode cX9_enter 45 = .ok (.iconst 0, 1) := by decide +kernel
theorem dX9_enter_46 : decode cX9_enter 46 = .ok (.goto 7, 3) := by decide +kernel
theorem dX9_enter_49 : decode cX9_enter 49 = .ok (.iload_n 1, 1) := by decide +kernel
theorem dX9_enter_50 : decode cX9_enter 50 = .ok (.bipush 7, 2) := by decide +kernel
theorem dX9_enter_52 : decode cX9_enter 52 = .ok (.iand, 1) := by decide +kernel
theorem dX9_enter_53 : decode cX9_enter 53 = .ok (.iconst 1, 1) := by decide +kernel
theorem dX9_enter_54 : decode cX9_enter 54 = .ok (.isub, 1) := by decide +kernel
theorem dX9_enter_55 : decode cX9_enter 55 = .ok (.iadd, 1) := by decide +kernel
theorem dX9_enter_56 : decode cX9_enter 56 = .ok (.iastore, 1) := by decide +kernel
theorem dX9_enter_57 : decode cX9_enter 57 = .ok (.return_, 1) := by decide +kernel
theorem dX9_skip_0 : decode cX9_skip 0 = .ok (.aload_n 0, 1) := by decide +kernel
theorem dX9_skip_1 : decode cX9_skip 1 = .ok (.getfield 20, 3) := by decide +kernel
theorem dX9_skip_4 : decode cX9_skip 4 = .ok (.aload_n 0, 1) := by decide +kernel
theorem dX9_skip_5 : decode cX9_skip 5 = .ok (.getfield 31, 3) := by decide +kernel
theorem dX9_skip_8 : decode cX9_skip 8 = .ok (.iaload, 1) := by decide +kernel
theorem dX9_skip_9 : decode cX9_skip 9 = .ok (.iconst 1, 1) := by decide +kernel
theorem dX9_skip_10 : decode cX9_skip 10 = .ok (.isub, 1) := by decide +kernel
theorem dX9_skip_11 : decode cX9_skip 11 = .ok (.istore_n 1, 1) := by decide +kernel
theorem dX9_skip_12 : decode cX9_skip 12 = .ok (.iconst 0, 1) := by decide +kernel
theorem dX9_skip_13 : decode cX9_skip 13 = .ok (.istore_n 2, 1) := by decide +kernel
theorem dX9_skip_14 : decode cX9_skip 14 = .ok (.iload_n 2, 1) := by decide +kernel
theorem dX9_skip_15 : decode cX9_skip 15 = .ok (.sipush 200, 3) := by decide +kernel
theorem dX9_skip_18 : decode cX9_skip 18 = .ok (.if_icmp .ge 26, 3) := by decide +kernel
theorem dX9_skip_21 : decode cX9_skip 21 = .ok (.aload_n 0, 1) := by decide +kernel
theorem dX9_skip_22 : decode cX9_skip 22 = .ok (.getfield 20, 3) := by decide +kernel
theorem dX9_skip_25 : decode cX9_skip 25 = .ok (.aload_n 0, 1) := by decide +kernel
theorem dX9_skip_26 : decode cX9_skip 26 = .ok (.getfield 31, 3) := by decide +kernel
theorem dX9_skip_29 : decode cX9_skip 29 = .ok (.iaload, 1) := by decide +kernel
theorem dX9_skip_30 : decode cX9_skip 30 = .ok (.iload_n 1, 1) := by decide +kernel
theorem dX9_skip_31 : decode cX9_skip 31 = .ok (.if_icmp .le 13, 3) := by decide +kernel
theorem dX9_skip_34 : decode cX9_skip 34 = .ok (.aload_n 0, 1) := by decide +kernel
theorem dX9_skip_35 : decode cX9_skip 35 = .ok (.invokevirtual 47, 3) := by decide +kernel
theorem dX9_skip_38 : decode cX9_skip 38 = .ok (.iinc 2 1, 3) := by decide +kernel
theorem dX9_skip_41 : decode cX9_skip 41 = .ok (.goto (-27), 3) := by decide +kernel
theorem dX9_skip_44 : decode cX9_skip 44 = .ok (.return_, 1) := by decide +kernel
theorem dX10_init_0 : decode cX10_init 0 = .ok (.aload_n 0, 1) := by decide +kernel
theorem dX10_init_1 : decode cX10_init 1 = .ok (.invokespecial 1, 3) := by decide +kernel
theorem dX10_init_4 : decode cX10_init 4 = .ok (.aload_n 0, 1) := by decide +kernel
theorem dX10_init_5 : decode cX10_init 5 = .ok (.sipush 18000, 3) := by decide +kernel
theorem dX10_init_8 : decode cX10_init 8 = .ok (.newarray .int, 2) := by decide +kernel
theorem dX10_init_10 : decode cX10_init 10 = .ok (.putfield 9, 3) := by decide +kernel
theorem dX10_init_13 : decode cX10_init 13 = .ok (.aload_n 0, 1) := by decide +kernel
theorem dX10_init_14 : decode cX10_init 14 = .ok (.sipush 601, 3) := by decide +kernel
theorem dX10_init_17 : decode cX10_init 17 = .ok (.newarray .int, 2) := by decide +kernel
theorem dX10_init_19 : decode cX10_init 19 = .ok (.putfield 13, 3) := by decide +kernel
theorem dX10_init_22 : decode cX10_init 22 = .ok (.aload_n 0, 1) := by decide +kernel
theorem dX10_init_23 : decode cX10_init 23 = .ok (.sipush 600, 3) := by decide +kernel
theorem dX10_init_26 : decode cX10_init 26 = .ok (.newarray .boolean, 2) := by decide +kernel
theorem dX10_init_28 : decode cX10_init 28 = .ok (.putfield 16, 3) := by decide +kernel
theorem dX10_init_31 : decode cX10_init 31 = .ok (.aload_n 0, 1) := by decide +kernel
theorem dX10_init_32 : decode cX10_init 32 = .ok (.sipush 6000, 3) := by decide +kernel
theorem dX10_init_35 : decode cX10_init 35 = .ok (.newarray .int, 2) := by decide +kernel
theorem dX10_init_37 : decode cX10_init 37 = .ok (.putfield 20, 3) := by decide +kernel
theorem dX10_init_40 : decode cX10_init 40 = .ok (.aload_n 0, 1) := by decide +kernel
theorem dX10_init_41 : decode cX10_init 41 = .ok (.sipush 601, 3) := by decide +kernel
theorem dX10_init_44 : decode cX10_init 44 = .ok (.newarray .int, 2) := by decide +kernel
theorem dX10_init_46 : decode cX10_init 46 = .ok (.putfield 23, 3) := by decide +kernel
theorem dX10_init_49 : decode cX10_init 49 = .ok (.aload_n 0, 1) := by decide +kernel
theorem dX10_init_50 : decode cX10_init 50 = .ok (.sipush 400, 3) := by decide +kernel
theorem dX10_init_53 : decode cX10_init 53 = .ok (.newarray .int, 2) := by decide +kernel
theorem dX10_init_55 : decode cX10_init 55 = .ok (.putfield 26, 3) := by decide +kernel
theorem dX10_init_58 : decode cX10_init 58 = .ok (.aload_n 0, 1) := by decide +kernel
theorem dX10_init_59 : decode cX10_init 59 = .ok (.sipush 400, 3) := by decide +kernel
theorem dX10_init_62 : decode cX10_init 62 = .ok (.newarray .int, 2) := by decide +kernel
theorem dX10_init_64 : decode cX10_init 64 = .ok (.putfield 29, 3) := by decide +kernel
theorem dX10_init_67 : decode cX10_init 67 = .ok (.aload_n 0, 1) := by decide +kernel
theorem dX10_init_68 : decode cX10_init 68 = .ok (.bipush 12, 2) := by decide +kernel
theorem dX10_init_70 : decode cX10_init 70 = .ok (.newarray .int, 2) := by decide +kernel
theorem dX10_init_72 : decode cX10_init 72 = .ok (.putfield 34, 3) := by decide +kernel
theorem dX10_init_75 : decode cX10_init 75 = .ok (.aload_n 0, 1) := by decide +kernel
theorem dX10_init_76 : decode cX10_init 76 = .ok (.bipush 10, 2) := by decide +kernel
theorem dX10_init_78 : decode cX10_init 78 = .ok (.newarray .int, 2) := by decide +kernel
theorem dX10_init_80 : decode cX10_init 80 = .ok (.putfield 37, 3) := by decide +kernel
theorem dX10_init_83 : decode cX10_init 83 = .ok (.return_, 1) := by decide +kernel
theorem dX10_begin_0 : decode cX10_begin 0 = .ok (.aload_n 0, 1) := by decide +kernel
theorem dX10_begin_1 : decode cX10_begin 1 = .ok (.iconst 0, 1) := by decide +kernel
theorem dX10_begin_2 : decode cX10_begin 2 = .ok (.putfield 40, 3) := by decide +kernel
theorem dX10_begin_5 : decode cX10_begin 5 = .ok (.aload_n 0, 1) := by decide +kernel
theorem dX10_begin_6 : decode cX10_begin 6 = .ok (.iconst 0, 1) := by decide +kernel
theorem dX10_begin_7 : decode cX10_begin 7 = .ok (.putfield 44, 3) := by decide +kernel
theorem dX10_begin_10 : decode cX10_begin 10 = .ok (.aload_n 0, 1) := by decide +kernel
theorem dX10_begin_11 : decode cX10_begin 11 = .ok (.iconst 0, 1) := by decide +kernel
theorem dX10_begin_12 : decode cX10_begin 12 = .ok (.putfield 47, 3) := by decide +kernel
theorem dX10_begin_15 : decode cX10_begin 15 = .ok (.aload_n 0, 1) := by decide +kernel
theorem dX10_begin_16 : decode cX10_begin 16 = .ok (.iconst 0, 1) := by decide +kernel
theorem dX10_begin_17 : decode cX10_begin 17 = .ok (.putfield 50, 3) := by decide +kernel
theorem dX10_begin_20 : decode cX10_begin 20 = .ok (.aload_n 0, 1) := by decide +kernel
theorem dX10_begin_21 : decode cX10_begin 21 = .ok (.iconst 0, 1) := by decide +kernel
theorem dX10_begin_22 : decode cX10_begin 22 = .ok (.putfield 53, 3) := by decide +kernel
theorem dX10_begin_25 : decode cX10_begin 25 = .ok (.return_, 1) := by decide +kernel
theorem dX10_beginLiteral_0 : decode cX10_beginLiteral 0 = .ok (.aload_n 0, 1) := by decide +kernel
theorem dX10_beginLiteral_1 : decode cX10_beginLiteral 1 = .ok (.getfield 44, 3) := by decide +kernel
theorem dX10_beginLiteral_4 : decode cX10_beginLiteral 4 = .ok (.sipush 600, 3) := by decide +kernel
theorem dX10_beginLiteral_7 : decode cX10_beginLiteral 7 = .ok (.if_icmp .lt 5, 3) := by decide +kernel
theorem dX10_beginLiteral_10 : decode cX10_beginLiteral 10 = .ok (.iconst 0, 1) := by decide +kernel
theorem dX10_beginLiteral_11 : decode cX10_beginLiteral 11 = .ok (.ireturn, 1) := by decide +kernel
theorem dX10_beginLiteral_12 : decode cX10_beginLiteral 12 = .ok (.aload_n 0, 1) := by decide +kernel
theorem dX10_beginLiteral_13 : decode cX10_beginLiteral 13 = .ok (.getfield 16, 3) := by decide +kernel
theorem dX10_beginLiteral_16 : decode cX10_beginLiteral 16 = .ok (.aload_n 0, 1) := by decide +kernel
theorem dX10_beginLiteral_17 : decode cX10_beginLiteral 17 = .ok (.getfield 44, 3) := by decide +kernel
theorem dX10_beginLiteral_20 : decode cX10_beginLiteral 20 = .ok (.iload_n 1, 1) := by decide +kernel
theorem dX10_beginLiteral_21 : decode cX10_beginLiteral 21 = .ok (.bastore, 1) := by decide +kernel
theorem dX10_beginLiteral_22 : decode cX10_beginLiteral 22 = .ok (.iconst 1, 1) := by decide +kernel
theorem dX10_beginLiteral_23 : decode cX10_beginLiteral 23 = .ok (.ireturn, 1) := by decide +kernel
theorem dX10_addCell_0 : decode cX10_addCell 0 = .ok (.aload_n 0, 1) := by decide +kernel
theorem dX10_addCell_1 : decode cX10_addCell 1 = .ok (.getfield 40, 3) := by decide +kernel
theorem dX10_addCell_4 : decode cX10_addCell 4 = .ok (.sipush 18000, 3) := by decide +kernel
theorem dX10_addCell_7 : decode cX10_addCell 7 = .ok (.if_icmp .ge 23, 3) := by decide +kernel
theorem dX10_addCell_10 : decode cX10_addCell 10 = .ok (.aload_n 0, 1) := by decide +kernel
theorem dX10_addCell_11 : decode cX10_addCell 11 = .ok (.getfield 9, 3) := by decide +kernel
theorem dX10_addCell_14 : decode cX10_addCell 14 = .ok (.aload_n 0, 1) := by decide +kernel
theorem dX10_addCell_15 : decode cX10_addCell 15 = .ok (.getfield 40, 3) := by decide +kernel
theorem dX10_addCell_18 : decode cX10_addCell 18 = .ok (.iload_n 1, 1) := by decide +kernel
theorem dX10_addCell_19 : decode cX10_addCell 19 = .ok (.iastore, 1) := by decide +kernel
theorem dX10_addCell_20 : decode cX10_addCell 20 = .ok (.aload_n 0, 1) := by decide +kernel
theorem dX10_addCell_21 : decode cX10_addCell 21 = .ok (.dup, 1) := by decide +kernel
theorem dX10_addCell_22 : decode cX10_addCell 22 = .ok (.getfield 40, 3) := by decide +kernel
theorem dX10_addCell_25 : decode cX10_addCell 25 = .ok (.iconst 1, 1) := by decide +kernel
theorem dX10_addCell_26 : decode cX10_addCell 26 = .ok (.iadd, 1) := by decide +kernel
theorem dX10_addCell_27 : decode cX10_addCell 27 = .ok (.putfield 40, 3) := by decide +kernel
theorem dX10_addCell_30 : decode cX10_addCell 30 = .ok (.return_, 1) := by decide +kernel
theorem dX10_endLiteral_0 : decode cX10_endLiteral 0 = .ok (.aload_n 0, 1) := by decide +kernel
theorem dX10_endLiteral_1 : decode cX10_endLiteral 1 = .ok (.dup, 1) := by decide +kernel
theorem dX10_endLiteral_2 : decode cX10_endLiteral 2 = .ok (.getfield 44, 3) := by decide +kernel
theorem dX10_endLiteral_5 : decode cX10_endLiteral 5 = .ok (.iconst 1, 1) := by decide +kernel
theorem dX10_endLiteral_6 : decode cX10_endLiteral 6 = .ok (.iadd, 1) := by decide +kernel
theorem dX10_endLiteral_7 : decode cX10_endLiteral 7 = .ok (.putfield 44, 3) := by decide +kernel
theorem dX10_endLiteral_10 : decode cX10_endLiteral 10 = .ok (.aload_n 0, 1) := by decide +kernel
theorem dX10_endLiteral_11 : decode cX10_endLiteral 11 = .ok (.getfield 13, 3) := by decide +kernel
theorem dX10_endLiteral_14 : decode cX10_endLiteral 14 = .ok (.aload_n 0, 1) := by decide +kernel
theorem dX10_endLiteral_15 : decode cX10_endLiteral 15 = .ok (.getfield 44, 3) := by decide +kernel
theorem dX10_endLiteral_18 : decode cX10_endLiteral 18 = .ok (.aload_n 0, 1) := by decide +kernel
theorem dX10_endLiteral_19 : decode cX10_endLiteral 19 = .ok (.getfield 40, 3) := by decide +kernel
theorem dX10_endLiteral_22 : decode cX10_endLiteral 22 = .ok (.iastore, 1) := by decide +kernel
theorem dX10_endLiteral_23 : decode cX10_endLiteral 23 = .ok (.aload_n 0, 1) := by decide +kernel
theorem dX10_endLiteral_24 : decode cX10_endLiteral 24 = .ok (.getfield 53, 3) := by decide +kernel
theorem dX10_endLiteral_27 : decode cX10_endLiteral 27 = .ok (.sipush 6000, 3) := by decide +kernel
theorem dX10_endLiteral_30 : decode cX10_endLiteral 30 = .ok (.if_icmp .lt 5, 3) := by decide +kernel
theorem dX10_endLiteral_33 : decode cX10_endLiteral 33 = .ok (.iconst 0, 1) := by decide +kernel
theorem dX10_endLiteral_34 : decode cX10_endLiteral 34 = .ok (.ireturn, 1) := by decide +kernel
theorem dX10_endLiteral_35 : decode cX10_endLiteral 35 = .ok (.aload_n 0, 1) := by decide +kernel
theorem dX10_endLiteral_36 : decode cX10_endLiteral 36 = .ok (.getfield 47, 3) := by decide +kernel
theorem dX10_endLiteral_39 : decode cX10_endLiteral 39 = .ok (.istore_n 1, 1) := by decide +kernel
theorem dX10_endLiteral_40 : decode cX10_endLiteral 40 = .ok (.aload_n 0, 1) := by decide +kernel
theorem dX10_endLiteral_41 : decode cX10_endLiteral 41 = .ok (.getfield 20, 3) := by decide +kernel
theorem dX10_endLiteral_44 : decode cX10_endLiteral 44 = .ok (.aload_n 0, 1) := by decide +kernel
theorem dX10_endLiteral_45 : decode cX10_endLiteral 45 = .ok (.getfield 53, 3) := by decide +kernel
theorem dX10_endLiteral_48 : decode cX10_endLiteral 48 = .ok (.aload_n 0, 1) := by decide +kernel
theorem dX10_endLiteral_49 : decode cX10_endLiteral 49 = .ok (.getfield 44, 3) := by decide +kernel
theorem dX10_endLiteral_52 : decode cX10_endLiteral 52 = .ok (.iconst 1, 1) := by decide +kernel
theorem dX10_endLiteral_53 : decode cX10_endLiteral 53 = .ok (.isub, 1) := by decide +kernel
theorem dX10_endLiteral_54 : decode cX10_endLiteral 54 = .ok (.iastore, 1) := by decide +kernel
theorem dX10_endLiteral_55 : decode cX10_endLiteral 55 = .ok (.aload_n 0, 1) := by decide +kernel
theorem dX10_endLiteral_56 : decode cX10_endLiteral 56 = .ok (.dup, 1) := by decide +kernel
theorem dX10_endLiteral_57 : decode cX10_endLiteral 57 = .ok (.getfield 53, 3) := by decide +kernel
theorem dX10_endLiteral_60 : decode cX10_endLiteral 60 = .ok (.iconst 1, 1) := by decide +kernel
theorem dX10_endLiteral_61 : decode cX10_endLiteral 61 = .ok (.iadd, 1) := by decide +kernel
theorem dX10_endLiteral_62 : decode cX10_endLiteral 62 = .ok (.putfield 53, 3) := by decide +kernel
theorem dX10_endLiteral_65 : decode cX10_endLiteral 65 = .ok (.aload_n 0, 1) := by decide +kernel
theorem dX10_endLiteral_66 : decode cX10_endLiteral 66 = .ok (.invokevirtual 56, 3) := by decide +kernel
theorem dX10_endLiteral_69 : decode cX10_endLiteral 69 = .ok (.ifCond .eq 15, 3) := by decide +kernel
theorem dX10_endLiteral_72 : decode cX10_endLiteral 72 = .ok (.aload_n 0, 1) := by decide +kernel
theorem dX10_endLiteral_73 : decode cX10_endLiteral 73 = .ok (.iload_n 1, 1) := by decide +kernel
theorem dX10_endLiteral_74 : decode cX10_endLiteral 74 = .ok (.invokevirtual 60, 3) := by decide +kernel
theorem dX10_endLiteral_77 : decode cX10_endLiteral 77 = .ok (.ifCond .eq 7, 3) := by decide +kernel
theorem dX10_endLiteral_80 : decode cX10_endLiteral 80 = .ok (.iconst 1, 1) := by decide +kernel
theorem dX10_endLiteral_81 : decode cX10_endLiteral 81 = .ok (.goto 4, 3) := by decide +kernel
theorem dX10_endLiteral_84 : decode cX10_endLiteral 84 = .ok (.iconst 0, 1) := by decide +kernel
theorem dX10_endLiteral_85 : decode cX10_endLiteral 85 = .ok (.ireturn, 1) := by decide +kernel
theorem dX10_endClause_0 : decode cX10_endClause 0 = .ok (.aload_n 0, 1) := by decide +kernel
theorem dX10_endClause_1 : decode cX10_endClause 1 = .ok (.getfield 47, 3) := by decide +kernel
theorem dX10_endClause_4 : decode cX10_endClause 4 = .ok (.sipush 600, 3) := by decide +kernel
theorem dX10_endClause_7 : decode cX10_endClause 7 = .ok (.if_icmp .lt 5, 3) := by decide +kernel
theorem dX10_endClause_10 : decode cX10_endClause 10 = .ok (.iconst 0, 1) := by decide +kernel
theorem dX10_endClause_11 : decode cX10_endClause 11 = .ok (.ireturn, 1) := by decide +kernel
theorem dX10_endClause_12 : decode cX10_endClause 12 = .ok (.aload_n 0, 1) := by decide +kernel
theorem dX10_endClause_13 : decode cX10_endClause 13 = .ok (.dup, 1) := by decide +kernel
theorem dX10_endClause_14 : decode cX10_endClause 14 = .ok (.getfield 47, 3) := by decide +kernel
theorem dX10_endClause_17 : decode cX10_endClause 17 = .ok (.iconst 1, 1) := by decide +kernel
theorem dX10_endClause_18 : decode cX10_endClause 18 = .ok (.iadd, 1) := by decide +kernel
theorem dX10_endClause_19 : decode cX10_endClause 19 = .ok (.putfield 47, 3) := by decide +kernel
theorem dX10_endClause_22 : decode cX10_endClause 22 = .ok (.aload_n 0, 1) := by decide +kernel
theorem dX10_endClause_23 : decode cX10_endClause 23 = .ok (.getfield 23, 3) := by decide +kernel
theorem dX10_endClause_26 : decode cX10_endClause 26 = .ok (.aload_n 0, 1) := by decide +kernel
theorem dX10_endClause_27 : decode cX10_endClause 27 = .ok (.getfield 47, 3) := by decide +kernel
theorem dX10_endClause_30 : decode cX10_endClause 30 = .ok (.aload_n 0, 1) := by decide +kernel
theorem dX10_endClause_31 : decode cX10_endClause 31 = .ok (.getfield 53, 3) := by decide +kernel
theorem dX10_endClause_34 : decode cX10_endClause 34 = .ok (.iastore, 1) := by decide +kernel
theorem dX10_endClause_35 : decode cX10_endClause 35 = .ok (.iconst 1, 1) := by decide +kernel
theorem dX10_endClause_36 : decode cX10_endClause 36 = .ok (.ireturn, 1) := by decide +kernel
theorem dX10_pushSet_0 : decode cX10_pushSet 0 = .ok (.aload_n 0, 1) := by decide +kernel
theorem dX10_pushSet_1 : decode cX10_pushSet 1 = .ok (.getfield 50, 3) := by decide +kernel
theorem dX10_pushSet_4 : decode cX10_pushSet 4 = .ok (.sipush 400, 3) := by decide +kernel
theorem dX10_pushSet_7 : decode cX10_pushSet 7 = .ok (.if_icmp .lt 5, 3) := by decide +kernel
theorem dX10_pushSet_10 : decode cX10_pushSet 10 = .ok (.iconst 0, 1) := by decide +kernel
theorem dX10_pushSet_11 : decode cX10_pushSet 11 = .ok (.ireturn, 1) := by decide +kernel
theorem dX10_pushSet_12 : decode cX10_pushSet 12 = .ok (.aload_n 0, 1) := by decide +kernel
theorem dX10_pushSet_13 : decode cX10_pushSet 13 = .ok (.getfield 26, 3) := by decide +kernel
theorem dX10_pushSet_16 : decode cX10_pushSet 16 = .ok (.aload_n 0, 1) := by decide +kernel
theorem dX10_pushSet_17 : decode cX10_pushSet 17 = .ok (.getfield 50, 3) := by decide +kernel
theorem dX10_pushSet_20 : decode cX10_pushSet 20 = .ok (.iload_n 1, 1) := by decide +kernel
theorem dX10_pushSet_21 : decode cX10_pushSet 21 = .ok (.iastore, 1) := by decide +kernel
theorem dX10_pushSet_22 : decode cX10_pushSet 22 = .ok (.aload_n 0, 1) := by decide +kernel
theorem dX10_pushSet_23 : decode cX10_pushSet 23 = .ok (.getfield 29, 3) := by decide +kernel
theorem dX10_pushSet_26 : decode cX10_pushSet 26 = .ok (.aload_n 0, 1) := by decide +kernel
theorem dX10_pushSet_27 : decode cX10_pushSet 27 = .ok (.getfield 50, 3) := by decide +kernel
theorem dX10_pushSet_30 : decode cX10_pushSet 30 = .ok (.aload_n 0, 1) := by decide +kernel
theorem dX10_pushSet_31 : decode cX10_pushSet 31 = .ok (.getfield 47, 3) := by decide +kernel
theorem dX10_pushSet_34 : decode cX10_pushSet 34 = .ok (.iastore, 1) := by decide +kernel
theorem dX10_pushSet_35 : decode cX10_pushSet 35 = .ok (.aload_n 0, 1) := by decide +kernel
theorem dX10_pushSet_36 : decode cX10_pushSet 36 = .ok (.dup, 1) := by decide +kernel
theorem dX10_pushSet_37 : decode cX10_pushSet 37 = .ok (.getfield 50, 3) := by decide +kernel
theorem dX10_pushSet_40 : decode cX10_pushSet 40 = .ok (.iconst 1, 1) := by decide +kernel
theorem dX10_pushSet_41 : decode cX10_pushSet 41 = .ok (.iadd, 1) := by decide +kernel
theorem dX10_pushSet_42 : decode cX10_pushSet 42 = .ok (.putfield 50, 3) := by decide +kernel
theorem dX10_pushSet_45 : decode cX10_pushSet 45 = .ok (.iconst 1, 1) := by decide +kernel
theorem dX10_pushSet_46 : decode cX10_pushSet 46 = .ok (.ireturn, 1) := by decide +kernel
theorem dX10_copyMembers_0 : decode cX10_copyMembers 0 = .ok (.aload_n 0, 1) := by decide +kernel
theorem dX10_copyMembers_1 : decode cX10_copyMembers 1 = .ok (.getfield 23, 3) := by decide +kernel
theorem dX10_copyMembers_4 : decode cX10_copyMembers 4 = .ok (.iload_n 1, 1) := by decide +kernel
theorem dX10_copyMembers_5 : decode cX10_copyMembers 5 = .ok (.iaload, 1) := by decide +kernel
theorem dX10_copyMembers_6 : decode cX10_copyMembers 6 = .ok (.istore_n 2, 1) := by decide +kernel
theorem dX10_copyMembers_7 : decode cX10_copyMembers 7 = .ok (.aload_n 0, 1) := by decide +kernel
theorem dX10_copyMembers_8 : decode cX10_copyMembers 8 = .ok (.getfield 23, 3) := by decide +kernel
theorem dX10_copyMembers_11 : decode cX10_copyMembers 11 = .ok (.iload_n 1, 1) := by decide +kernel
theorem dX10_copyMembers_12 : decode cX10_copyMembers 12 = .ok (.iconst 1, 1) := by decide +kernel
theorem dX10_copyMembers_13 : decode cX10_copyMembers 13 = .ok (.iadd, 1) := by decide +kernel
theorem dX10_copyMembers_14 : decode cX10_copyMembers 14 = .ok (.iaload, 1) := by decide +kernel
theorem dX10_copyMembers_15 : decode cX10_copyMembers 15 = .ok (.iload_n 2, 1) := by decide +kernel
theorem dX10_copyMembers_16 : decode cX10_copyMembers 16 = .ok (.isub, 1) := by decide +kernel
theorem dX10_copyMembers_17 : decode cX10_copyMembers 17 = .ok (.istore_n 3, 1) := by decide +kernel
theorem dX10_copyMembers_18 : decode cX10_copyMembers 18 = .ok (.aload_n 0, 1) := by decide +kernel
theorem dX10_copyMembers_19 : decode cX10_copyMembers 19 = .ok (.getfield 53, 3) := by decide +kernel
theorem dX10_copyMembers_22 : decode cX10_copyMembers 22 = .ok (.iload_n 3, 1) := by decide +kernel
theorem dX10_copyMembers_23 : decode cX10_copyMembers 23 = .ok (.iadd, 1) := by decide +kernel
theorem dX10_copyMembers_24 : decode cX10_copyMembers 24 = .ok (.sipush 6000, 3) := by decide +kernel
theorem dX10_copyMembers_27 : decode cX10_copyMembers 27 = .ok (.if_icmp .le 5, 3) := by decide +kernel
theorem dX10_copyMembers_30 : decode cX10_copyMembers 30 = .ok (.iconst 0, 1) := by decide +kernel
theorem dX10_copyMembers_31 : decode cX10_copyMembers 31 = .ok (.ireturn, 1) := by decide +kernel
theorem dX10_copyMembers_32 : decode cX10_copyMembers 32 = .ok (.aload_n 0, 1) := by decide +kernel
theorem dX10_copyMembers_33 : decode cX10_copyMembers 33 = .ok (.getfield 20, 3) := by decide +kernel
theorem dX10_copyMembers_36 : decode cX10_copyMembers 36 = .ok (.iload_n 2, 1) := by decide +kernel
theorem dX10_copyMembers_37 : decode cX10_copyMembers 37 = .ok (.aload_n 0, 1) := by decide +kernel
theorem dX10_copyMembers_38 : decode cX10_copyMembers 38 = .ok (.getfield 20, 3) := by decide +kernel
theorem dX10_copyMembers_41 : decode cX10_copyMembers 41 = .ok (.aload_n 0, 1) := by decide +kernel
theorem dX10_copyMembers_42 : decode cX10_copyMembers 42 = .ok (.getfield 53, 3) := by decide +kernel
theorem dX10_copyMembers_45 : decode cX10_copyMembers 45 = .ok (.iload_n 3, 1) := by decide +kernel
theorem dX10_copyMembers_46 : decode cX10_copyMembers 46 = .ok (.invokestatic 64, 3) := by decide +kernel
theorem dX10_copyMembers_49 : decode cX10_copyMembers 49 = .ok (.aload_n 0, 1) := by decide +kernel
theorem dX10_copyMembers_50 : decode cX10_copyMembers 50 = .ok (.dup, 1) := by decide +kernel
theorem dX10_copyMembers_51 : decode cX10_copyMembers 51 = .ok (.getfield 53, 3) := by decide +kernel
theorem dX10_copyMembers_54 : decode cX10_copyMembers 54 = .ok (.iload_n 3, 1) := by decide +kernel
theorem dX10_copyMembers_55 : decode cX10_copyMembers 55 = .ok (.iadd, 1) := by decide +kernel
theorem dX10_copyMembers_56 : decode cX10_copyMembers 56 = .ok (.putfield 53, 3) := by decide +kernel
theorem dX10_copyMembers_59 : decode cX10_copyMembers 59 = .ok (.iconst 1, 1) := by decide +kernel
theorem dX10_copyMembers_60 : decode cX10_copyMembers 60 = .ok (.ireturn, 1) := by decide +kernel
theorem dX10_both_0 : decode cX10_both 0 = .ok (.aload_n 0, 1) := by decide +kernel
theorem dX10_both_1 : decode cX10_both 1 = .ok (.getfield 50, 3) := by decide +kernel
theorem dX10_both_4 : decode cX10_both 4 = .ok (.iconst 2, 1) := by decide +kernel
theorem dX10_both_5 : decode cX10_both 5 = .ok (.if_icmp .ge 5, 3) := by decide +kernel
theorem dX10_both_8 : decode cX10_both 8 = .ok (.iconst 0, 1) := by decide +kernel
theorem dX10_both_9 : decode cX10_both 9 = .ok (.ireturn, 1) := by decide +kernel
theorem dX10_both_10 : decode cX10_both 10 = .ok (.aload_n 0, 1) := by decide +kernel
theorem dX10_both_11 : decode cX10_both 11 = .ok (.dup, 1) := by decide +kernel
theorem dX10_both_12 : decode cX10_both 12 = .ok (.getfield 50, 3) := by decide +kernel
theorem dX10_both_15 : decode cX10_both 15 = .ok (.iconst 2, 1) := by decide +kernel
theorem dX10_both_16 : decode cX10_both 16 = .ok (.isub, 1) := by decide +kernel
theorem dX10_both_17 : decode cX10_both 17 = .ok (.putfield 50, 3) := by decide +kernel
theorem dX10_both_20 : decode cX10_both 20 = .ok (.aload_n 0, 1) := by decide +kernel
theorem dX10_both_21 : decode cX10_both 21 = .ok (.getfield 47, 3) := by decide +kernel
theorem dX10_both_24 : decode cX10_both 24 = .ok (.istore_n 1, 1) := by decide +kernel
theorem dX10_both_25 : decode cX10_both 25 = .ok (.aload_n 0, 1) := by decide +kernel
theorem dX10_both_26 : decode cX10_both 26 = .ok (.getfield 50, 3) := by decide +kernel
theorem dX10_both_29 : decode cX10_both 29 = .ok (.istore_n 2, 1) := by decide +kernel
theorem dX10_both_30 : decode cX10_both 30 = .ok (.iload_n 2, 1) := by decide +kernel
theorem dX10_both_31 : decode cX10_both 31 = .ok (.aload_n 0, 1) := by decide +kernel
theorem dX10_both_32 : decode cX10_both 32 = .ok (.getfield 50, 3) := by decide +kernel
theorem dX10_both_35 : decode cX10_both 35 = .ok (.iconst 1, 1) := by decide +kernel
theorem dX10_both_36 : decode cX10_both 36 = .ok (.iadd, 1) := by decide +kernel
theorem dX10_both_37 : decode cX10_both 37 = .ok (.if_icmp .gt 49, 3) := by decide +kernel
theorem dX10_both_40 : decode cX10_both 40 = .ok (.aload_n 0, 1) := by decide +kernel
theorem dX10_both_41 : decode cX10_both 41 = .ok (.getfield 26, 3) := by decide +kernel
theorem dX10_both_44 : decode cX10_both 44 = .ok (.iload_n 2, 1) := by decide +kernel
theorem dX10_both_45 : decode cX10_both 45 = .ok (.iaload, 1) := by decide +kernel
theorem dX10_both_46 : decode cX10_both 46 = .ok (.istore_n 3, 1) := by decide +kernel
theorem dX10_both_47 : decode cX10_both 47 = .ok (.iload_n 3, 1) := by decide +kernel
theorem dX10_both_48 : decode cX10_both 48 = .ok (.aload_n 0, 1) := by decide +kernel
theorem dX10_both_49 : decode cX10_both 49 = .ok (.getfield 29, 3) := by decide +kernel
theorem dX10_both_52 : decode cX10_both 52 = .ok (.iload_n 2, 1) := by decide +kernel
theorem dX10_both_53 : decode cX10_both 53 = .ok (.iaload, 1) := by decide +kernel
theorem dX10_both_54 : decode cX10_both 54 = .ok (.if_icmp .ge 26, 3) := by decide +kernel
theorem dX10_both_57 : decode cX10_both 57 = .ok (.aload_n 0, 1) := by decide +kernel
theorem dX10_both_58 : decode cX10_both 58 = .ok (.iload_n 3, 1) := by decide +kernel
theorem dX10_both_59 : decode cX10_both 59 = .ok (.invokevirtual 70, 3) := by decide +kernel
theorem dX10_both_62 : decode cX10_both 62 = .ok (.ifCond .eq 10, 3) := by decide +kernel
theorem dX10_both_65 : decode cX10_both 65 = .ok (.aload_n 0, 1) := by decide +kernel
theorem dX10_both_66 : decode cX10_both 66 = .ok (.invokevirtual 56, 3) := by decide +kernel
theorem dX10_both_69 : decode cX10_both 69 = .ok (.ifCond .ne 5, 3) := by decide +kernel
theorem dX10_both_72 : decode cX10_both 72 = .ok (.iconst 0, 1) := by decide +kernel
theorem dX10_both_73 : decode cX10_both 73 = .ok (.ireturn, 1) := by decide +kernel
theorem dX10_both_74 : decode cX10_both 74 = .ok (.iinc 3 1, 3) := by decide +kernel
theorem dX10_both_77 : decode cX10_both 77 = .ok (.goto (-30), 3) := by decide +kernel
theorem dX10_both_80 : decode cX10_both 80 = .ok (.iinc 2 1, 3) := by decide +kernel
theorem dX10_both_83 : decode cX10_both 83 = .ok (.goto (-53), 3) := by decide +kernel
theorem dX10_both_86 : decode cX10_both 86 = .ok (.aload_n 0, 1) := by decide +kernel
theorem dX10_both_87 : decode cX10_both 87 = .ok (.iload_n 1, 1) := by decide +kernel
theorem dX10_both_88 : decode cX10_both 88 = .ok (.invokevirtual 60, 3) := by decide +kernel
theorem dX10_both_91 : decode cX10_both 91 = .ok (.ireturn, 1) := by decide +kernel
theorem dX10_either_0 : decode cX10_either 0 = .ok (.aload_n 0, 1) := by decide +kernel
theorem dX10_either_1 : decode cX10_either 1 = .ok (.getfield 50, 3) := by decide +kernel
theorem dX10_either_4 : decode cX10_either 4 = .ok (.iconst 2, 1) := by decide +kernel
theorem dX10_either_5 : decode cX10_either 5 = .ok (.if_icmp .ge 5, 3) := by decide +kernel
theorem dX10_either_8 : decode cX10_either 8 = .ok (.iconst 0, 1) := by decide +kernel
theorem dX10_either_9 : decode cX10_either 9 = .ok (.ireturn, 1) := by decide +kernel
theorem dX10_either_10 : decode cX10_either 10 = .ok (.aload_n 0, 1) := by decide +kernel
theorem dX10_either_11 : decode cX10_either 11 = .ok (.dup, 1) := by decide +kernel
theorem dX10_either_12 : decode cX10_either 12 = .ok (.getfield 50, 3) := by decide +kernel
theorem dX10_either_15 : decode cX10_either 15 = .ok (.iconst 2, 1) := by decide +kernel
theorem dX10_either_16 : decode cX10_either 16 = .ok (.isub, 1) := by decide +kernel
theorem dX10_either_17 : decode cX10_either 17 = .ok (.putfield 50, 3) := by decide +kernel
theorem dX10_either_20 : decode cX10_either 20 = .ok (.aload_n 0, 1) := by decide +kernel
theorem dX10_either_21 : decode cX10_either 21 = .ok (.getfield 47, 3) := by decide +kernel
theorem dX10_either_24 : decode cX10_either 24 = .ok (.istore_n 1, 1) := by decide +kernel
theorem dX10_either_25 : decode cX10_either 25 = .ok (.aload_n 0, 1) := by decide +kernel
theorem dX10_either_26 : decode cX10_either 26 = .ok (.getfield 26, 3) := by decide +kernel
theorem dX10_either_29 : decode cX10_either 29 = .ok (.aload_n 0, 1) := by decide +kernel
theorem dX10_either_30 : decode cX10_either 30 = .ok (.getfield 50, 3) := by decide +kernel
theorem dX10_either_33 : decode cX10_either 33 = .ok (.iaload, 1) := by decide +kernel
theorem dX10_either_34 : decode cX10_either 34 = .ok (.istore_n 2, 1) := by decide +kernel
theorem dX10_either_35 : decode cX10_either 35 = .ok (.iload_n 2, 1) := by decide +kernel
theorem dX10_either_36 : decode cX10_either 36 = .ok (.aload_n 0, 1) := by decide +kernel
theorem dX10_either_37 : decode cX10_either 37 = .ok (.getfield 29, 3) := by decide +kernel
theorem dX10_either_40 : decode cX10_either 40 = .ok (.aload_n 0, 1) := by decide +kernel
theorem dX10_either_41 : decode cX10_either 41 = .ok (.getfield 50, 3) := by decide +kernel
theorem dX10_either_44 : decode cX10_either 44 = .ok (.iaload, 1) := by decide +kernel
theorem dX10_either_45 : decode cX10_either 45 = .ok (.if_icmp .ge 67, 3) := by decide +kernel
theorem dX10_either_48 : decode cX10_either 48 = .ok (.aload_n 0, 1) := by decide +kernel
theorem dX10_either_49 : decode cX10_either 49 = .ok (.getfield 26, 3) := by decide +kernel
theorem dX10_either_52 : decode cX10_either 52 = .ok (.aload_n 0, 1) := by decide +kernel
theorem dX10_either_53 : decode cX10_either 53 = .ok (.getfield 50, 3) := by decide +kernel
theorem dX10_either_56 : decode cX10_either 56 = .ok (.iconst 1, 1) := by decide +kernel
theorem dX10_either_57 : decode cX10_either 57 = .ok (.iadd, 1) := by decide +kernel
theorem dX10_either_58 : decode cX10_either 58 = .ok (.iaload, 1) := by decide +kernel
theorem dX10_either_59 : decode cX10_either 59 = .ok (.istore_n 3, 1) := by decide +kernel
theorem dX10_either_60 : decode cX10_either 60 = .ok (.iload_n 3, 1) := by decide +kernel
theorem dX10_either_61 : decode cX10_either 61 = .ok (.aload_n 0, 1) := by decide +kernel
theorem dX10_either_62 : decode cX10_either 62 = .ok (.getfield 29, 3) := by decide +kernel
theorem dX10_either_65 : decode cX10_either 65 = .ok (.aload_n 0, 1) := by decide +kernel
theorem dX10_either_66 : decode cX10_either 66 = .ok (.getfield 50, 3) := by decide +kernel
theorem dX10_either_69 : decode cX10_either 69 = .ok (.iconst 1, 1) := by decide +kernel
theorem dX10_either_70 : decode cX10_either 70 = .ok (.iadd, 1) := by decide +kernel
theorem dX10_either_71 : decode cX10_either 71 = .ok (.iaload, 1) := by decide +kernel
theorem dX10_either_72 : decode cX10_either 72 = .ok (.if_icmp .ge 34, 3) := by decide +kernel
theorem dX10_either_75 : decode cX10_either 75 = .ok (.aload_n 0, 1) := by decide +kernel
theorem dX10_either_76 : decode cX10_either 76 = .ok (.iload_n 2, 1) := by decide +kernel
theorem dX10_either_77 : decode cX10_either 77 = .ok (.invokevirtual 70, 3) := by decide +kernel
theorem dX10_either_80 : decode cX10_either 80 = .ok (.ifCond .eq 18, 3) := by decide +kernel
theorem dX10_either_83 : decode cX10_either 83 = .ok (.aload_n 0, 1) := by decide +kernel
theorem dX10_either_84 : decode cX10_either 84 = .ok (.iload_n 3, 1) := by decide +kernel
theorem dX10_either_85 : decode cX10_either 85 = .ok (.invokevirtual 70, 3) := by decide +kernel
theorem dX10_either_88 : decode cX10_either 88 = .ok (.ifCond .eq 10, 3) := by decide +kernel
theorem dX10_either_91 : decode cX10_either 91 = .ok (.aload_n 0, 1) := by decide +kernel
theorem dX10_either_92 : decode cX10_either 92 = .ok (.invokevirtual 56, 3) := by decide +kernel
theorem dX10_either_95 : decode cX10_either 95 = .ok (.ifCond .ne 5, 3) := by decide +kernel
theorem dX10_either_98 : decode cX10_either 98 = .ok (.iconst 0, 1) := by decide +kernel
theorem dX10_either_99 : decode cX10_either 99 = .ok (.ireturn, 1) := by decide +kernel
theorem dX10_either_100 : decode cX10_either 100 = .ok (.iinc 3 1, 3) := by decide +kernel
theorem dX10_either_103 : decode cX10_either 103 = .ok (.goto (-43), 3) := by decide +kernel
theorem dX10_either_106 : decode cX10_either 106 = .ok (.iinc 2 1, 3) := by decide +kernel
theorem dX10_either_109 : decode cX10_either 109 = .ok (.goto (-74), 3) := by decide +kernel
theorem dX10_either_112 : decode cX10_either 112 = .ok (.aload_n 0, 1) := by decide +kernel
theorem dX10_either_113 : decode cX10_either 113 = .ok (.iload_n 1, 1) := by decide +kernel
theorem dX10_either_114 : decode cX10_either 114 = .ok (.invokevirtual 60, 3) := by decide +kernel
theorem dX10_either_117 : decode cX10_either 117 = .ok (.ireturn, 1) := by decide +kernel
theorem dX10_deliver_0 : decode cX10_deliver 0 = .ok (.aload_n 0, 1) := by decide +kernel
theorem dX10_deliver_1 : decode cX10_deliver 1 = .ok (.getfield 50, 3) := by decide +kernel
theorem dX10_deliver_4 : decode cX10_deliver 4 = .ok (.iconst 1, 1) := by decide +kernel
theorem dX10_deliver_5 : decode cX10_deliver 5 = .ok (.if_icmp .ne 26, 3) := by decide +kernel
theorem dX10_deliver_8 : decode cX10_deliver 8 = .ok (.aload_n 1, 1) := by decide +kernel
theorem dX10_deliver_9 : decode cX10_deliver 9 = .ok (.getfield 73, 3) := by decide +kernel
theorem dX10_deliver_12 : decode cX10_deliver 12 = .ok (.aload_n 0, 1) := by decide +kernel
theorem dX10_deliver_13 : decode cX10_deliver 13 = .ok (.getfield 29, 3) := by decide +kernel
theorem dX10_deliver_16 : decode cX10_deliver 16 = .ok (.iconst 0, 1) := by decide +kernel
theorem dX10_deliver_17 : decode cX10_deliver 17 = .ok (.iaload, 1) := by decide +kernel
theorem dX10_deliver_18 : decode cX10_deliver 18 = .ok (.iadd, 1) := by decide +kernel
theorem dX10_deliver_19 : decode cX10_deliver 19 = .ok (.aload_n 0, 1) := by decide +kernel
theorem dX10_deliver_20 : decode cX10_deliver 20 = .ok (.getfield 26, 3) := by decide +kernel
theorem dX10_deliver_23 : decode cX10_deliver 23 = .ok (.iconst 0, 1) := by decide +kernel
theorem dX10_deliver_24 : decode cX10_deliver 24 = .ok (.iaload, 1) := by decide +kernel
theorem dX10_deliver_25 : decode cX10_deliver 25 = .ok (.isub, 1) := by decide +kernel
theorem dX10_deliver_26 : decode cX10_deliver 26 = .ok (.bipush 100, 2) := by decide +kernel
theorem dX10_deliver_28 : decode cX10_deliver 28 = .ok (.if_icmp .le 5, 3) := by decide +kernel
theorem dX10_deliver_31 : decode cX10_deliver 31 = .ok (.iconst 0, 1) := by decide +kernel
theorem dX10_deliver_32 : decode cX10_deliver 32 = .ok (.ireturn, 1) := by decide +kernel
theorem dX10_deliver_33 : decode cX10_deliver 33 = .ok (.aload_n 0, 1) := by decide +kernel
theorem dX10_deliver_34 : decode cX10_deliver 34 = .ok (.getfield 26, 3) := by decide +kernel
theorem dX10_deliver_37 : decode cX10_deliver 37 = .ok (.iconst 0, 1) := by decide +kernel
theorem dX10_deliver_38 : decode cX10_deliver 38 = .ok (.iaload, 1) := by decide +kernel
theorem dX10_deliver_39 : decode cX10_deliver 39 = .ok (.istore_n 2, 1) := by decide +kernel
theorem dX10_deliver_40 : decode cX10_deliver 40 = .ok (.iload_n 2, 1) := by decide +kernel
theorem dX10_deliver_41 : decode cX10_deliver 41 = .ok (.aload_n 0, 1) := by decide +kernel
theorem dX10_deliver_42 : decode cX10_deliver 42 = .ok (.getfield 29, 3) := by decide +kernel
theorem dX10_deliver_45 : decode cX10_deliver 45 = .ok (.iconst 0, 1) := by decide +kernel
theorem dX10_deliver_46 : decode cX10_deliver 46 = .ok (.iaload, 1) := by decide +kernel
theorem dX10_deliver_47 : decode cX10_deliver 47 = .ok (.if_icmp .ge 31, 3) := by decide +kernel
theorem dX10_deliver_50 : decode cX10_deliver 50 = .ok (.aload_n 0, 1) := by decide +kernel
theorem dX10_deliver_51 : decode cX10_deliver 51 = .ok (.getfield 23, 3) := by decide +kernel
theorem dX10_deliver_54 : decode cX10_deliver 54 = .ok (.iload_n 2, 1) := by decide +kernel
theorem dX10_deliver_55 : decode cX10_deliver 55 = .ok (.iconst 1, 1) := by decide +kernel
theorem dX10_deliver_56 : decode cX10_deliver 56 = .ok (.iadd, 1) := by decide +kernel
theorem dX10_deliver_57 : decode cX10_deliver 57 = .ok (.iaload, 1) := by decide +kernel
theorem dX10_deliver_58 : decode cX10_deliver 58 = .ok (.aload_n 0, 1) := by decide +kernel
theorem dX10_deliver_59 : decode cX10_deliver 59 = .ok (.getfield 23, 3) := by decide +kernel
theorem dX10_deliver_62 : decode cX10_deliver 62 = .ok (.iload_n 2, 1) := by decide +kernel
theorem dX10_deliver_63 : decode cX10_deliver 63 = .ok (.iaload, 1) := by decide +kernel
theorem dX10_deliver_64 : decode cX10_deliver 64 = .ok (.isub, 1) := by decide +kernel
theorem dX10_deliver_65 : decode cX10_deliver 65 = .ok (.bipush 12, 2) := by decide +kernel
theorem dX10_deliver_67 : decode cX10_deliver 67 = .ok (.if_icmp .le 5, 3) := by decide +kernel
theorem dX10_deliver_70 : decode cX10_deliver 70 = .ok (.iconst 0, 1) := by decide +kernel
theorem dX10_deliver_71 : decode cX10_deliver 71 = .ok (.ireturn, 1) := by decide +kernel
theorem dX10_deliver_72 : decode cX10_deliver 72 = .ok (.iinc 2 1, 3) := by decide +kernel
theorem dX10_deliver_75 : decode cX10_deliver 75 = .ok (.goto (-35), 3) := by decide +kernel
theorem dX10_deliver_78 : decode cX10_deliver 78 = .ok (.aload_n 0, 1) := by decide +kernel
theorem dX10_deliver_79 : decode cX10_deliver 79 = .ok (.getfield 26, 3) := by decide +kernel
theorem dX10_deliver_82 : decode cX10_deliver 82 = .ok (.iconst 0, 1) := by decide +kernel
theorem dX10_deliver_83 : decode cX10_deliver 83 = .ok (.iaload, 1) := by decide +kernel
theorem dX10_deliver_84 : decode cX10_deliver 84 = .ok (.istore_n 2, 1) := by decide +kernel
theorem dX10_deliver_85 : decode cX10_deliver 85 = .ok (.iload_n 2, 1) := by decide +kernel
theorem dX10_deliver_86 : decode cX10_deliver 86 = .ok (.aload_n 0, 1) := by decide +kernel
theorem dX10_deliver_87 : decode cX10_deliver 87 = .ok (.getfield 29, 3) := by decide +kernel
theorem dX10_deliver_90 : decode cX10_deliver 90 = .ok (.iconst 0, 1) := by decide +kernel
theorem dX10_deliver_91 : decode cX10_deliver 91 = .ok (.iaload, 1) := by decide +kernel
theorem dX10_deliver_92 : decode cX10_deliver 92 = .ok (.if_icmp .ge 30, 3) := by decide +kernel
theorem dX10_deliver_95 : decode cX10_deliver 95 = .ok (.aload_n 0, 1) := by decide +kernel
theorem dX10_deliver_96 : decode cX10_deliver 96 = .ok (.iload_n 2, 1) := by decide +kernel
theorem dX10_deliver_97 : decode cX10_deliver 97 = .ok (.invokevirtual 74, 3) := by decide +kernel
theorem dX10_deliver_100 : decode cX10_deliver 100 = .ok (.istore_n 3, 1) := by decide +kernel
theorem dX10_deliver_101 : decode cX10_deliver 101 = .ok (.iload_n 3, 1) := by decide +kernel
theorem dX10_deliver_102 : decode cX10_deliver 102 = .ok (.ifCond .lt 14, 3) := by decide +kernel
theorem dX10_deliver_105 : decode cX10_deliver 105 = .ok (.aload_n 0, 1) := by decide +kernel
theorem dX10_deliver_106 : decode cX10_deliver 106 = .ok (.aload_n 1, 1) := by decide +kernel
theorem dX10_deliver_107 : decode cX10_deliver 107 = .ok (.iload_n 3, 1) := by decide +kernel
theorem dX10_deliver_108 : decode cX10_deliver 108 = .ok (.invokevirtual 78, 3) := by decide +kernel
theorem dX10_deliver_111 : decode cX10_deliver 111 = .ok (.ifCond .ne 5, 3) := by decide +kernel
theorem dX10_deliver_114 : decode cX10_deliver 114 = .ok (.iconst 0, 1) := by decide +kernel
theorem dX10_deliver_115 : decode cX10_deliver 115 = .ok (.ireturn, 1) := by decide +kernel
theorem dX10_deliver_116 : decode cX10_deliver 116 = .ok (.iinc 2 1, 3) := by decide +kernel
theorem dX10_deliver_119 : decode cX10_deliver 119 = .ok (.goto (-34), 3) := by decide +kernel
theorem dX10_deliver_122 : decode cX10_deliver 122 = .ok (.iconst 1, 1) := by decide +kernel
theorem dX10_deliver_123 : decode cX10_deliver 123 = .ok (.ireturn, 1) := by decide +kernel
theorem dX10_keep_0 : decode cX10_keep 0 = .ok (.iconst 0, 1) := by decide +kernel
theorem dX10_keep_1 : decode cX10_keep 1 = .ok (.istore_n 2, 1) := by decide +kernel
theorem dX10_keep_2 : decode cX10_keep 2 = .ok (.aload_n 0, 1) := by decide +kernel
theorem dX10_keep_3 : decode cX10_keep 3 = .ok (.getfield 23, 3) := by decide +kernel
theorem dX10_keep_6 : decode cX10_keep 6 = .ok (.iload_n 1, 1) := by decide +kernel
theorem dX10_keep_7 : decode cX10_keep 7 = .ok (.iaload, 1) := by decide +kernel
theorem dX10_keep_8 : decode cX10_keep 8 = .ok (.istore_n 3, 1) := by decide +kernel
theorem dX10_keep_9 : decode cX10_keep 9 = .ok (.iload_n 3, 1) := by decide +kernel
theorem dX10_keep_10 : decode cX10_keep 10 = .ok (.aload_n 0, 1) := by decide +kernel
theorem dX10_keep_11 : decode cX10_keep 11 = .ok (.getfield 23, 3) := by decide +kernel
theorem dX10_keep_14 : decode cX10_keep 14 = .ok (.iload_n 1, 1) := by decide +kernel
theorem dX10_keep_15 : decode cX10_keep 15 = .ok (.iconst 1, 1) := by decide +kernel
theorem dX10_keep_16 : decode cX10_keep 16 = .ok (.iadd, 1) := by decide +kernel
theorem dX10_keep_17 : decode cX10_keep 17 = .ok (.iaload, 1) := by decide +kernel
theorem dX10_keep_18 : decode cX10_keep 18 = .ok (.if_icmp .ge 103, 3) := by decide +kernel
theorem dX10_keep_21 : decode cX10_keep 21 = .ok (.iconst 1, 1) := by decide +kernel
theorem dX10_keep_22 : decode cX10_keep 22 = .ok (.istore 4, 2) := by decide +kernel
theorem dX10_keep_24 : decode cX10_keep 24 = .ok (.iconst 0, 1) := by decide +kernel
theorem dX10_keep_25 : decode cX10_keep 25 = .ok (.istore 5, 2) := by decide +kernel
theorem dX10_keep_27 : decode cX10_keep 27 = .ok (.iload 5, 2) := by decide +kernel
theorem dX10_keep_29 : decode cX10_keep 29 = .ok (.iload_n 2, 1) := by decide +kernel
theorem dX10_keep_30 : decode cX10_keep 30 = .ok (.if_icmp .ge 65, 3) := by decide +kernel
theorem dX10_keep_33 : decode cX10_keep 33 = .ok (.iload 4, 2) := by decide +kernel
theorem dX10_keep_35 : decode cX10_keep 35 = .ok (.ifCond .eq 60, 3) := by decide +kernel
theorem dX10_keep_38 : decode cX10_keep 38 = .ok (.aload_n 0, 1) := by decide +kernel
theorem dX10_keep_39 : decode cX10_keep 39 = .ok (.aload_n 0, 1) := by decide +kernel
theorem dX10_keep_40 : decode cX10_keep 40 = .ok (.getfield 20, 3) := by decide +kernel
theorem dX10_keep_43 : decode cX10_keep 43 = .ok (.iload_n 3, 1) := by decide +kernel
theorem dX10_keep_44 : decode cX10_keep 44 = .ok (.iaload, 1) := by decide +kernel
theorem dX10_keep_45 : decode cX10_keep 45 = .ok (.aload_n 0, 1) := by decide +kernel
theorem dX10_keep_46 : decode cX10_keep 46 = .ok (.getfield 34, 3) := by decide +kernel
theorem dX10_keep_49 : decode cX10_keep 49 = .ok (.iload 5, 2) := by decide +kernel
theorem dX10_keep_51 : decode cX10_keep 51 = .ok (.iaload, 1) := by decide +kernel
theorem dX10_keep_52 : decode cX10_keep 52 = .ok (.invokevirtual 82, 3) := by decide +kernel
theorem dX10_keep_55 : decode cX10_keep 55 = .ok (.ifCond .eq 34, 3) := by decide +kernel
theorem dX10_keep_58 : decode cX10_keep 58 = .ok (.aload_n 0, 1) := by decide +kernel
theorem dX10_keep_59 : decode cX10_keep 59 = .ok (.getfield 16, 3) := by decide +kernel
theorem dX10_keep_62 : decode cX10_keep 62 = .ok (.aload_n 0, 1) := by decide +kernel
theorem dX10_keep_63 : decode cX10_keep 63 = .ok (.getfield 20, 3) := by decide +kernel
theorem dX10_keep_66 : decode cX10_keep 66 = .ok (.iload_n 3, 1) := by decide +kernel
theorem dX10_keep_67 : decode cX10_keep 67 = .ok (.iaload, 1) := by decide +kernel
theorem dX10_keep_68 : decode cX10_keep 68 = .ok (.baload, 1) := by decide +kernel
theorem dX10_keep_69 : decode cX10_keep 69 = .ok (.aload_n 0, 1) := by decide +kernel
theorem dX10_keep_70 : decode cX10_keep 70 = .ok (.getfield 16, 3) := by decide +kernel
theorem dX10_keep_73 : decode cX10_keep 73 = .ok (.aload_n 0, 1) := by decide +kernel
theorem dX10_keep_74 : decode cX10_keep 74 = .ok (.getfield 34, 3) := by decide +kernel
theorem dX10_keep_77 : decode cX10_keep 77 = .ok (.iload 5, 2) := by decide +kernel
theorem dX10_keep_79 : decode cX10_keep 79 = .ok (.iaload, 1) := by decide +kernel
theorem dX10_keep_80 : decode cX10_keep 80 = .ok (.baload, 1) := by decide +kernel
theorem dX10_keep_81 : decode cX10_keep 81 = .ok (.if_icmp .eq 5, 3) := by decide +kernel
theorem dX10_keep_84 : decode cX10_keep 84 = .ok (.iconst (-1), 1) := by decide +kernel
theorem dX10_keep_85 : decode cX10_keep 85 = .ok (.ireturn, 1) := by decide +kernel
theorem dX10_keep_86 : decode cX10_keep 86 = .ok (.iconst 0, 1) := by decide +kernel
theorem dX10_keep_87 : decode cX10_keep 87 = .ok (.istore 4, 2) := by decide +kernel
theorem dX10_keep_89 : decode cX10_keep 89 = .ok (.iinc 5 1, 3) := by decide +kernel
theorem dX10_keep_92 : decode cX10_keep 92 = .ok (.goto (-65), 3) := by decide +kernel
theorem dX10_keep_95 : decode cX10_keep 95 = .ok (.iload 4, 2) := by decide +kernel
theorem dX10_keep_97 : decode cX10_keep 97 = .ok (.ifCond .eq 18, 3) := by decide +kernel
theorem dX10_keep_100 : decode cX10_keep 100 = .ok (.aload_n 0, 1) := by decide +kernel
theorem dX10_keep_101 : decode cX10_keep 101 = .ok (.getfield 34, 3) := by decide +kernel
theorem dX10_keep_104 : decode cX10_keep 104 = .ok (.iload_n 2, 1) := by decide +kernel
theorem dX10_keep_105 : decode cX10_keep 105 = .ok (.aload_n 0, 1) := by decide +kernel
theorem dX10_keep_106 : decode cX10_keep 106 = .ok (.getfield 20, 3) := by decide +kernel
theorem dX10_keep_109 : decode cX10_keep 109 = .ok (.iload_n 3, 1) := by decide +kernel
theorem dX10_keep_110 : decode cX10_keep 110 = .ok (.iaload, 1) := by decide +kernel
theorem dX10_keep_111 : decode cX10_keep 111 = .ok (.iastore, 1) := by decide +kernel
theorem dX10_keep_112 : decode cX10_keep 112 = .ok (.iinc 2 1, 3) := by decide +kernel
theorem dX10_keep_115 : decode cX10_keep 115 = .ok (.iinc 3 1, 3) := by decide +kernel
theorem dX10_keep_118 : decode cX10_keep 118 = .ok (.goto (-109), 3) := by decide +kernel
theorem dX10_keep_121 : decode cX10_keep 121 = .ok (.iload_n 2, 1) := by decide +kernel
theorem dX10_keep_122 : decode cX10_keep 122 = .ok (.ireturn, 1) := by decide +kernel
theorem dX10_sameAtom_0 : decode cX10_sameAtom 0 = .ok (.aload_n 0, 1) := by decide +kernel
theorem dX10_sameAtom_1 : decode cX10_sameAtom 1 = .ok (.getfield 13, 3) := by decide +kernel
theorem dX10_sameAtom_4 : decode cX10_sameAtom 4 = .ok (.iload_n 1, 1) := by decide +kernel
theorem dX10_sameAtom_5 : decode cX10_sameAtom 5 = .ok (.iaload, 1) := by decide +kernel
theorem dX10_sameAtom_6 : decode cX10_sameAtom 6 = .ok (.istore_n 3, 1) := by decide +kernel
theorem dX10_sameAtom_7 : decode cX10_sameAtom 7 = .ok (.aload_n 0, 1) := by decide +kernel
theorem dX10_sameAtom_8 : decode cX10_sameAtom 8 = .ok (.getfield 13, 3) := by decide +kernel
theorem dX10_sameAtom_11 : decode cX10_sameAtom 11 = .ok (.iload_n 2, 1) := by decide +kernel
theorem dX10_sameAtom_12 : decode cX10_sameAtom 12 = .ok (.iaload, 1) := by decide +kernel
theorem dX10_sameAtom_13 : decode cX10_sameAtom 13 = .ok (.istore 4, 2) := by decide +kernel
theorem dX10_sameAtom_15 : decode cX10_sameAtom 15 = .ok (.aload_n 0, 1) := by decide +kernel
theorem dX10_sameAtom_16 : decode cX10_sameAtom 16 = .ok (.getfield 13, 3) := by decide +kernel
theorem dX10_sameAtom_19 : decode cX10_sameAtom 19 = .ok (.iload_n 1, 1) := by decide +kernel
theorem dX10_sameAtom_20 : decode cX10_sameAtom 20 = .ok (.iconst 1, 1) := by decide +kernel
theorem dX10_sameAtom_21 : decode cX10_sameAtom 21 = .ok (.iadd, 1) := by decide +kernel
theorem dX10_sameAtom_22 : decode cX10_sameAtom 22 = .ok (.iaload, 1) := by decide +kernel
theorem dX10_sameAtom_23 : decode cX10_sameAtom 23 = .ok (.iload_n 3, 1) := by decide +kernel
theorem dX10_sameAtom_24 : decode cX10_sameAtom 24 = .ok (.isub, 1) := by decide +kernel
theorem dX10_sameAtom_25 : decode cX10_sameAtom 25 = .ok (.istore 5, 2) := by decide +kernel
theorem dX10_sameAtom_27 : decode cX10_sameAtom 27 = .ok (.iload 5, 2) := by decide +kernel
theorem dX10_sameAtom_29 : decode cX10_sameAtom 29 = .ok (.aload_n 0, 1) := by decide +kernel
theorem dX10_sameAtom_30 : decode cX10_sameAtom 30 = .ok (.getfield 13, 3) := by decide +kernel
theorem dX10_sameAtom_33 : decode cX10_sameAtom 33 = .ok (.iload_n 2, 1) := by decide +kernel
theorem dX10_sameAtom_34 : decode cX10_sameAtom 34 = .ok (.iconst 1, 1) := by decide +kernel
theorem dX10_sameAtom_35 : decode cX10_sameAtom 35 = .ok (.iadd, 1) := by decide +kernel
theorem dX10_sameAtom_36 : decode cX10_sameAtom 36 = .ok (.iaload, 1) := by decide +kernel
theorem dX10_sameAtom_37 : decode cX10_sameAtom 37 = .ok (.iload 4, 2) := by decide +kernel
theorem dX10_sameAtom_39 : decode cX10_sameAtom 39 = .ok (.isub, 1) := by decide +kernel
theorem dX10_sameAtom_40 : decode cX10_sameAtom 40 = .ok (.if_icmp .eq 5, 3) := by decide +kernel
theorem dX10_sameAtom_43 : decode cX10_sameAtom 43 = .ok (.iconst 0, 1) := by decide +kernel
theorem dX10_sameAtom_44 : decode cX10_sameAtom 44 = .ok (.ireturn, 1) := by decide +kernel
theorem dX10_sameAtom_45 : decode cX10_sameAtom 45 = .ok (.iconst 0, 1) := by decide +kernel
theorem dX10_sameAtom_46 : decode cX10_sameAtom 46 = .ok (.istore 6, 2) := by decide +kernel
theorem dX10_sameAtom_48 : decode cX10_sameAtom 48 = .ok (.iload 6, 2) := by decide +kernel
theorem dX10_sameAtom_50 : decode cX10_sameAtom 50 = .ok (.iload 5, 2) := by decide +kernel
theorem dX10_sameAtom_52 : decode cX10_sameAtom 52 = .ok (.if_icmp .ge 33, 3) := by decide +kernel
theorem dX10_sameAtom_55 : decode cX10_sameAtom 55 = .ok (.aload_n 0, 1) := by decide +kernel
theorem dX10_sameAtom_56 : decode cX10_sameAtom 56 = .ok (.getfield 9, 3) := by decide +kernel
theorem dX10_sameAtom_59 : decode cX10_sameAtom 59 = .ok (.iload_n 3, 1) := by decide +kernel
theorem dX10_sameAtom_60 : decode cX10_sameAtom 60 = .ok (.iload 6, 2) := by decide +kernel
theorem dX10_sameAtom_62 : decode cX10_sameAtom 62 = .ok (.iadd, 1) := by decide +kernel
theorem dX10_sameAtom_63 : decode cX10_sameAtom 63 = .ok (.iaload, 1) := by decide +kernel
theorem dX10_sameAtom_64 : decode cX10_sameAtom 64 = .ok (.aload_n 0, 1) := by decide +kernel
theorem dX10_sameAtom_65 : decode cX10_sameAtom 65 = .ok (.getfield 9, 3) := by decide +kernel
theorem dX10_sameAtom_68 : decode cX10_sameAtom 68 = .ok (.iload 4, 2) := by decide +kernel
theorem dX10_sameAtom_70 : decode cX10_sameAtom 70 = .ok (.iload 6, 2) := by decide +kernel
theorem dX10_sameAtom_72 : decode cX10_sameAtom 72 = .ok (.iadd, 1) := by decide +kernel
theorem dX10_sameAtom_73 : decode cX10_sameAtom 73 = .ok (.iaload, 1) := by decide +kernel
theorem dX10_sameAtom_74 : decode cX10_sameAtom 74 = .ok (.if_icmp .eq 5, 3) := by decide +kernel
theorem dX10_sameAtom_77 : decode cX10_sameAtom 77 = .ok (.iconst 0, 1) := by decide +kernel
theorem dX10_sameAtom_78 : decode cX10_sameAtom 78 = .ok (.ireturn, 1) := by decide +kernel
theorem dX10_sameAtom_79 : decode cX10_sameAtom 79 = .ok (.iinc 6 1, 3) := by decide +kernel
theorem dX10_sameAtom_82 : decode cX10_sameAtom 82 = .ok (.goto (-34), 3) := by decide +kernel
theorem dX10_sameAtom_85 : decode cX10_sameAtom 85 = .ok (.iconst 1, 1) := by decide +kernel
theorem dX10_sameAtom_86 : decode cX10_sameAtom 86 = .ok (.ireturn, 1) := by decide +kernel
theorem dX10_deliverKept_0 : decode cX10_deliverKept 0 = .ok (.aload_n 1, 1) := by decide +kernel
theorem dX10_deliverKept_1 : decode cX10_deliverKept 1 = .ok (.getfield 73, 3) := by decide +kernel
theorem dX10_deliverKept_4 : decode cX10_deliverKept 4 = .ok (.istore_n 3, 1) := by decide +kernel
theorem dX10_deliverKept_5 : decode cX10_deliverKept 5 = .ok (.aload_n 1, 1) := by decide +kernel
theorem dX10_deliverKept_6 : decode cX10_deliverKept 6 = .ok (.getfield 86, 3) := by decide +kernel
theorem dX10_deliverKept_9 : decode cX10_deliverKept 9 = .ok (.iload_n 3, 1) := by decide +kernel
theorem dX10_deliverKept_10 : decode cX10_deliverKept 10 = .ok (.iaload, 1) := by decide +kernel
theorem dX10_deliverKept_11 : decode cX10_deliverKept 11 = .ok (.istore 4, 2) := by decide +kernel
theorem dX10_deliverKept_13 : decode cX10_deliverKept 13 = .ok (.aload_n 1, 1) := by decide +kernel
theorem dX10_deliverKept_14 : decode cX10_deliverKept 14 = .ok (.getfield 89, 3) := by decide +kernel
theorem dX10_deliverKept_17 : decode cX10_deliverKept 17 = .ok (.iload 4, 2) := by decide +kernel
theorem dX10_deliverKept_19 : decode cX10_deliverKept 19 = .ok (.iaload, 1) := by decide +kernel
theorem dX10_deliverKept_20 : decode cX10_deliverKept 20 = .ok (.istore 5, 2) := by decide +kernel
theorem dX10_deliverKept_22 : decode cX10_deliverKept 22 = .ok (.iload 5, 2) := by decide +kernel
theorem dX10_deliverKept_24 : decode cX10_deliverKept 24 = .ok (.istore 6, 2) := by decide +kernel
theorem dX10_deliverKept_26 : decode cX10_deliverKept 26 = .ok (.aload_n 0, 1) := by decide +kernel
theorem dX10_deliverKept_27 : decode cX10_deliverKept 27 = .ok (.iconst 0, 1) := by decide +kernel
theorem dX10_deliverKept_28 : decode cX10_deliverKept 28 = .ok (.putfield 92, 3) := by decide +kernel
theorem dX10_deliverKept_31 : decode cX10_deliverKept 31 = .ok (.iconst 0, 1) := by decide +kernel
theorem dX10_deliverKept_32 : decode cX10_deliverKept 32 = .ok (.istore 7, 2) := by decide +kernel
theorem dX10_deliverKept_34 : decode cX10_deliverKept 34 = .ok (.iload 7, 2) := by decide +kernel
theorem dX10_deliverKept_36 : decode cX10_deliverKept 36 = .ok (.iload_n 2, 1) := by decide +kernel
theorem dX10_deliverKept_37 : decode cX10_deliverKept 37 = .ok (.if_icmp .ge 160, 3) := by decide +kernel
theorem dX10_deliverKept_40 : decode cX10_deliverKept 40 = .ok (.aload_n 0, 1) := by decide +kernel
theorem dX10_deliverKept_41 : decode cX10_deliverKept 41 = .ok (.getfield 13, 3) := by decide +kernel
theorem dX10_deliverKept_44 : decode cX10_deliverKept 44 = .ok (.aload_n 0, 1) := by decide +kernel
theorem dX10_deliverKept_45 : decode cX10_deliverKept 45 = .ok (.getfield 34, 3) := by decide +kernel
theorem dX10_deliverKept_48 : decode cX10_deliverKept 48 = .ok (.iload 7, 2) := by decide +kernel
theorem dX10_deliverKept_50 : decode cX10_deliverKept 50 = .ok (.iaload, 1) := by decide +kernel
theorem dX10_deliverKept_51 : decode cX10_deliverKept 51 = .ok (.iaload, 1) := by decide +kernel
theorem dX10_deliverKept_52 : decode cX10_deliverKept 52 = .ok (.istore 8, 2) := by decide +kernel
theorem dX10_deliverKept_54 : decode cX10_deliverKept 54 = .ok (.iload 8, 2) := by decide +kernel
theorem dX10_deliverKept_56 : decode cX10_deliverKept 56 = .ok (.aload_n 0, 1) := by decide +kernel
theorem dX10_deliverKept_57 : decode cX10_deliverKept 57 = .ok (.getfield 13, 3) := by decide +kernel
theorem dX10_deliverKept_60 : decode cX10_deliverKept 60 = .ok (.aload_n 0, 1) := by decide +kernel
theorem dX10_deliverKept_61 : decode cX10_deliverKept 61 = .ok (.getfield 34, 3) := by decide +kernel
theorem dX10_deliverKept_64 : decode cX10_deliverKept 64 = .ok (.iload 7, 2) := by decide +kernel
theorem dX10_deliverKept_66 : decode cX10_deliverKept 66 = .ok (.iaload, 1) := by decide +kernel
theorem dX10_deliverKept_67 : decode cX10_deliverKept 67 = .ok (.iconst 1, 1) := by decide +kernel
theorem dX10_deliverKept_68 : decode cX10_deliverKept 68 = .ok (.iadd, 1) := by decide +kernel
theorem dX10_deliverKept_69 : decode cX10_deliverKept 69 = .ok (.iaload, 1) := by decide +kernel
theorem dX10_deliverKept_70 : decode cX10_deliverKept 70 = .ok (.if_icmp .ge 82, 3) := by decide +kernel
theorem dX10_deliverKept_73 : decode cX10_deliverKept 73 = .ok (.aload_n 0, 1) := by decide +kernel
theorem dX10_deliverKept_74 : decode cX10_deliverKept 74 = .ok (.getfield 9, 3) := by decide +kernel
theorem dX10_deliverKept_77 : decode cX10_deliverKept 77 = .ok (.iload 8, 2) := by decide +kernel
theorem dX10_deliverKept_79 : decode cX10_deliverKept 79 = .ok (.iaload, 1) := by decide +kernel
theorem dX10_deliverKept_80 : decode cX10_deliverKept 80 = .ok (.ifCond .lt 13, 3) := by decide +kernel
theorem dX10_deliverKept_83 : decode cX10_deliverKept 83 = .ok (.aload_n 0, 1) := by decide +kernel
theorem dX10_deliverKept_84 : decode cX10_deliverKept 84 = .ok (.getfield 9, 3) := by decide +kernel
theorem dX10_deliverKept_87 : decode cX10_deliverKept 87 = .ok (.iload 8, 2) := by decide +kernel
theorem dX10_deliverKept_89 : decode cX10_deliverKept 89 = .ok (.iaload, 1) := by decide +kernel
theorem dX10_deliverKept_90 : decode cX10_deliverKept 90 = .ok (.goto 14, 3) := by decide +kernel
theorem dX10_deliverKept_93 : decode cX10_deliverKept 93 = .ok (.aload_n 0, 1) := by decide +kernel
theorem dX10_deliverKept_94 : decode cX10_deliverKept 94 = .ok (.aload_n 0, 1) := by decide +kernel
theorem dX10_deliverKept_95 : decode cX10_deliverKept 95 = .ok (.getfield 9, 3) := by decide +kernel
theorem dX10_deliverKept_98 : decode cX10_deliverKept 98 = .ok (.iload 8, 2) := by decide +kernel
theorem dX10_deliverKept_100 : decode cX10_deliverKept 100 = .ok (.iaload, 1) := by decide +kernel
theorem dX10_deliverKept_101 : decode cX10_deliverKept 101 = .ok (.invokevirtual 95, 3) := by decide +kernel
theorem dX10_deliverKept_104 : decode cX10_deliverKept 104 = .ok (.istore 9, 2) := by decide +kernel
theorem dX10_deliverKept_106 : decode cX10_deliverKept 106 = .ok (.iload 6, 2) := by decide +kernel
theorem dX10_deliverKept_108 : decode cX10_deliverKept 108 = .ok (.iload 5, 2) := by decide +kernel
theorem dX10_deliverKept_110 : decode cX10_deliverKept 110 = .ok (.isub, 1) := by decide +kernel
theorem dX10_deliverKept_111 : decode cX10_deliverKept 111 = .ok (.sipush 200, 3) := by decide +kernel
theorem dX10_deliverKept_114 : decode cX10_deliverKept 114 = .ok (.if_icmp .ge 18, 3) := by decide +kernel
theorem dX10_deliverKept_117 : decode cX10_deliverKept 117 = .ok (.aload_n 0, 1) := by decide +kernel
theorem dX10_deliverKept_118 : decode cX10_deliverKept 118 = .ok (.getfield 9, 3) := by decide +kernel
theorem dX10_deliverKept_121 : decode cX10_deliverKept 121 = .ok (.iload 8, 2) := by decide +kernel
theorem dX10_deliverKept_123 : decode cX10_deliverKept 123 = .ok (.iaload, 1) := by decide +kernel
theorem dX10_deliverKept_124 : decode cX10_deliverKept 124 = .ok (.ifCond .ge 10, 3) := by decide +kernel
theorem dX10_deliverKept_127 : decode cX10_deliverKept 127 = .ok (.iload 9, 2) := by decide +kernel
theorem dX10_deliverKept_129 : decode cX10_deliverKept 129 = .ok (.ifCond .lt 5, 3) := by decide +kernel
theorem dX10_deliverKept_132 : decode cX10_deliverKept 132 = .ok (.iconst 0, 1) := by decide +kernel
theorem dX10_deliverKept_133 : decode cX10_deliverKept 133 = .ok (.ireturn, 1) := by decide +kernel
theorem dX10_deliverKept_134 : decode cX10_deliverKept 134 = .ok (.aload_n 1, 1) := by decide +kernel
theorem dX10_deliverKept_135 : decode cX10_deliverKept 135 = .ok (.getfield 98, 3) := by decide +kernel
theorem dX10_deliverKept_138 : decode cX10_deliverKept 138 = .ok (.iload 6, 2) := by decide +kernel
theorem dX10_deliverKept_140 : decode cX10_deliverKept 140 = .ok (.iload 9, 2) := by decide +kernel
theorem dX10_deliverKept_142 : decode cX10_deliverKept 142 = .ok (.iastore, 1) := by decide +kernel
theorem dX10_deliverKept_143 : decode cX10_deliverKept 143 = .ok (.iinc 6 1, 3) := by decide +kernel
theorem dX10_deliverKept_146 : decode cX10_deliverKept 146 = .ok (.iinc 8 1, 3) := by decide +kernel
theorem dX10_deliverKept_149 : decode cX10_deliverKept 149 = .ok (.goto (-95), 3) := by decide +kernel
theorem dX10_deliverKept_152 : decode cX10_deliverKept 152 = .ok (.aload_n 1, 1) := by decide +kernel
theorem dX10_deliverKept_153 : decode cX10_deliverKept 153 = .ok (.getfield 99, 3) := by decide +kernel
theorem dX10_deliverKept_156 : decode cX10_deliverKept 156 = .ok (.iload 4, 2) := by decide +kernel
theorem dX10_deliverKept_158 : decode cX10_deliverKept 158 = .ok (.aload_n 0, 1) := by decide +kernel
theorem dX10_deliverKept_159 : decode cX10_deliverKept 159 = .ok (.getfield 16, 3) := by decide +kernel
theorem dX10_deliverKept_162 : decode cX10_deliverKept 162 = .ok (.aload_n 0, 1) := by decide +kernel
theorem dX10_deliverKept_163 : decode cX10_deliverKept 163 = .ok (.getfield 34, 3) := by decide +kernel
theorem dX10_deliverKept_166 : decode cX10_deliverKept 166 = .ok (.iload 7, 2) := by decide +kernel
theorem dX10_deliverKept_168 : decode cX10_deliverKept 168 = .ok (.iaload, 1) := by decide +kernel
theorem dX10_deliverKept_169 : decode cX10_deliverKept 169 = .ok (.baload, 1) := by decide +kernel
theorem dX10_deliverKept_170 : decode cX10_deliverKept 170 = .ok (.bastore, 1) := by decide +kernel
theorem dX10_deliverKept_171 : decode cX10_deliverKept 171 = .ok (.aload_n 1, 1) := by decide +kernel
theorem dX10_deliverKept_172 : decode cX10_deliverKept 172 = .ok (.getfield 100, 3) := by decide +kernel
theorem dX10_deliverKept_175 : decode cX10_deliverKept 175 = .ok (.iload 4, 2) := by decide +kernel
theorem dX10_deliverKept_177 : decode cX10_deliverKept 177 = .ok (.iload_n 3, 1) := by decide +kernel
theorem dX10_deliverKept_178 : decode cX10_deliverKept 178 = .ok (.iastore, 1) := by decide +kernel
theorem dX10_deliverKept_179 : decode cX10_deliverKept 179 = .ok (.iinc 4 1, 3) := by decide +kernel
theorem dX10_deliverKept_182 : decode cX10_deliverKept 182 = .ok (.aload_n 1, 1) := by decide +kernel
theorem dX10_deliverKept_183 : decode cX10_deliverKept 183 = .ok (.getfield 89, 3) := by decide +kernel
theorem dX10_deliverKept_186 : decode cX10_deliverKept 186 = .ok (.iload 4, 2) := by decide +kernel
theorem dX10_deliverKept_188 : decode cX10_deliverKept 188 = .ok (.iload 6, 2) := by decide +kernel
theorem dX10_deliverKept_190 : decode cX10_deliverKept 190 = .ok (.iastore, 1) := by decide +kernel
theorem dX10_deliverKept_191 : decode cX10_deliverKept 191 = .ok (.iinc 7 1, 3) := by decide +kernel
theorem dX10_deliverKept_194 : decode cX10_deliverKept 194 = .ok (.goto (-160), 3) := by decide +kernel
theorem dX10_deliverKept_197 : decode cX10_deliverKept 197 = .ok (.aload_n 1, 1) := by decide +kernel
theorem dX10_deliverKept_198 : decode cX10_deliverKept 198 = .ok (.getfield 103, 3) := by decide +kernel
theorem dX10_deliverKept_201 : decode cX10_deliverKept 201 = .ok (.iload_n 3, 1) := by decide +kernel
theorem dX10_deliverKept_202 : decode cX10_deliverKept 202 = .ok (.aload_n 0, 1) := by decide +kernel
theorem dX10_deliverKept_203 : decode cX10_deliverKept 203 = .ok (.getfield 92, 3) := by decide +kernel
theorem dX10_deliverKept_206 : decode cX10_deliverKept 206 = .ok (.iastore, 1) := by decide +kernel
theorem dX10_deliverKept_207 : decode cX10_deliverKept 207 = .ok (.aload_n 1, 1) := by decide +kernel
theorem dX10_deliverKept_208 : decode cX10_deliverKept 208 = .ok (.getfield 86, 3) := by decide +kernel
theorem dX10_deliverKept_211 : decode cX10_deliverKept 211 = .ok (.iload_n 3, 1) := by decide +kernel
theorem dX10_deliverKept_212 : decode cX10_deliverKept 212 = .ok (.iconst 1, 1) := by decide +kernel
theorem dX10_deliverKept_213 : decode cX10_deliverKept 213 = .ok (.iadd, 1) := by decide +kernel
theorem dX10_deliverKept_214 : decode cX10_deliverKept 214 = .ok (.iload 4, 2) := by decide +kernel
theorem dX10_deliverKept_216 : decode cX10_deliverKept 216 = .ok (.iastore, 1) := by decide +kernel
theorem dX10_deliverKept_217 : decode cX10_deliverKept 217 = .ok (.aload_n 1, 1) := by decide +kernel
theorem dX10_deliverKept_218 : decode cX10_deliverKept 218 = .ok (.dup, 1) := by decide +kernel
theorem dX10_deliverKept_219 : decode cX10_deliverKept 219 = .ok (.getfield 73, 3) := by decide +kernel
theorem dX10_deliverKept_222 : decode cX10_deliverKept 222 = .ok (.iconst 1, 1) := by decide +kernel
theorem dX10_deliverKept_223 : decode cX10_deliverKept 223 = .ok (.iadd, 1) := by decide +kernel
theorem dX10_deliverKept_224 : decode cX10_deliverKept 224 = .ok (.putfield 73, 3) := by decide +kernel
theorem dX10_deliverKept_227 : decode cX10_deliverKept 227 = .ok (.iconst 1, 1) := by decide +kernel
theorem dX10_deliverKept_228 : decode cX10_deliverKept 228 = .ok (.ireturn, 1) := by decide +kernel
theorem dX10_renumbered_0 : decode cX10_renumbered 0 = .ok (.iconst 0, 1) := by decide +kernel
theorem dX10_renumbered_1 : decode cX10_renumbered 1 = .ok (.istore_n 2, 1) := by decide +kernel
theorem dX10_renumbered_2 : decode cX10_renumbered 2 = .ok (.iload_n 2, 1) := by decide +kernel
theorem dX10_renumbered_3 : decode cX10_renumbered 3 = .ok (.aload_n 0, 1) := by decide +kernel
theorem dX10_renumbered_4 : decode cX10_renumbered 4 = .ok (.getfield 92, 3) := by decide +kernel
theorem dX10_renumbered_7 : decode cX10_renumbered 7 = .ok (.if_icmp .ge 23, 3) := by decide +kernel
theorem dX10_renumbered_10 : decode cX10_renumbered 10 = .ok (.aload_n 0, 1) := by decide +kernel
theorem dX10_renumbered_11 : decode cX10_renumbered 11 = .ok (.getfield 37, 3) := by decide +kernel
theorem dX10_renumbered_14 : decode cX10_renumbered 14 = .ok (.iload_n 2, 1) := by decide +kernel
theorem dX10_renumbered_15 : decode cX10_renumbered 15 = .ok (.iaload, 1) := by decide +kernel
theorem dX10_renumbered_16 : decode cX10_renumbered 16 = .ok (.iload_n 1, 1) := by decide +kernel
theorem dX10_renumbered_17 : decode cX10_renumbered 17 = .ok (.if_icmp .ne 7, 3) := by decide +kernel
theorem dX10_renumbered_20 : decode cX10_renumbered 20 = .ok (.iconst (-1), 1) := by decide +kernel
theorem dX10_renumbered_21 : decode cX10_renumbered 21 = .ok (.iload_n 2, 1) := by decide +kernel
theorem dX10_renumbered_22 : decode cX10_renumbered 22 = .ok (.isub, 1) := by decide +kernel
theorem dX10_renumbered_23 : decode cX10_renumbered 23 = .ok (.ireturn, 1) := by decide +kernel
theorem dX10_renumbered_24 : decode cX10_renumbered 24 = .ok (.iinc 2 1, 3) := by decide +kernel
theorem dX10_renumbered_27 : decode cX10_renumbered 27 = .ok (.goto (-25), 3) := by decide +kernel
theorem dX10_renumbered_30 : decode cX10_renumbered 30 = .ok (.aload_n 0, 1) := by decide +kernel
theorem dX10_renumbered_31 : decode cX10_renumbered 31 = .ok (.getfield 92, 3) := by decide +kernel
theorem dX10_renumbered_34 : decode cX10_renumbered 34 = .ok (.bipush 10, 2) := by decide +kernel
theorem dX10_renumbered_36 : decode cX10_renumbered 36 = .ok (.if_icmp .lt 5, 3) := by decide +kernel
theorem dX10_renumbered_39 : decode cX10_renumbered 39 = .ok (.iconst 0, 1) := by decide +kernel
theorem dX10_renumbered_40 : decode cX10_renumbered 40 = .ok (.ireturn, 1) := by decide +kernel
theorem dX10_renumbered_41 : decode cX10_renumbered 41 = .ok (.aload_n 0, 1) := by decide +kernel
theorem dX10_renumbered_42 : decode cX10_renumbered 42 = .ok (.getfield 37, 3) := by decide +kernel
theorem dX10_renumbered_45 : decode cX10_renumbered 45 = .ok (.aload_n 0, 1) := by decide +kernel
theorem dX10_renumbered_46 : decode cX10_renumbered 46 = .ok (.getfield 92, 3) := by decide +kernel
theorem dX10_renumbered_49 : decode cX10_renumbered 49 = .ok (.iload_n 1, 1) := by decide +kernel
theorem dX10_renumbered_50 : decode cX10_renumbered 50 = .ok (.iastore, 1) := by decide +kernel
theorem dX10_renumbered_51 : decode cX10_renumbered 51 = .ok (.aload_n 0, 1) := by decide +kernel
theorem dX10_renumbered_52 : decode cX10_renumbered 52 = .ok (.dup, 1) := by decide +kernel
theorem dX10_renumbered_53 : decode cX10_renumbered 53 = .ok (.getfield 92, 3) := by decide +kernel
theorem dX10_renumbered_56 : decode cX10_renumbered 56 = .ok (.iconst 1, 1) := by decide +kernel
theorem dX10_renumbered_57 : decode cX10_renumbered 57 = .ok (.iadd, 1) := by decide +kernel
theorem dX10_renumbered_58 : decode cX10_renumbered 58 = .ok (.putfield 92, 3) := by decide +kernel
theorem dX10_renumbered_61 : decode cX10_renumbered 61 = .ok (.aload_n 0, 1) := by decide +kernel
theorem dX10_renumbered_62 : decode cX10_renumbered 62 = .ok (.getfield 92, 3) := by decide +kernel
theorem dX10_renumbered_65 : decode cX10_renumbered 65 = .ok (.ineg, 1) := by decide +kernel
theorem dX10_renumbered_66 : decode cX10_renumbered 66 = .ok (.ireturn, 1) := by decide +kernel
theorem dX11_init_0 : decode cX11_init 0 = .ok (.aload_n 0, 1) := by decide +kernel
theorem dX11_init_1 : decode cX11_init 1 = .ok (.invokespecial 1, 3) := by decide +kernel
theorem dX11_init_4 : decode cX11_init 4 = .ok (.aload_n 0, 1) := by decide +kernel
theorem dX11_init_5 : decode cX11_init 5 = .ok (.new 7, 3) := by decide +kernel
theorem dX11_init_8 : decode cX11_init 8 = .ok (.dup, 1) := by decide +kernel
theorem dX11_init_9 : decode cX11_init 9 = .ok (.invokespecial 9, 3) := by decide +kernel
theorem dX11_init_12 : decode cX11_init 12 = .ok (.putfield 10, 3) := by decide +kernel
theorem dX11_init_15 : decode cX11_init 15 = .ok (.aload_n 0, 1) := by decide +kernel
theorem dX11_init_16 : decode cX11_init 16 = .ok (.new 16, 3) := by decide +kernel
theorem dX11_init_19 : decode cX11_init 19 = .ok (.dup, 1) := by decide +kernel
theorem dX11_init_20 : decode cX11_init 20 = .ok (.invokespecial 18, 3) := by decide +kernel
theorem dX11_init_23 : decode cX11_init 23 = .ok (.putfield 19, 3) := by decide +kernel
theorem dX11_init_26 : decode cX11_init 26 = .ok (.aload_n 0, 1) := by decide +kernel
theorem dX11_init_27 : decode cX11_init 27 = .ok (.new 23, 3) := by decide +kernel
theorem dX11_init_30 : decode cX11_init 30 = .ok (.dup, 1) := by decide +kernel
theorem dX11_init_31 : decode cX11_init 31 = .ok (.invokespecial 25, 3) := by decide +kernel
theorem dX11_init_34 : decode cX11_init 34 = .ok (.putfield 26, 3) := by decide +kernel
theorem dX11_init_37 : decode cX11_init 37 = .ok (.aload_n 0, 1) := by decide +kernel
theorem dX11_init_38 : decode cX11_init 38 = .ok (.new 30, 3) := by decide +kernel
theorem dX11_init_41 : decode cX11_init 41 = .ok (.dup, 1) := by decide +kernel
theorem dX11_init_42 : decode cX11_init 42 = .ok (.aload_n 0, 1) := by decide +kernel
theorem dX11_init_43 : decode cX11_init 43 = .ok (.getfield 10, 3) := by decide +kernel
theorem dX11_init_46 : decode cX11_init 46 = .ok (.aload_n 0, 1) := by decide +kernel
theorem dX11_init_47 : decode cX11_init 47 = .ok (.getfield 19, 3) := by decide +kernel
theorem dX11_init_50 : decode cX11_init 50 = .ok (.aload_n 0, 1) := by decide +kernel
theorem dX11_init_51 : decode cX11_init 51 = .ok (.getfield 26, 3) := by decide +kernel
theorem dX11_init_54 : decode cX11_init 54 = .ok (.invokespecial 32, 3) := by decide +kernel
theorem dX11_init_57 : decode cX11_init 57 = .ok (.putfield 35, 3) := by decide +kernel
theorem dX11_init_60 : decode cX11_init 60 = .ok (.aload_n 0, 1) := by decide +kernel
theorem dX11_init_61 : decode cX11_init 61 = .ok (.new 39, 3) := by decide +kernel
theorem dX11_init_64 : decode cX11_init 64 = .ok (.dup, 1) := by decide +kernel
theorem dX11_init_65 : decode cX11_init 65 = .ok (.aload_n 0, 1) := by decide +kernel
theorem dX11_init_66 : decode cX11_init 66 = .ok (.getfield 19, 3) := by decide +kernel
theorem dX11_init_69 : decode cX11_init 69 = .ok (.aload_n 0, 1) := by decide +kernel
theorem dX11_init_70 : decode cX11_init 70 = .ok (.getfield 26, 3) := by decide +kernel
theorem dX11_init_73 : decode cX11_init 73 = .ok (.new 41, 3) := by decide +kernel
theorem dX11_init_76 : decode cX11_init 76 = .ok (.dup, 1) := by decide +kernel
theorem dX11_init_77 : decode cX11_init 77 = .ok (.invokespecial 43, 3) := by decide +kernel
theorem dX11_init_80 : decode cX11_init 80 = .ok (.invokespecial 44, 3) := by decide +kernel
theorem dX11_init_83 : decode cX11_init 83 = .ok (.putfield 47, 3) := by decide +kernel
theorem dX11_init_86 : decode cX11_init 86 = .ok (.new 51, 3) := by decide +kernel
theorem dX11_init_89 : decode cX11_init 89 = .ok (.dup, 1) := by decide +kernel
theorem dX11_init_90 : decode cX11_init 90 = .ok (.aload_n 0, 1) := by decide +kernel
theorem dX11_init_91 : decode cX11_init 91 = .ok (.getfield 19, 3) := by decide +kernel
theorem dX11_init_94 : decode cX11_init 94 = .ok (.invokespecial 53, 3) := by decide +kernel
theorem dX11_init_97 : decode cX11_init 97 = .ok (.astore_n 1, 1) := by decide +kernel
theorem dX11_init_98 : decode cX11_init 98 = .ok (.new 56, 3) := by decide +kernel
theorem dX11_init_101 : decode cX11_init 101 = .ok (.dup, 1) := by decide +kernel
theorem dX11_init_102 : decode cX11_init 102 = .ok (.aload_n 0, 1) := by decide +kernel
theorem dX11_init_103 : decode cX11_init 103 = .ok (.getfield 19, 3) := by decide +kernel
theorem dX11_init_106 : decode cX11_init 106 = .ok (.aload_n 1, 1) := by decide +kernel
theorem dX11_init_107 : decode cX11_init 107 = .ok (.invokespecial 58, 3) := by decide +kernel
theorem dX11_init_110 : decode cX11_init 110 = .ok (.astore_n 2, 1) := by decide +kernel
theorem dX11_init_111 : decode cX11_init 111 = .ok (.new 56, 3) := by decide +kernel
theorem dX11_init_114 : decode cX11_init 114 = .ok (.dup, 1) := by decide +kernel
theorem dX11_init_115 : decode cX11_init 115 = .ok (.aload_n 0, 1) := by decide +kernel
theorem dX11_init_116 : decode cX11_init 116 = .ok (.getfield 19, 3) := by decide +kernel
theorem dX11_init_119 : decode cX11_init 119 = .ok (.aload_n 1, 1) := by decide +kernel
theorem dX11_init_120 : decode cX11_init 120 = .ok (.invokespecial 58, 3) := by decide +kernel
theorem dX11_init_123 : decode cX11_init 123 = .ok (.astore_n 3, 1) := by decide +kernel
theorem dX11_init_124 : decode cX11_init 124 = .ok (.new 56, 3) := by decide +kernel
theorem dX11_init_127 : decode cX11_init 127 = .ok (.dup, 1) := by decide +kernel
theorem dX11_init_128 : decode cX11_init 128 = .ok (.aload_n 0, 1) := by decide +kernel
theorem dX11_init_129 : decode cX11_init 129 = .ok (.getfield 19, 3) := by decide +kernel
theorem dX11_init_132 : decode cX11_init 132 = .ok (.aload_n 1, 1) := by decide +kernel
theorem dX11_init_133 : decode cX11_init 133 = .ok (.invokespecial 58, 3) := by decide +kernel
theorem dX11_init_136 : decode cX11_init 136 = .ok (.astore 4, 2) := by decide +kernel
theorem dX11_init_138 : decode cX11_init 138 = .ok (.aload_n 0, 1) := by decide +kernel
theorem dX11_init_139 : decode cX11_init 139 = .ok (.new 61, 3) := by decide +kernel
theorem dX11_init_142 : decode cX11_init 142 = .ok (.dup, 1) := by decide +kernel
theorem dX11_init_143 : decode cX11_init 143 = .ok (.aload_n 0, 1) := by decide +kernel
theorem dX11_init_144 : decode cX11_init 144 = .ok (.getfield 19, 3) := by decide +kernel
theorem dX11_init_147 : decode cX11_init 147 = .ok (.aload_n 1, 1) := by decide +kernel
theorem dX11_init_148 : decode cX11_init 148 = .ok (.new 63, 3) := by decide +kernel
theorem dX11_init_151 : decode cX11_init 151 = .ok (.dup, 1) := by decide +kernel
theorem dX11_init_152 : decode cX11_init 152 = .ok (.aload_n 0, 1) := by decide +kernel
theorem dX11_init_153 : decode cX11_init 153 = .ok (.getfield 19, 3) := by decide +kernel
theorem dX11_init_156 : decode cX11_init 156 = .ok (.aload_n 1, 1) := by decide +kernel
theorem dX11_init_157 : decode cX11_init 157 = .ok (.aload_n 2, 1) := by decide +kernel
theorem dX11_init_158 : decode cX11_init 158 = .ok (.aload_n 3, 1) := by decide +kernel
theorem dX11_init_159 : decode cX11_init 159 = .ok (.aload 4, 2) := by decide +kernel
theorem dX11_init_161 : decode cX11_init 161 = .ok (.invokespecial 65, 3) := by decide +kernel
theorem dX11_init_164 : decode cX11_init 164 = .ok (.invokespecial 68, 3) := by decide +kernel
theorem dX11_init_167 : decode cX11_init 167 = .ok (.putfield 71, 3) := by decide +kernel
theorem dX11_init_170 : decode cX11_init 170 = .ok (.aload_n 0, 1) := by decide +kernel
theorem dX11_init_171 : decode cX11_init 171 = .ok (.new 75, 3) := by decide +kernel
theorem dX11_init_174 : decode cX11_init 174 = .ok (.dup, 1) := by decide +kernel
theorem dX11_init_175 : decode cX11_init 175 = .ok (.aload_n 0, 1) := by decide +kernel
theorem dX11_init_176 : decode cX11_init 176 = .ok (.getfield 19, 3) := by decide +kernel
theorem dX11_init_179 : decode cX11_init 179 = .ok (.aload 4, 2) := by decide +kernel
theorem dX11_init_181 : decode cX11_init 181 = .ok (.invokespecial 77, 3) := by decide +kernel
theorem dX11_init_184 : decode cX11_init 184 = .ok (.putfield 80, 3) := by decide +kernel
theorem dX11_init_187 : decode cX11_init 187 = .ok (.aload_n 0, 1) := by decide +kernel
theorem dX11_init_188 : decode cX11_init 188 = .ok (.iconst (-1), 1) := by decide +kernel
theorem dX11_init_189 : decode cX11_init 189 = .ok (.putfield 84, 3) := by decide +kernel
theorem dX11_init_192 : decode cX11_init 192 = .ok (.return_, 1) := by decide +kernel
theorem dX11_feed_0 : decode cX11_feed 0 = .ok (.iload_n 3, 1) := by decide +kernel
theorem dX11_feed_1 : decode cX11_feed 1 = .ok (.ifCond .lt 9, 3) := by decide +kernel
theorem dX11_feed_4 : decode cX11_feed 4 = .ok (.iload_n 3, 1) := by decide +kernel
theorem dX11_feed_5 : decode cX11_feed 5 = .ok (.bipush 8, 2) := by decide +kernel
theorem dX11_feed_7 : decode cX11_feed 7 = .ok (.if_icmp .le 6, 3) := by decide +kernel
theorem dX11_feed_10 : decode cX11_feed 10 = .ok (.bipush (-2), 2) := by decide +kernel
theorem dX11_feed_12 : decode cX11_feed 12 = .ok (.ireturn, 1) := by decide +kernel
theorem dX11_feed_13 : decode cX11_feed 13 = .ok (.iload_n 3, 1) := by decide +kernel
theorem dX11_feed_14 : decode cX11_feed 14 = .ok (.ifCond .ne 13, 3) := by decide +kernel
theorem dX11_feed_17 : decode cX11_feed 17 = .ok (.aload_n 0, 1) := by decide +kernel
theorem dX11_feed_18 : decode cX11_feed 18 = .ok (.getfield 10, 3) := by decide +kernel
theorem dX11_feed_21 : decode cX11_feed 21 = .ok (.iconst 0, 1) := by decide +kernel
theorem dX11_feed_22 : decode cX11_feed 22 = .ok (.putfield 88, 3) := by decide +kernel
theorem dX11_feed_25 : decode cX11_feed 25 = .ok (.iconst 0, 1) := by decide +kernel
theorem dX11_feed_26 : decode cX11_feed 26 = .ok (.ireturn, 1) := by decide +kernel
theorem dX11_feed_27 : decode cX11_feed 27 = .ok (.aload_n 0, 1) := by decide +kernel
theorem dX11_feed_28 : decode cX11_feed 28 = .ok (.getfield 10, 3) := by decide +kernel
theorem dX11_feed_31 : decode cX11_feed 31 = .ok (.lload_n 1, 1) := by decide +kernel
theorem dX11_feed_32 : decode cX11_feed 32 = .ok (.iload_n 3, 1) := by decide +kernel
theorem dX11_feed_33 : decode cX11_feed 33 = .ok (.invokevirtual 91, 3) := by decide +kernel
theorem dX11_feed_36 : decode cX11_feed 36 = .ok (.ifCond .eq 13, 3) := by decide +kernel
theorem dX11_feed_39 : decode cX11_feed 39 = .ok (.aload_n 0, 1) := by decide +kernel
theorem dX11_feed_40 : decode cX11_feed 40 = .ok (.getfield 10, 3) := by decide +kernel
theorem dX11_feed_43 : decode cX11_feed 43 = .ok (.getfield 88, 3) := by decide +kernel
theorem dX11_feed_46 : decode cX11_feed 46 = .ok (.goto 5, 3) := by decide +kernel
theorem dX11_feed_49 : decode cX11_feed 49 = .ok (.bipush (-4), 2) := by decide +kernel
theorem dX11_feed_51 : decode cX11_feed 51 = .ok (.ireturn, 1) := by decide +kernel
theorem dX11_read_0 : decode cX11_read 0 = .ok (.aload_n 0, 1) := by decide +kernel
theorem dX11_read_1 : decode cX11_read 1 = .ok (.getfield 19, 3) := by decide +kernel
theorem dX11_read_4 : decode cX11_read 4 = .ok (.getfield 95, 3) := by decide +kernel
theorem dX11_read_7 : decode cX11_read 7 = .ok (.istore_n 1, 1) := by decide +kernel
theorem dX11_read_8 : decode cX11_read 8 = .ok (.aload_n 0, 1) := by decide +kernel
theorem dX11_read_9 : decode cX11_read 9 = .ok (.getfield 19, 3) := by decide +kernel
theorem dX11_read_12 : decode cX11_read 12 = .ok (.getfield 98, 3) := by decide +kernel
theorem dX11_read_15 : decode cX11_read 15 = .ok (.istore_n 2, 1) := by decide +kernel
theorem dX11_read_16 : decode cX11_read 16 = .ok (.aload_n 0, 1) := by decide +kernel
theorem dX11_read_17 : decode cX11_read 17 = .ok (.getfield 19, 3) := by decide +kernel
theorem dX11_read_20 : decode cX11_read 20 = .ok (.getfield 101, 3) := by decide +kernel
theorem dX11_read_23 : decode cX11_read 23 = .ok (.istore_n 3, 1) := by decide +kernel
theorem dX11_read_24 : decode cX11_read 24 = .ok (.aload_n 0, 1) := by decide +kernel
theorem dX11_read_25 : decode cX11_read 25 = .ok (.getfield 35, 3) := by decide +kernel
theorem dX11_read_28 : decode cX11_read 28 = .ok (.invokevirtual 104, 3) := by decide +kernel
theorem dX11_read_31 : decode cX11_read 31 = .ok (.iconst 0, 1) := by decide +kernel
theorem dX11_read_32 : decode cX11_read 32 = .ok (.istore 4, 2) := by decide +kernel
theorem dX11_read_34 : decode cX11_read 34 = .ok (.iload 4, 2) := by decide +kernel
theorem dX11_read_36 : decode cX11_read 36 = .ok (.sipush 1500, 3) := by decide +kernel
theorem dX11_read_39 : decode cX11_read 39 = .ok (.if_icmp .ge 105, 3) := by decide +kernel
theorem dX11_read_42 : decode cX11_read 42 = .ok (.aload_n 0, 1) := by decide +kernel
theorem dX11_read_43 : decode cX11_read 43 = .ok (.getfield 35, 3) := by decide +kernel
theorem dX11_read_46 : decode cX11_read 46 = .ok (.invokevirtual 107, 3) := by decide +kernel
theorem dX11_read_49 : decode cX11_read 49 = .ok (.iconst 1, 1) := by decide +kernel
theorem dX11_read_50 : decode cX11_read 50 = .ok (.if_icmp .eq 94, 3) := by decide +kernel
theorem dX11_read_53 : decode cX11_read 53 = .ok (.aload_n 0, 1) := by decide +kernel
theorem dX11_read_54 : decode cX11_read 54 = .ok (.getfield 10, 3) := by decide +kernel
theorem dX11_read_57 : decode cX11_read 57 = .ok (.getfield 111, 3) := by decide +kernel
theorem dX11_read_60 : decode cX11_read 60 = .ok (.istore 5, 2) := by decide +kernel
theorem dX11_read_62 : decode cX11_read 62 = .ok (.aload_n 0, 1) := by decide +kernel
theorem dX11_read_63 : decode cX11_read 63 = .ok (.getfield 26, 3) := by decide +kernel
theorem dX11_read_66 : decode cX11_read 66 = .ok (.invokevirtual 114, 3) := by decide +kernel
theorem dX11_read_69 : decode cX11_read 69 = .ok (.aload_n 0, 1) := by decide +kernel
theorem dX11_read_70 : decode cX11_read 70 = .ok (.getfield 35, 3) := by decide +kernel
theorem dX11_read_73 : decode cX11_read 73 = .ok (.invokevirtual 115, 3) := by decide +kernel
theorem dX11_read_76 : decode cX11_read 76 = .ok (.istore 6, 2) := by decide +kernel
theorem dX11_read_78 : decode cX11_read 78 = .ok (.aload_n 0, 1) := by decide +kernel
theorem dX11_read_79 : decode cX11_read 79 = .ok (.getfield 35, 3) := by decide +kernel
theorem dX11_read_82 : decode cX11_read 82 = .ok (.bipush 7, 2) := by decide +kernel
theorem dX11_read_84 : decode cX11_read 84 = .ok (.invokevirtual 118, 3) := by decide +kernel
theorem dX11_read_87 : decode cX11_read 87 = .ok (.pop, 1) := by decide +kernel
theorem dX11_read_88 : decode cX11_read 88 = .ok (.aload_n 0, 1) := by decide +kernel
theorem dX11_read_89 : decode cX11_read 89 = .ok (.getfield 35, 3) := by decide +kernel
theorem dX11_read_92 : decode cX11_read 92 = .ok (.getfield 122, 3) := by decide +kernel
theorem dX11_read_95 : decode cX11_read 95 = .ok (.ifCond .eq 6, 3) := by decide +kernel
theorem dX11_read_98 : decode cX11_read 98 = .ok (.goto 46, 3) := by decide +kernel
theorem dX11_read_101 : decode cX11_read 101 = .ok (.aload_n 0, 1) := by decide +kernel
theorem dX11_read_102 : decode cX11_read 102 = .ok (.getfield 19, 3) := by decide +kernel
theorem dX11_read_105 : decode cX11_read 105 = .ok (.getfield 98, 3) := by decide +kernel
theorem dX11_read_108 : decode cX11_read 108 = .ok (.bipush 60, 2) := by decide +kernel
theorem dX11_read_110 : decode cX11_read 110 = .ok (.if_icmp .gt 15, 3) := by decide +kernel
theorem dX11_read_113 : decode cX11_read 113 = .ok (.aload_n 0, 1) := by decide +kernel
theorem dX11_read_114 : decode cX11_read 114 = .ok (.getfield 47, 3) := by decide +kernel
theorem dX11_read_117 : decode cX11_read 117 = .ok (.iload 6, 2) := by decide +kernel
theorem dX11_read_119 : decode cX11_read 119 = .ok (.invokevirtual 125, 3) := by decide +kernel
theorem dX11_read_122 : decode cX11_read 122 = .ok (.ifCond .ne 16, 3) := by decide +kernel
theorem dX11_read_125 : decode cX11_read 125 = .ok (.aload_n 0, 1) := by decide +kernel
theorem dX11_read_126 : decode cX11_read 126 = .ok (.getfield 35, 3) := by decide +kernel
theorem dX11_read_129 : decode cX11_read 129 = .ok (.iconst 5, 1) := by decide +kernel
theorem dX11_read_130 : decode cX11_read 130 = .ok (.iload 5, 2) := by decide +kernel
theorem dX11_read_132 : decode cX11_read 132 = .ok (.invokevirtual 128, 3) := by decide +kernel
theorem dX11_read_135 : decode cX11_read 135 = .ok (.goto 9, 3) := by decide +kernel
theorem dX11_read_138 : decode cX11_read 138 = .ok (.iinc 4 1, 3) := by decide +kernel
theorem dX11_read_141 : decode cX11_read 141 = .ok (.goto (-107), 3) := by decide +kernel
theorem dX11_read_144 : decode cX11_read 144 = .ok (.aload_n 0, 1) := by decide +kernel
theorem dX11_read_145 : decode cX11_read 145 = .ok (.getfield 35, 3) := by decide +kernel
theorem dX11_read_148 : decode cX11_read 148 = .ok (.getfield 122, 3) := by decide +kernel
theorem dX11_read_151 : decode cX11_read 151 = .ok (.ifCond .eq 35, 3) := by decide +kernel
theorem dX11_read_154 : decode cX11_read 154 = .ok (.aload_n 0, 1) := by decide +kernel
theorem dX11_read_155 : decode cX11_read 155 = .ok (.getfield 19, 3) := by decide +kernel
theorem dX11_read_158 : decode cX11_read 158 = .ok (.iload_n 1, 1) := by decide +kernel
theorem dX11_read_159 : decode cX11_read 159 = .ok (.iload_n 2, 1) := by decide +kernel
theorem dX11_read_160 : decode cX11_read 160 = .ok (.iload_n 3, 1) := by decide +kernel
theorem dX11_read_161 : decode cX11_read 161 = .ok (.invokevirtual 132, 3) := by decide +kernel
theorem dX11_read_164 : decode cX11_read 164 = .ok (.aload_n 0, 1) := by decide +kernel
theorem dX11_read_165 : decode cX11_read 165 = .ok (.aload_n 0, 1) := by decide +kernel
theorem dX11_read_166 : decode cX11_read 166 = .ok (.getfield 35, 3) := by decide +kernel
theorem dX11_read_169 : decode cX11_read 169 = .ok (.getfield 136, 3) := by decide +kernel
theorem dX11_read_172 : decode cX11_read 172 = .ok (.putfield 84, 3) := by decide +kernel
theorem dX11_read_175 : decode cX11_read 175 = .ok (.bipush (-10), 2) := by decide +kernel
theorem dX11_read_177 : decode cX11_read 177 = .ok (.aload_n 0, 1) := by decide +kernel
theorem dX11_read_178 : decode cX11_read 178 = .ok (.getfield 35, 3) := by decide +kernel
theorem dX11_read_181 : decode cX11_read 181 = .ok (.getfield 122, 3) := by decide +kernel
theorem dX11_read_184 : decode cX11_read 184 = .ok (.isub, 1) := by decide +kernel
theorem dX11_read_185 : decode cX11_read 185 = .ok (.ireturn, 1) := by decide +kernel
theorem dX11_read_186 : decode cX11_read 186 = .ok (.aload_n 0, 1) := by decide +kernel
theorem dX11_read_187 : decode cX11_read 187 = .ok (.iconst (-1), 1) := by decide +kernel
theorem dX11_read_188 : decode cX11_read 188 = .ok (.putfield 84, 3) := by decide +kernel
theorem dX11_read_191 : decode cX11_read 191 = .ok (.aload_n 0, 1) := by decide +kernel
theorem dX11_read_192 : decode cX11_read 192 = .ok (.getfield 71, 3) := by decide +kernel
theorem dX11_read_195 : decode cX11_read 195 = .ok (.invokevirtual 137, 3) := by decide +kernel
theorem dX11_read_198 : decode cX11_read 198 = .ok (.aload_n 0, 1) := by decide +kernel
theorem dX11_read_199 : decode cX11_read 199 = .ok (.getfield 19, 3) := by decide +kernel
theorem dX11_read_202 : decode cX11_read 202 = .ok (.getfield 95, 3) := by decide +kernel
theorem dX11_read_205 : decode cX11_read 205 = .ok (.ireturn, 1) := by decide +kernel
theorem dX11_place_0 : decode cX11_place 0 = .ok (.aload_n 0, 1) := by decide +kernel
theorem dX11_place_1 : decode cX11_place 1 = .ok (.getfield 84, 3) := by decide +kernel
theorem dX11_place_4 : decode cX11_place 4 = .ok (.ireturn, 1) := by decide +kernel
theorem dX11_clear_0 : decode cX11_clear 0 = .ok (.aload_n 0, 1) := by decide +kernel
theorem dX11_clear_1 : decode cX11_clear 1 = .ok (.getfield 19, 3) := by decide +kernel
theorem dX11_clear_4 : decode cX11_clear 4 = .ok (.getfield 95, 3) := by decide +kernel
theorem dX11_clear_7 : decode cX11_clear 7 = .ok (.istore_n 1, 1) := by decide +kernel
theorem dX11_clear_8 : decode cX11_clear 8 = .ok (.aload_n 0, 1) := by decide +kernel
theorem dX11_clear_9 : decode cX11_clear 9 = .ok (.getfield 19, 3) := by decide +kernel
theorem dX11_clear_12 : decode cX11_clear 12 = .ok (.iconst 0, 1) := by decide +kernel
theorem dX11_clear_13 : decode cX11_clear 13 = .ok (.iconst 0, 1) := by decide +kernel
theorem dX11_clear_14 : decode cX11_clear 14 = .ok (.iconst 0, 1) := by decide +kernel
theorem dX11_clear_15 : decode cX11_clear 15 = .ok (.invokevirtual 132, 3) := by decide +kernel
theorem dX11_clear_18 : decode cX11_clear 18 = .ok (.aload_n 0, 1) := by decide +kernel
theorem dX11_clear_19 : decode cX11_clear 19 = .ok (.getfield 71, 3) := by decide +kernel
theorem dX11_clear_22 : decode cX11_clear 22 = .ok (.invokevirtual 137, 3) := by decide +kernel
theorem dX11_clear_25 : decode cX11_clear 25 = .ok (.iload_n 1, 1) := by decide +kernel
theorem dX11_clear_26 : decode cX11_clear 26 = .ok (.ireturn, 1) := by decide +kernel
theorem dX11_count_0 : decode cX11_count 0 = .ok (.iload_n 1, 1) := by decide +kernel
theorem dX11_count_1 : decode cX11_count 1 = .ok (.tableswitch 51 0 2 #[27, 35, 43], 27) := by decide +kernel
theorem dX11_count_28 : decode cX11_count 28 = .ok (.aload_n 0, 1) := by decide +kernel
theorem dX11_count_29 : decode cX11_count 29 = .ok (.getfield 19, 3) := by decide +kernel
theorem dX11_count_32 : decode cX11_count 32 = .ok (.getfield 95, 3) := by decide +kernel
theorem dX11_count_35 : decode cX11_count 35 = .ok (.ireturn, 1) := by decide +kernel
theorem dX11_count_36 : decode cX11_count 36 = .ok (.aload_n 0, 1) := by decide +kernel
theorem dX11_count_37 : decode cX11_count 37 = .ok (.getfield 19, 3) := by decide +kernel
theorem dX11_count_40 : decode cX11_count 40 = .ok (.getfield 98, 3) := by decide +kernel
theorem dX11_count_43 : decode cX11_count 43 = .ok (.ireturn, 1) := by decide +kernel
theorem dX11_count_44 : decode cX11_count 44 = .ok (.aload_n 0, 1) := by decide +kernel
theorem dX11_count_45 : decode cX11_count 45 = .ok (.getfield 19, 3) := by decide +kernel
theorem dX11_count_48 : decode cX11_count 48 = .ok (.getfield 101, 3) := by decide +kernel
theorem dX11_count_51 : decode cX11_count 51 = .ok (.ireturn, 1) := by decide +kernel
theorem dX11_count_52 : decode cX11_count 52 = .ok (.bipush (-2), 2) := by decide +kernel
theorem dX11_count_54 : decode cX11_count 54 = .ok (.ireturn, 1) := by decide +kernel
theorem dX11_clause_0 : decode cX11_clause 0 = .ok (.aload_n 0, 1) := by decide +kernel
theorem dX11_clause_1 : decode cX11_clause 1 = .ok (.getfield 19, 3) := by decide +kernel
theorem dX11_clause_4 : decode cX11_clause 4 = .ok (.iload_n 1, 1) := by decide +kernel
theorem dX11_clause_5 : decode cX11_clause 5 = .ok (.invokevirtual 140, 3) := by decide +kernel
theorem dX11_clause_8 : decode cX11_clause 8 = .ok (.ifCond .ne 5, 3) := by decide +kernel
theorem dX11_clause_11 : decode cX11_clause 11 = .ok (.iconst (-1), 1) := by decide +kernel
theorem dX11_clause_12 : decode cX11_clause 12 = .ok (.ireturn, 1) := by decide +kernel
theorem dX11_clause_13 : decode cX11_clause 13 = .ok (.aload_n 0, 1) := by decide +kernel
theorem dX11_clause_14 : decode cX11_clause 14 = .ok (.getfield 19, 3) := by decide +kernel
theorem dX11_clause_17 : decode cX11_clause 17 = .ok (.getfield 143, 3) := by decide +kernel
theorem dX11_clause_20 : decode cX11_clause 20 = .ok (.iload_n 1, 1) := by decide +kernel
theorem dX11_clause_21 : decode cX11_clause 21 = .ok (.iaload, 1) := by decide +kernel
theorem dX11_clause_22 : decode cX11_clause 22 = .ok (.istore_n 3, 1) := by decide +kernel
theorem dX11_clause_23 : decode cX11_clause 23 = .ok (.aload_n 0, 1) := by decide +kernel
theorem dX11_clause_24 : decode cX11_clause 24 = .ok (.getfield 19, 3) := by decide +kernel
theorem dX11_clause_27 : decode cX11_clause 27 = .ok (.getfield 143, 3) := by decide +kernel
theorem dX11_clause_30 : decode cX11_clause 30 = .ok (.iload_n 1, 1) := by decide +kernel
theorem dX11_clause_31 : decode cX11_clause 31 = .ok (.iconst 1, 1) := by decide +kernel
theorem dX11_clause_32 : decode cX11_clause 32 = .ok (.iadd, 1) := by decide +kernel
theorem dX11_clause_33 : decode cX11_clause 33 = .ok (.iaload, 1) := by decide +kernel
theorem dX11_clause_34 : decode cX11_clause 34 = .ok (.istore 4, 2) := by decide +kernel
theorem dX11_clause_36 : decode cX11_clause 36 = .ok (.iload_n 2, 1) := by decide +kernel
theorem dX11_clause_37 : decode cX11_clause 37 = .ok (.tableswitch 63 0 2 #[27, 32, 42], 27) := by decide +kernel
theorem dX11_clause_64 : decode cX11_clause 64 = .ok (.iload 4, 2) := by decide +kernel
theorem dX11_clause_66 : decode cX11_clause 66 = .ok (.iload_n 3, 1) := by decide +kernel
theorem dX11_clause_67 : decode cX11_clause 67 = .ok (.isub, 1) := by decide +kernel
theorem dX11_clause_68 : decode cX11_clause 68 = .ok (.ireturn, 1) := by decide +kernel
theorem dX11_clause_69 : decode cX11_clause 69 = .ok (.aload_n 0, 1) := by decide +kernel
theorem dX11_clause_70 : decode cX11_clause 70 = .ok (.getfield 19, 3) := by decide +kernel
theorem dX11_clause_73 : decode cX11_clause 73 = .ok (.getfield 147, 3) := by decide +kernel
theorem dX11_clause_76 : decode cX11_clause 76 = .ok (.iload_n 1, 1) := by decide +kernel
theorem dX11_clause_77 : decode cX11_clause 77 = .ok (.iaload, 1) := by decide +kernel
theorem dX11_clause_78 : decode cX11_clause 78 = .ok (.ireturn, 1) := by decide +kernel
theorem dX11_clause_79 : decode cX11_clause 79 = .ok (.aload_n 0, 1) := by decide +kernel
theorem dX11_clause_80 : decode cX11_clause 80 = .ok (.getfield 19, 3) := by decide +kernel
theorem dX11_clause_83 : decode cX11_clause 83 = .ok (.getfield 150, 3) := by decide +kernel
theorem dX11_clause_86 : decode cX11_clause 86 = .ok (.iload 4, 2) := by decide +kernel
theorem dX11_clause_88 : decode cX11_clause 88 = .ok (.iaload, 1) := by decide +kernel
theorem dX11_clause_89 : decode cX11_clause 89 = .ok (.aload_n 0, 1) := by decide +kernel
theorem dX11_clause_90 : decode cX11_clause 90 = .ok (.getfield 19, 3) := by decide +kernel
theorem dX11_clause_93 : decode cX11_clause 93 = .ok (.getfield 150, 3) := by decide +kernel
theorem dX11_clause_96 : decode cX11_clause 96 = .ok (.iload_n 3, 1) := by decide +kernel
theorem dX11_clause_97 : decode cX11_clause 97 = .ok (.iaload, 1) := by decide +kernel
theorem dX11_clause_98 : decode cX11_clause 98 = .ok (.isub, 1) := by decide +kernel
theorem dX11_clause_99 : decode cX11_clause 99 = .ok (.ireturn, 1) := by decide +kernel
theorem dX11_clause_100 : decode cX11_clause 100 = .ok (.bipush (-2), 2) := by decide +kernel
theorem dX11_clause_102 : decode cX11_clause 102 = .ok (.ireturn, 1) := by decide +kernel
theorem dX11_write_0 : decode cX11_write 0 = .ok (.aload_n 0, 1) := by decide +kernel
theorem dX11_write_1 : decode cX11_write 1 = .ok (.getfield 19, 3) := by decide +kernel
theorem dX11_write_4 : decode cX11_write 4 = .ok (.iload_n 1, 1) := by decide +kernel
theorem dX11_write_5 : decode cX11_write 5 = .ok (.invokevirtual 140, 3) := by decide +kernel
theorem dX11_write_8 : decode cX11_write 8 = .ok (.ifCond .ne 5, 3) := by decide +kernel
theorem dX11_write_11 : decode cX11_write 11 = .ok (.iconst (-1), 1) := by decide +kernel
theorem dX11_write_12 : decode cX11_write 12 = .ok (.ireturn, 1) := by decide +kernel
theorem dX11_write_13 : decode cX11_write 13 = .ok (.aload_n 0, 1) := by decide +kernel
theorem dX11_write_14 : decode cX11_write 14 = .ok (.getfield 80, 3) := by decide +kernel
theorem dX11_write_17 : decode cX11_write 17 = .ok (.invokevirtual 153, 3) := by decide +kernel
theorem dX11_write_20 : decode cX11_write 20 = .ok (.aload_n 0, 1) := by decide +kernel
theorem dX11_write_21 : decode cX11_write 21 = .ok (.getfield 80, 3) := by decide +kernel
theorem dX11_write_24 : decode cX11_write 24 = .ok (.iload_n 1, 1) := by decide +kernel
theorem dX11_write_25 : decode cX11_write 25 = .ok (.sipush 210, 3) := by decide +kernel
theorem dX11_write_28 : decode cX11_write 28 = .ok (.invokevirtual 154, 3) := by decide +kernel
theorem dX11_write_31 : decode cX11_write 31 = .ok (.aload_n 0, 1) := by decide +kernel
theorem dX11_write_32 : decode cX11_write 32 = .ok (.getfield 80, 3) := by decide +kernel
theorem dX11_write_35 : decode cX11_write 35 = .ok (.invokevirtual 157, 3) := by decide +kernel
theorem dX11_write_38 : decode cX11_write 38 = .ok (.ireturn, 1) := by decide +kernel
theorem dX11_octet_0 : decode cX11_octet 0 = .ok (.iload_n 1, 1) := by decide +kernel
theorem dX11_octet_1 : decode cX11_octet 1 = .ok (.ifCond .lt 14, 3) := by decide +kernel
theorem dX11_octet_4 : decode cX11_octet 4 = .ok (.iload_n 1, 1) := by decide +kernel
theorem dX11_octet_5 : decode cX11_octet 5 = .ok (.aload_n 0, 1) := by decide +kernel
theorem dX11_octet_6 : decode cX11_octet 6 = .ok (.getfield 80, 3) := by decide +kernel
theorem dX11_octet_9 : decode cX11_octet 9 = .ok (.getfield 160, 3) := by decide +kernel
theorem dX11_octet_12 : decode cX11_octet 12 = .ok (.if_icmp .lt 7, 3) := by decide +kernel
theorem dX11_octet_15 : decode cX11_octet 15 = .ok (.iconst (-1), 1) := by decide +kernel
theorem dX11_octet_16 : decode cX11_octet 16 = .ok (.goto 16, 3) := by decide +kernel
theorem dX11_octet_19 : decode cX11_octet 19 = .ok (.aload_n 0, 1) := by decide +kernel
theorem dX11_octet_20 : decode cX11_octet 20 = .ok (.getfield 80, 3) := by decide +kernel
theorem dX11_octet_23 : decode cX11_octet 23 = .ok (.getfield 161, 3) := by decide +kernel
theorem dX11_octet_26 : decode cX11_octet 26 = .ok (.iload_n 1, 1) := by decide +kernel
theorem dX11_octet_27 : decode cX11_octet 27 = .ok (.baload, 1) := by decide +kernel
theorem dX11_octet_28 : decode cX11_octet 28 = .ok (.sipush 255, 3) := by decide +kernel
theorem dX11_octet_31 : decode cX11_octet 31 = .ok (.iand, 1) := by decide +kernel
theorem dX11_octet_32 : decode cX11_octet 32 = .ok (.ireturn, 1) := by decide +kernel
theorem dX11_search_0 : decode cX11_search 0 = .ok (.iload_n 1, 1) := by decide +kernel
theorem dX11_search_1 : decode cX11_search 1 = .ok (.iconst 1, 1) := by decide +kernel
theorem dX11_search_2 : decode cX11_search 2 = .ok (.if_icmp .lt 20, 3) := by decide +kernel
theorem dX11_search_5 : decode cX11_search 5 = .ok (.iload_n 1, 1) := by decide +kernel
theorem dX11_search_6 : decode cX11_search 6 = .ok (.bipush 20, 2) := by decide +kernel
theorem dX11_search_8 : decode cX11_search 8 = .ok (.if_icmp .gt 14, 3) := by decide +kernel
theorem dX11_search_11 : decode cX11_search 11 = .ok (.iload_n 2, 1) := by decide +kernel
theorem dX11_search_12 : decode cX11_search 12 = .ok (.ifCond .lt 10, 3) := by decide +kernel
theorem dX11_search_15 : decode cX11_search 15 = .ok (.iload_n 2, 1) := by decide +kernel
theorem dX11_search_16 : decode cX11_search 16 = .ok (.sipush 20000, 3) := by decide +kernel
theorem dX11_search_19 : decode cX11_search 19 = .ok (.if_icmp .le 6, 3) := by decide +kernel
theorem dX11_search_22 : decode cX11_search 22 = .ok (.bipush (-2), 2) := by decide +kernel
theorem dX11_search_24 : decode cX11_search 24 = .ok (.ireturn, 1) := by decide +kernel
theorem dX11_search_25 : decode cX11_search 25 = .ok (.aload_n 0, 1) := by decide +kernel
theorem dX11_search_26 : decode cX11_search 26 = .ok (.getfield 71, 3) := by decide +kernel
theorem dX11_search_29 : decode cX11_search 29 = .ok (.iload_n 1, 1) := by decide +kernel
theorem dX11_search_30 : decode cX11_search 30 = .ok (.iload_n 2, 1) := by decide +kernel
theorem dX11_search_31 : decode cX11_search 31 = .ok (.invokevirtual 165, 3) := by decide +kernel
theorem dX11_search_34 : decode cX11_search 34 = .ok (.ireturn, 1) := by decide +kernel
theorem dX11_told_0 : decode cX11_told 0 = .ok (.iload_n 1, 1) := by decide +kernel
theorem dX11_told_1 : decode cX11_told 1 = .ok (.tableswitch 51 0 2 #[27, 35, 43], 27) := by decide +kernel
theorem dX11_told_28 : decode cX11_told 28 = .ok (.aload_n 0, 1) := by decide +kernel
theorem dX11_told_29 : decode cX11_told 29 = .ok (.getfield 71, 3) := by decide +kernel
theorem dX11_told_32 : decode cX11_told 32 = .ok (.getfield 169, 3) := by decide +kernel
theorem dX11_told_35 : decode cX11_told 35 = .ok (.ireturn, 1) := by decide +kernel
theorem dX11_told_36 : decode cX11_told 36 = .ok (.aload_n 0, 1) := by decide +kernel
theorem dX11_told_37 : decode cX11_told 37 = .ok (.getfield 71, 3) := by decide +kernel
theorem dX11_told_40 : decode cX11_told 40 = .ok (.getfield 172, 3) := by decide +kernel
theorem dX11_told_43 : decode cX11_told 43 = .ok (.ireturn, 1) := by decide +kernel
theorem dX11_told_44 : decode cX11_told 44 = .ok (.aload_n 0, 1) := by decide +kernel
theorem dX11_told_45 : decode cX11_told 45 = .ok (.getfield 71, 3) := by decide +kernel
theorem dX11_told_48 : decode cX11_told 48 = .ok (.getfield 175, 3) := by decide +kernel
theorem dX11_told_51 : decode cX11_told 51 = .ok (.ireturn, 1) := by decide +kernel
theorem dX11_told_52 : decode cX11_told 52 = .ok (.bipush (-2), 2) := by decide +kernel
theorem dX11_told_54 : decode cX11_told 54 = .ok (.ireturn, 1) := by decide +kernel
theorem dX11_move_0 : decode cX11_move 0 = .ok (.iload_n 1, 1) := by decide +kernel
theorem dX11_move_1 : decode cX11_move 1 = .ok (.ifCond .lt 14, 3) := by decide +kernel
theorem dX11_move_4 : decode cX11_move 4 = .ok (.iload_n 1, 1) := by decide +kernel
theorem dX11_move_5 : decode cX11_move 5 = .ok (.aload_n 0, 1) := by decide +kernel
theorem dX11_move_6 : decode cX11_move 6 = .ok (.getfield 71, 3) := by decide +kernel
theorem dX11_move_9 : decode cX11_move 9 = .ok (.getfield 175, 3) := by decide +kernel
theorem dX11_move_12 : decode cX11_move 12 = .ok (.if_icmp .lt 5, 3) := by decide +kernel
theorem dX11_move_15 : decode cX11_move 15 = .ok (.iconst (-1), 1) := by decide +kernel
theorem dX11_move_16 : decode cX11_move 16 = .ok (.ireturn, 1) := by decide +kernel
theorem dX11_move_17 : decode cX11_move 17 = .ok (.iload_n 2, 1) := by decide +kernel
theorem dX11_move_18 : decode cX11_move 18 = .ok (.tableswitch 67 0 3 #[30, 40, 49, 58], 30) := by decide +kernel
theorem dX11_move_48 : decode cX11_move 48 = .ok (.aload_n 0, 1) := by decide +kernel
theorem dX11_move_49 : decode cX11_move 49 = .ok (.getfield 71, 3) := by decide +kernel
theorem dX11_move_52 : decode cX11_move 52 = .ok (.getfield 178, 3) := by decide +kernel
theorem dX11_move_55 : decode cX11_move 55 = .ok (.iload_n 1, 1) := by decide +kernel
theorem dX11_move_56 : decode cX11_move 56 = .ok (.iaload, 1) := by decide +kernel
theorem dX11_move_57 : decode cX11_move 57 = .ok (.ireturn, 1) := by decide +kernel
theorem dX11_move_58 : decode cX11_move 58 = .ok (.aload_n 0, 1) := by decide +kernel
theorem dX11_move_59 : decode cX11_move 59 = .ok (.getfield 71, 3) := by decide +kernel
theorem dX11_move_62 : decode cX11_move 62 = .ok (.iload_n 1, 1) := by decide +kernel
theorem dX11_move_63 : decode cX11_move 63 = .ok (.invokevirtual 181, 3) := by decide +kernel
theorem dX11_move_66 : decode cX11_move 66 = .ok (.ireturn, 1) := by decide +kernel
theorem dX11_move_67 : decode cX11_move 67 = .ok (.aload_n 0, 1) := by decide +kernel
theorem dX11_move_68 : decode cX11_move 68 = .ok (.getfield 71, 3) := by decide +kernel
theorem dX11_move_71 : decode cX11_move 71 = .ok (.iload_n 1, 1) := by decide +kernel
theorem dX11_move_72 : decode cX11_move 72 = .ok (.invokevirtual 185, 3) := by decide +kernel
theorem dX11_move_75 : decode cX11_move 75 = .ok (.ireturn, 1) := by decide +kernel
theorem dX11_move_76 : decode cX11_move 76 = .ok (.aload_n 0, 1) := by decide +kernel
theorem dX11_move_77 : decode cX11_move 77 = .ok (.getfield 71, 3) := by decide +kernel
theorem dX11_move_80 : decode cX11_move 80 = .ok (.iload_n 1, 1) := by decide +kernel
theorem dX11_move_81 : decode cX11_move 81 = .ok (.invokevirtual 188, 3) := by decide +kernel
theorem dX11_move_84 : decode cX11_move 84 = .ok (.ireturn, 1) := by decide +kernel
theorem dX11_move_85 : decode cX11_move 85 = .ok (.bipush (-2), 2) := by decide +kernel
theorem dX11_move_87 : decode cX11_move 87 = .ok (.ireturn, 1) := by decide +kernel
theorem dX11_show_0 : decode cX11_show 0 = .ok (.iload_n 1, 1) := by decide +kernel
theorem dX11_show_1 : decode cX11_show 1 = .ok (.ifCond .lt 14, 3) := by decide +kernel
theorem dX11_show_4 : decode cX11_show 4 = .ok (.iload_n 1, 1) := by decide +kernel
theorem dX11_show_5 : decode cX11_show 5 = .ok (.aload_n 0, 1) := by decide +kernel
theorem dX11_show_6 : decode cX11_show 6 = .ok (.getfield 71, 3) := by decide +kernel
theorem dX11_show_9 : decode cX11_show 9 = .ok (.getfield 175, 3) := by decide +kernel
theorem dX11_show_12 : decode cX11_show 12 = .ok (.if_icmp .lt 5, 3) := by decide +kernel
theorem dX11_show_15 : decode cX11_show 15 = .ok (.iconst (-1), 1) := by decide +kernel
theorem dX11_show_16 : decode cX11_show 16 = .ok (.ireturn, 1) := by decide +kernel
theorem dX11_show_17 : decode cX11_show 17 = .ok (.aload_n 0, 1) := by decide +kernel
theorem dX11_show_18 : decode cX11_show 18 = .ok (.getfield 80, 3) := by decide +kernel
theorem dX11_show_21 : decode cX11_show 21 = .ok (.invokevirtual 153, 3) := by decide +kernel
theorem dX11_show_24 : decode cX11_show 24 = .ok (.iload_n 1, 1) := by decide +kernel
theorem dX11_show_25 : decode cX11_show 25 = .ok (.ifCond .ne 22, 3) := by decide +kernel
theorem dX11_show_28 : decode cX11_show 28 = .ok (.aload_n 0, 1) := by decide +kernel
theorem dX11_show_29 : decode cX11_show 29 = .ok (.getfield 80, 3) := by decide +kernel
theorem dX11_show_32 : decode cX11_show 32 = .ok (.aload_n 0, 1) := by decide +kernel
theorem dX11_show_33 : decode cX11_show 33 = .ok (.getfield 71, 3) := by decide +kernel
theorem dX11_show_36 : decode cX11_show 36 = .ok (.iconst 0, 1) := by decide +kernel
theorem dX11_show_37 : decode cX11_show 37 = .ok (.invokevirtual 181, 3) := by decide +kernel
theorem dX11_show_40 : decode cX11_show 40 = .ok (.iconst 0, 1) := by decide +kernel
theorem dX11_show_41 : decode cX11_show 41 = .ok (.invokevirtual 154, 3) := by decide +kernel
theorem dX11_show_44 : decode cX11_show 44 = .ok (.goto 26, 3) := by decide +kernel
theorem dX11_show_47 : decode cX11_show 47 = .ok (.aload_n 0, 1) := by decide +kernel
theorem dX11_show_48 : decode cX11_show 48 = .ok (.getfield 80, 3) := by decide +kernel
theorem dX11_show_51 : decode cX11_show 51 = .ok (.aload_n 0, 1) := by decide +kernel
theorem dX11_show_52 : decode cX11_show 52 = .ok (.getfield 71, 3) := by decide +kernel
theorem dX11_show_55 : decode cX11_show 55 = .ok (.iload_n 1, 1) := by decide +kernel
theorem dX11_show_56 : decode cX11_show 56 = .ok (.invokevirtual 191, 3) := by decide +kernel
theorem dX11_show_59 : decode cX11_show 59 = .ok (.aload_n 0, 1) := by decide +kernel
theorem dX11_show_60 : decode cX11_show 60 = .ok (.getfield 71, 3) := by decide +kernel
theorem dX11_show_63 : decode cX11_show 63 = .ok (.iload_n 1, 1) := by decide +kernel
theorem dX11_show_64 : decode cX11_show 64 = .ok (.invokevirtual 194, 3) := by decide +kernel
theorem dX11_show_67 : decode cX11_show 67 = .ok (.invokevirtual 197, 3) := by decide +kernel
theorem dX11_show_70 : decode cX11_show 70 = .ok (.aload_n 0, 1) := by decide +kernel
theorem dX11_show_71 : decode cX11_show 71 = .ok (.getfield 80, 3) := by decide +kernel
theorem dX11_show_74 : decode cX11_show 74 = .ok (.invokevirtual 157, 3) := by decide +kernel
theorem dX11_show_77 : decode cX11_show 77 = .ok (.ireturn, 1) := by decide +kernel
theorem dJ11_isValidCodePoint_9a6ad_0 : decode cJ11_isValidCodePoint_9a6ad 0 = .ok (.iload_n 0, 1) := by decide +kernel
theorem dJ11_isValidCodePoint_9a6ad_1 : decode cJ11_isValidCodePoint_9a6ad 1 = .ok (.bipush 16, 2) := by decide +kernel
theorem dJ11_isValidCodePoint_9a6ad_3 : decode cJ11_isValidCodePoint_9a6ad 3 = .ok (.iushr, 1) := by decide +kernel
theorem dJ11_isValidCodePoint_9a6ad_4 : decode cJ11_isValidCodePoint_9a6ad 4 = .ok (.istore_n 1, 1) := by decide +kernel
theorem dJ11_isValidCodePoint_9a6ad_5 : decode cJ11_isValidCodePoint_9a6ad 5 = .ok (.iload_n 1, 1) := by decide +kernel
theorem dJ11_isValidCodePoint_9a6ad_6 : decode cJ11_isValidCodePoint_9a6ad 6 = .ok (.bipush 17, 2) := by decide +kernel
theorem dJ11_isValidCodePoint_9a6ad_8 : decode cJ11_isValidCodePoint_9a6ad 8 = .ok (.if_icmp .ge 7, 3) := by decide +kernel
theorem dJ11_isValidCodePoint_9a6ad_11 : decode cJ11_isValidCodePoint_9a6ad 11 = .ok (.iconst 1, 1) := by decide +kernel
theorem dJ11_isValidCodePoint_9a6ad_12 : decode cJ11_isValidCodePoint_9a6ad 12 = .ok (.goto 4, 3) := by decide +kernel
theorem dJ11_isValidCodePoint_9a6ad_15 : decode cJ11_isValidCodePoint_9a6ad 15 = .ok (.iconst 0, 1) := by decide +kernel
theorem dJ11_isValidCodePoint_9a6ad_16 : decode cJ11_isValidCodePoint_9a6ad 16 = .ok (.ireturn, 1) := by decide +kernel
theorem dJ11_highSurrogate_5068e_0 : decode cJ11_highSurrogate_5068e 0 = .ok (.iload_n 0, 1) := by decide +kernel
theorem dJ11_highSurrogate_5068e_1 : decode cJ11_highSurrogate_5068e 1 = .ok (.bipush 10, 2) := by decide +kernel
theorem dJ11_highSurrogate_5068e_3 : decode cJ11_highSurrogate_5068e 3 = .ok (.iushr, 1) := by decide +kernel
theorem dJ11_highSurrogate_5068e_4 : decode cJ11_highSurrogate_5068e 4 = .ok (.ldc 110, 2) := by decide +kernel
theorem dJ11_highSurrogate_5068e_6 : decode cJ11_highSurrogate_5068e 6 = .ok (.iadd, 1) := by decide +kernel
theorem dJ11_highSurrogate_5068e_7 : decode cJ11_highSurrogate_5068e 7 = .ok (.i2c, 1) := by decide +kernel
theorem dJ11_highSurrogate_5068e_8 : decode cJ11_highSurrogate_5068e 8 = .ok (.ireturn, 1) := by decide +kernel
theorem dJ11_lowSurrogate_5068e_0 : decode cJ11_lowSurrogate_5068e 0 = .ok (.iload_n 0, 1) := by decide +kernel
theorem dJ11_lowSurrogate_5068e_1 : decode cJ11_lowSurrogate_5068e 1 = .ok (.sipush 1023, 3) := by decide +kernel
theorem dJ11_lowSurrogate_5068e_4 : decode cJ11_lowSurrogate_5068e 4 = .ok (.iand, 1) := by decide +kernel
theorem dJ11_lowSurrogate_5068e_5 : decode cJ11_lowSurrogate_5068e 5 = .ok (.ldc 76, 2) := by decide +kernel
theorem dJ11_lowSurrogate_5068e_7 : decode cJ11_lowSurrogate_5068e 7 = .ok (.iadd, 1) := by decide +kernel
theorem dJ11_lowSurrogate_5068e_8 : decode cJ11_lowSurrogate_5068e 8 = .ok (.i2c, 1) := by decide +kernel
theorem dJ11_lowSurrogate_5068e_9 : decode cJ11_lowSurrogate_5068e 9 = .ok (.ireturn, 1) := by decide +kernel
theorem dJ9_max_7cf53_0 : decode cJ9_max_7cf53 0 = .ok (.iload_n 0, 1) := by decide +kernel
theorem dJ9_max_7cf53_1 : decode cJ9_max_7cf53 1 = .ok (.iload_n 1, 1) := by decide +kernel
theorem dJ9_max_7cf53_2 : decode cJ9_max_7cf53 2 = .ok (.if_icmp .lt 7, 3) := by decide +kernel
theorem dJ9_max_7cf53_5 : decode cJ9_max_7cf53 5 = .ok (.iload_n 0, 1) := by decide +kernel
theorem dJ9_max_7cf53_6 : decode cJ9_max_7cf53 6 = .ok (.goto 4, 3) := by decide +kernel
theorem dJ9_max_7cf53_9 : decode cJ9_max_7cf53 9 = .ok (.iload_n 1, 1) := by decide +kernel
theorem dJ9_max_7cf53_10 : decode cJ9_max_7cf53 10 = .ok (.ireturn, 1) := by decide +kernel
theorem dJ9_min_7cf53_0 : decode cJ9_min_7cf53 0 = .ok (.iload_n 0, 1) := by decide +kernel
theorem dJ9_min_7cf53_1 : decode cJ9_min_7cf53 1 = .ok (.iload_n 1, 1) := by decide +kernel
theorem dJ9_min_7cf53_2 : decode cJ9_min_7cf53 2 = .ok (.if_icmp .gt 7, 3) := by decide +kernel
theorem dJ9_min_7cf53_5 : decode cJ9_min_7cf53 5 = .ok (.iload_n 0, 1) := by decide +kernel
theorem dJ9_min_7cf53_6 : decode cJ9_min_7cf53 6 = .ok (.goto 4, 3) := by decide +kernel
theorem dJ9_min_7cf53_9 : decode cJ9_min_7cf53 9 = .ok (.iload_n 1, 1) := by decide +kernel
theorem dJ9_min_7cf53_10 : decode cJ9_min_7cf53 10 = .ok (.ireturn, 1) := by decide +kernel
theorem dJ0_length_8abf5_0 : decode cJ0_length_8abf5 0 = .ok (.aload_n 0, 1) := by decide +kernel
theorem dJ0_length_8abf5_1 : decode cJ0_length_8abf5 1 = .ok (.getfield 9, 3) := by decide +kernel
theorem dJ0_length_8abf5_4 : decode cJ0_length_8abf5 4 = .ok (.arraylength, 1) := by decide +kernel
theorem dJ0_length_8abf5_5 : decode cJ0_length_8abf5 5 = .ok (.aload_n 0, 1) := by decide +kernel
theorem dJ0_length_8abf5_6 : decode cJ0_length_8abf5 6 = .ok (.invokevirtual 335, 3) := by decide +kernel
theorem dJ0_length_8abf5_9 : decode cJ0_length_8abf5 9 = .ok (.ishr, 1) := by decide +kernel
theorem dJ0_length_8abf5_10 : decode cJ0_length_8abf5 10 = .ok (.ireturn, 1) := by decide +kernel
theorem dJ0_indexOf_0f7a4_0 : decode cJ0_indexOf_0f7a4 0 = .ok (.aload_n 0, 1) := by decide +kernel
theorem dJ0_indexOf_0f7a4_1 : decode cJ0_indexOf_0f7a4 1 = .ok (.iload_n 1, 1) := by decide +kernel
theorem dJ0_indexOf_0f7a4_2 : decode cJ0_indexOf_0f7a4 2 = .ok (.iconst 0, 1) := by decide +kernel
theorem dJ0_indexOf_0f7a4_3 : decode cJ0_indexOf_0f7a4 3 = .ok (.invokevirtual 633, 3) := by decide +kernel
theorem dJ0_indexOf_0f7a4_6 : decode cJ0_indexOf_0f7a4 6 = .ok (.ireturn, 1) := by decide +kernel
theorem dJ0_indexOf_7cf53_0 : decode cJ0_indexOf_7cf53 0 = .ok (.aload_n 0, 1) := by decide +kernel
theorem dJ0_indexOf_7cf53_1 : decode cJ0_indexOf_7cf53 1 = .ok (.invokevirtual 492, 3) := by decide +kernel
theorem dJ0_indexOf_7cf53_4 : decode cJ0_indexOf_7cf53 4 = .ok (.ifCond .eq 19, 3) := by decide +kernel
theorem dJ0_indexOf_7cf53_7 : decode cJ0_indexOf_7cf53 7 = .ok (.aload_n 0, 1) := by decide +kernel
theorem dJ0_indexOf_7cf53_8 : decode cJ0_indexOf_7cf53 8 = .ok (.getfield 9, 3) := by decide +kernel
theorem dJ0_indexOf_7cf53_11 : decode cJ0_indexOf_7cf53 11 = .ok (.iload_n 1, 1) := by decide +kernel
theorem dJ0_indexOf_7cf53_12 : decode cJ0_indexOf_7cf53 12 = .ok (.iload_n 2, 1) := by decide +kernel
theorem dJ0_indexOf_7cf53_13 : decode cJ0_indexOf_7cf53 13 = .ok (.aload_n 0, 1) := by decide +kernel
theorem dJ0_indexOf_7cf53_14 : decode cJ0_indexOf_7cf53 14 = .ok (.invokevirtual 505, 3) := by decide +kernel
theorem dJ0_indexOf_7cf53_17 : decode cJ0_indexOf_7cf53 17 = .ok (.invokestatic 637, 3) := by decide +kernel
theorem dJ0_indexOf_7cf53_20 : decode cJ0_indexOf_7cf53 20 = .ok (.goto 16, 3) := by decide +kernel
theorem dJ0_indexOf_7cf53_23 : decode cJ0_indexOf_7cf53 23 = .ok (.aload_n 0, 1) := by decide +kernel
theorem dJ0_indexOf_7cf53_24 : decode cJ0_indexOf_7cf53 24 = .ok (.getfield 9, 3) := by decide +kernel
theorem dJ0_indexOf_7cf53_27 : decode cJ0_indexOf_7cf53 27 = .ok (.iload_n 1, 1) := by decide +kernel
theorem dJ0_indexOf_7cf53_28 : decode cJ0_indexOf_7cf53 28 = .ok (.iload_n 2, 1) := by decide +kernel
theorem dJ0_indexOf_7cf53_29 : decode cJ0_indexOf_7cf53 29 = .ok (.aload_n 0, 1) := by decide +kernel
theorem dJ0_indexOf_7cf53_30 : decode cJ0_indexOf_7cf53 30 = .ok (.invokevirtual 505, 3) := by decide +kernel
theorem dJ0_indexOf_7cf53_33 : decode cJ0_indexOf_7cf53 33 = .ok (.invokestatic 640, 3) := by decide +kernel
theorem dJ0_indexOf_7cf53_36 : decode cJ0_indexOf_7cf53 36 = .ok (.ireturn, 1) := by decide +kernel
theorem dJ0_coder_7d493_0 : decode cJ0_coder_7d493 0 = .ok (.getstatic 38, 3) := by decide +kernel
theorem dJ0_coder_7d493_3 : decode cJ0_coder_7d493 3 = .ok (.ifCond .eq 10, 3) := by decide +kernel
theorem dJ0_coder_7d493_6 : decode cJ0_coder_7d493 6 = .ok (.aload_n 0, 1) := by decide +kernel
theorem dJ0_coder_7d493_7 : decode cJ0_coder_7d493 7 = .ok (.getfield 15, 3) := by decide +kernel
theorem dJ0_coder_7d493_10 : decode cJ0_coder_7d493 10 = .ok (.goto 4, 3) := by decide +kernel
theorem dJ0_coder_7d493_13 : decode cJ0_coder_7d493 13 = .ok (.iconst 1, 1) := by decide +kernel
theorem dJ0_coder_7d493_14 : decode cJ0_coder_7d493 14 = .ok (.ireturn, 1) := by decide +kernel
theorem dJ0_isLatin1_aae02_0 : decode cJ0_isLatin1_aae02 0 = .ok (.getstatic 38, 3) := by decide +kernel
theorem dJ0_isLatin1_aae02_3 : decode cJ0_isLatin1_aae02 3 = .ok (.ifCond .eq 14, 3) := by decide +kernel
theorem dJ0_isLatin1_aae02_6 : decode cJ0_isLatin1_aae02 6 = .ok (.aload_n 0, 1) := by decide +kernel
theorem dJ0_isLatin1_aae02_7 : decode cJ0_isLatin1_aae02 7 = .ok (.getfield 15, 3) := by decide +kernel
theorem dJ0_isLatin1_aae02_10 : decode cJ0_isLatin1_aae02 10 = .ok (.ifCond .ne 7, 3) := by decide +kernel
theorem dJ0_isLatin1_aae02_13 : decode cJ0_isLatin1_aae02 13 = .ok (.iconst 1, 1) := by decide +kernel
theorem dJ0_isLatin1_aae02_14 : decode cJ0_isLatin1_aae02 14 = .ok (.goto 4, 3) := by decide +kernel
theorem dJ0_isLatin1_aae02_17 : decode cJ0_isLatin1_aae02 17 = .ok (.iconst 0, 1) := by decide +kernel
theorem dJ0_isLatin1_aae02_18 : decode cJ0_isLatin1_aae02 18 = .ok (.ireturn, 1) := by decide +kernel
theorem dJ0_checkBoundsBeginEnd_23922_0 : decode cJ0_checkBoundsBeginEnd_23922 0 = .ok (.iload_n 0, 1) := by decide +kernel
theorem dJ0_checkBoundsBeginEnd_23922_1 : decode cJ0_checkBoundsBeginEnd_23922 1 = .ok (.iload_n 1, 1) := by decide +kernel
theorem dJ0_checkBoundsBeginEnd_23922_2 : decode cJ0_checkBoundsBeginEnd_23922 2 = .ok (.iload_n 2, 1) := by decide +kernel
theorem dJ0_checkBoundsBeginEnd_23922_3 : decode cJ0_checkBoundsBeginEnd_23922 3 = .ok (.getstatic 1053, 3) := by decide +kernel
theorem dJ0_checkBoundsBeginEnd_23922_6 : decode cJ0_checkBoundsBeginEnd_23922 6 = .ok (.invokestatic 1062, 3) := by decide +kernel
theorem dJ0_checkBoundsBeginEnd_23922_9 : decode cJ0_checkBoundsBeginEnd_23922 9 = .ok (.pop, 1) := by decide +kernel
theorem dJ0_checkBoundsBeginEnd_23922_10 : decode cJ0_checkBoundsBeginEnd_23922 10 = .ok (.return_, 1) := by decide +kernel
theorem dJ1_canEncode_9a6ad_0 : decode cJ1_canEncode_9a6ad 0 = .ok (.iload_n 0, 1) := by decide +kernel
theorem dJ1_canEncode_9a6ad_1 : decode cJ1_canEncode_9a6ad 1 = .ok (.ifCond .lt 14, 3) := by decide +kernel
theorem dJ1_canEncode_9a6ad_4 : decode cJ1_canEncode_9a6ad 4 = .ok (.iload_n 0, 1) := by decide +kernel
theorem dJ1_canEncode_9a6ad_5 : decode cJ1_canEncode_9a6ad 5 = .ok (.sipush 255, 3) := by decide +kernel
theorem dJ1_canEncode_9a6ad_8 : decode cJ1_canEncode_9a6ad 8 = .ok (.if_icmp .gt 7, 3) := by decide +kernel
theorem dJ1_canEncode_9a6ad_11 : decode cJ1_canEncode_9a6ad 11 = .ok (.iconst 1, 1) := by decide +kernel
theorem dJ1_canEncode_9a6ad_12 : decode cJ1_canEncode_9a6ad 12 = .ok (.goto 4, 3) := by decide +kernel
theorem dJ1_canEncode_9a6ad_15 : decode cJ1_canEncode_9a6ad 15 = .ok (.iconst 0, 1) := by decide +kernel
theorem dJ1_canEncode_9a6ad_16 : decode cJ1_canEncode_9a6ad 16 = .ok (.ireturn, 1) := by decide +kernel
theorem dJ1_indexOf_4cfef_0 : decode cJ1_indexOf_4cfef 0 = .ok (.iload_n 1, 1) := by decide +kernel
theorem dJ1_indexOf_4cfef_1 : decode cJ1_indexOf_4cfef 1 = .ok (.invokestatic 88, 3) := by decide +kernel
theorem dJ1_indexOf_4cfef_4 : decode cJ1_indexOf_4cfef 4 = .ok (.ifCond .ne 5, 3) := by decide +kernel
theorem dJ1_indexOf_4cfef_7 : decode cJ1_indexOf_4cfef 7 = .ok (.iconst (-1), 1) := by decide +kernel
theorem dJ1_indexOf_4cfef_8 : decode cJ1_indexOf_4cfef 8 = .ok (.ireturn, 1) := by decide +kernel
theorem dJ1_indexOf_4cfef_9 : decode cJ1_indexOf_4cfef 9 = .ok (.iload_n 2, 1) := by decide +kernel
theorem dJ1_indexOf_4cfef_10 : decode cJ1_indexOf_4cfef 10 = .ok (.iconst 0, 1) := by decide +kernel
theorem dJ1_indexOf_4cfef_11 : decode cJ1_indexOf_4cfef 11 = .ok (.invokestatic 92, 3) := by decide +kernel
theorem dJ1_indexOf_4cfef_14 : decode cJ1_indexOf_4cfef 14 = .ok (.istore_n 2, 1) := by decide +kernel
theorem dJ1_indexOf_4cfef_15 : decode cJ1_indexOf_4cfef 15 = .ok (.iload_n 3, 1) := by decide +kernel
theorem dJ1_indexOf_4cfef_16 : decode cJ1_indexOf_4cfef 16 = .ok (.aload_n 0, 1) := by decide +kernel
theorem dJ1_indexOf_4cfef_17 : decode cJ1_indexOf_4cfef 17 = .ok (.arraylength, 1) := by decide +kernel
theorem dJ1_indexOf_4cfef_18 : decode cJ1_indexOf_4cfef 18 = .ok (.invokestatic 38, 3) := by decide +kernel
theorem dJ1_indexOf_4cfef_21 : decode cJ1_indexOf_4cfef 21 = .ok (.istore_n 3, 1) := by decide +kernel
theorem dJ1_indexOf_4cfef_22 : decode cJ1_indexOf_4cfef 22 = .ok (.iload_n 2, 1) := by decide +kernel
theorem dJ1_indexOf_4cfef_23 : decode cJ1_indexOf_4cfef 23 = .ok (.iload_n 3, 1) := by decide +kernel
theorem dJ1_indexOf_4cfef_24 : decode cJ1_indexOf_4cfef 24 = .ok (.if_icmp .lt 5, 3) := by decide +kernel
theorem dJ1_indexOf_4cfef_27 : decode cJ1_indexOf_4cfef 27 = .ok (.iconst (-1), 1) := by decide +kernel
theorem dJ1_indexOf_4cfef_28 : decode cJ1_indexOf_4cfef 28 = .ok (.ireturn, 1) := by decide +kernel
theorem dJ1_indexOf_4cfef_29 : decode cJ1_indexOf_4cfef 29 = .ok (.aload_n 0, 1) := by decide +kernel
theorem dJ1_indexOf_4cfef_30 : decode cJ1_indexOf_4cfef 30 = .ok (.iload_n 1, 1) := by decide +kernel
theorem dJ1_indexOf_4cfef_31 : decode cJ1_indexOf_4cfef 31 = .ok (.iload_n 2, 1) := by decide +kernel
theorem dJ1_indexOf_4cfef_32 : decode cJ1_indexOf_4cfef 32 = .ok (.iload_n 3, 1) := by decide +kernel
theorem dJ1_indexOf_4cfef_33 : decode cJ1_indexOf_4cfef 33 = .ok (.invokestatic 95, 3) := by decide +kernel
theorem dJ1_indexOf_4cfef_36 : decode cJ1_indexOf_4cfef 36 = .ok (.ireturn, 1) := by decide +kernel
theorem dJ1_indexOfChar_4cfef_0 : decode cJ1_indexOfChar_4cfef 0 = .ok (.iload_n 1, 1) := by decide +kernel
theorem dJ1_indexOfChar_4cfef_1 : decode cJ1_indexOfChar_4cfef 1 = .ok (.i2b, 1) := by decide +kernel
theorem dJ1_indexOfChar_4cfef_2 : decode cJ1_indexOfChar_4cfef 2 = .ok (.istore 4, 2) := by decide +kernel
theorem dJ1_indexOfChar_4cfef_4 : decode cJ1_indexOfChar_4cfef 4 = .ok (.iload_n 2, 1) := by decide +kernel
theorem dJ1_indexOfChar_4cfef_5 : decode cJ1_indexOfChar_4cfef 5 = .ok (.istore 5, 2) := by decide +kernel
theorem dJ1_indexOfChar_4cfef_7 : decode cJ1_indexOfChar_4cfef 7 = .ok (.iload 5, 2) := by decide +kernel
theorem dJ1_indexOfChar_4cfef_9 : decode cJ1_indexOfChar_4cfef 9 = .ok (.iload_n 3, 1) := by decide +kernel
theorem dJ1_indexOfChar_4cfef_10 : decode cJ1_indexOfChar_4cfef 10 = .ok (.if_icmp .ge 21, 3) := by decide +kernel
theorem dJ1_indexOfChar_4cfef_13 : decode cJ1_indexOfChar_4cfef 13 = .ok (.aload_n 0, 1) := by decide +kernel
theorem dJ1_indexOfChar_4cfef_14 : decode cJ1_indexOfChar_4cfef 14 = .ok (.iload 5, 2) := by decide +kernel
theorem dJ1_indexOfChar_4cfef_16 : decode cJ1_indexOfChar_4cfef 16 = .ok (.baload, 1) := by decide +kernel
theorem dJ1_indexOfChar_4cfef_17 : decode cJ1_indexOfChar_4cfef 17 = .ok (.iload 4, 2) := by decide +kernel
theorem dJ1_indexOfChar_4cfef_19 : decode cJ1_indexOfChar_4cfef 19 = .ok (.if_icmp .ne 6, 3) := by decide +kernel
theorem dJ1_indexOfChar_4cfef_22 : decode cJ1_indexOfChar_4cfef 22 = .ok (.iload 5, 2) := by decide +kernel
theorem dJ1_indexOfChar_4cfef_24 : decode cJ1_indexOfChar_4cfef 24 = .ok (.ireturn, 1) := by decide +kernel
theorem dJ1_indexOfChar_4cfef_25 : decode cJ1_indexOfChar_4cfef 25 = .ok (.iinc 5 1, 3) := by decide +kernel
theorem dJ1_indexOfChar_4cfef_28 : decode cJ1_indexOfChar_4cfef 28 = .ok (.goto (-21), 3) := by decide +kernel
theorem dJ1_indexOfChar_4cfef_31 : decode cJ1_indexOfChar_4cfef 31 = .ok (.iconst (-1), 1) := by decide +kernel
theorem dJ1_indexOfChar_4cfef_32 : decode cJ1_indexOfChar_4cfef 32 = .ok (.ireturn, 1) := by decide +kernel
theorem dJ2_getChar_3b067_0 : decode cJ2_getChar_3b067 0 = .ok (.getstatic 44, 3) := by decide +kernel
theorem dJ2_getChar_3b067_3 : decode cJ2_getChar_3b067 3 = .ok (.ifCond .ne 25, 3) := by decide +kernel
theorem dJ2_getChar_3b067_6 : decode cJ2_getChar_3b067 6 = .ok (.iload_n 1, 1) := by decide +kernel
theorem dJ2_getChar_3b067_7 : decode cJ2_getChar_3b067 7 = .ok (.ifCond .lt 11, 3) := by decide +kernel
theorem dJ2_getChar_3b067_10 : decode cJ2_getChar_3b067 10 = .ok (.iload_n 1, 1) := by decide +kernel
theorem dJ2_getChar_3b067_11 : decode cJ2_getChar_3b067 11 = .ok (.aload_n 0, 1) := by decide +kernel
theorem dJ2_getChar_3b067_12 : decode cJ2_getChar_3b067 12 = .ok (.invokestatic 48, 3) := by decide +kernel
theorem dJ2_getChar_3b067_15 : decode cJ2_getChar_3b067 15 = .ok (.if_icmp .lt 13, 3) := by decide +kernel
theorem dJ2_getChar_3b067_18 : decode cJ2_getChar_3b067 18 = .ok (.new 52, 3) := by decide +kernel
theorem dJ2_getChar_3b067_21 : decode cJ2_getChar_3b067 21 = .ok (.dup, 1) := by decide +kernel
theorem dJ2_getChar_3b067_22 : decode cJ2_getChar_3b067 22 = .ok (.ldc 54, 2) := by decide +kernel
theorem dJ2_getChar_3b067_24 : decode cJ2_getChar_3b067 24 = .ok (.invokespecial 56, 3) := by decide +kernel
theorem dJ2_getChar_3b067_27 : decode cJ2_getChar_3b067 27 = .ok (.athrow, 1) := by decide +kernel
theorem dJ2_getChar_3b067_28 : decode cJ2_getChar_3b067 28 = .ok (.iload_n 1, 1) := by decide +kernel
theorem dJ2_getChar_3b067_29 : decode cJ2_getChar_3b067 29 = .ok (.iconst 1, 1) := by decide +kernel
theorem dJ2_getChar_3b067_30 : decode cJ2_getChar_3b067 30 = .ok (.ishl, 1) := by decide +kernel
theorem dJ2_getChar_3b067_31 : decode cJ2_getChar_3b067 31 = .ok (.istore_n 1, 1) := by decide +kernel
theorem dJ2_getChar_3b067_32 : decode cJ2_getChar_3b067 32 = .ok (.aload_n 0, 1) := by decide +kernel
theorem dJ2_getChar_3b067_33 : decode cJ2_getChar_3b067 33 = .ok (.iload_n 1, 1) := by decide +kernel
theorem dJ2_getChar_3b067_34 : decode cJ2_getChar_3b067 34 = .ok (.iinc 1 1, 3) := by decide +kernel
theorem dJ2_getChar_3b067_37 : decode cJ2_getChar_3b067 37 = .ok (.baload, 1) := by decide +kernel
theorem dJ2_getChar_3b067_38 : decode cJ2_getChar_3b067 38 = .ok (.sipush 255, 3) := by decide +kernel
theorem dJ2_getChar_3b067_41 : decode cJ2_getChar_3b067 41 = .ok (.iand, 1) := by decide +kernel
theorem dJ2_getChar_3b067_42 : decode cJ2_getChar_3b067 42 = .ok (.getstatic 59, 3) := by decide +kernel
theorem dJ2_getChar_3b067_45 : decode cJ2_getChar_3b067 45 = .ok (.ishl, 1) := by decide +kernel
theorem dJ2_getChar_3b067_46 : decode cJ2_getChar_3b067 46 = .ok (.aload_n 0, 1) := by decide +kernel
theorem dJ2_getChar_3b067_47 : decode cJ2_getChar_3b067 47 = .ok (.iload_n 1, 1) := by decide +kernel
theorem dJ2_getChar_3b067_48 : decode cJ2_getChar_3b067 48 = .ok (.baload, 1) := by decide +kernel
theorem dJ2_getChar_3b067_49 : decode cJ2_getChar_3b067 49 = .ok (.sipush 255, 3) := by decide +kernel
theorem dJ2_getChar_3b067_52 : decode cJ2_getChar_3b067 52 = .ok (.iand, 1) := by decide +kernel
theorem dJ2_getChar_3b067_53 : decode cJ2_getChar_3b067 53 = .ok (.getstatic 63, 3) := by decide +kernel
theorem dJ2_getChar_3b067_56 : decode cJ2_getChar_3b067 56 = .ok (.ishl, 1) := by decide +kernel
theorem dJ2_getChar_3b067_57 : decode cJ2_getChar_3b067 57 = .ok (.ior, 1) := by decide +kernel
theorem dJ2_getChar_3b067_58 : decode cJ2_getChar_3b067 58 = .ok (.i2c, 1) := by decide +kernel
theorem dJ2_getChar_3b067_59 : decode cJ2_getChar_3b067 59 = .ok (.ireturn, 1) := by decide +kernel
theorem dJ2_length_9d52b_0 : decode cJ2_length_9d52b 0 = .ok (.aload_n 0, 1) := by decide +kernel
theorem dJ2_length_9d52b_1 : decode cJ2_length_9d52b 1 = .ok (.arraylength, 1) := by decide +kernel
theorem dJ2_length_9d52b_2 : decode cJ2_length_9d52b 2 = .ok (.iconst 1, 1) := by decide +kernel
theorem dJ2_length_9d52b_3 : decode cJ2_length_9d52b 3 = .ok (.ishr, 1) := by decide +kernel
theorem dJ2_length_9d52b_4 : decode cJ2_length_9d52b 4 = .ok (.ireturn, 1) := by decide +kernel
theorem dJ2_indexOf_4cfef_0 : decode cJ2_indexOf_4cfef 0 = .ok (.iload_n 2, 1) := by decide +kernel
theorem dJ2_indexOf_4cfef_1 : decode cJ2_indexOf_4cfef 1 = .ok (.iconst 0, 1) := by decide +kernel
theorem dJ2_indexOf_4cfef_2 : decode cJ2_indexOf_4cfef 2 = .ok (.invokestatic 224, 3) := by decide +kernel
theorem dJ2_indexOf_4cfef_5 : decode cJ2_indexOf_4cfef 5 = .ok (.istore_n 2, 1) := by decide +kernel
theorem dJ2_indexOf_4cfef_6 : decode cJ2_indexOf_4cfef 6 = .ok (.iload_n 3, 1) := by decide +kernel
theorem dJ2_indexOf_4cfef_7 : decode cJ2_indexOf_4cfef 7 = .ok (.aload_n 0, 1) := by decide +kernel
theorem dJ2_indexOf_4cfef_8 : decode cJ2_indexOf_4cfef 8 = .ok (.arraylength, 1) := by decide +kernel
theorem dJ2_indexOf_4cfef_9 : decode cJ2_indexOf_4cfef 9 = .ok (.iconst 1, 1) := by decide +kernel
theorem dJ2_indexOf_4cfef_10 : decode cJ2_indexOf_4cfef 10 = .ok (.ishr, 1) := by decide +kernel
theorem dJ2_indexOf_4cfef_11 : decode cJ2_indexOf_4cfef 11 = .ok (.invokestatic 183, 3) := by decide +kernel
theorem dJ2_indexOf_4cfef_14 : decode cJ2_indexOf_4cfef 14 = .ok (.istore_n 3, 1) := by decide +kernel
theorem dJ2_indexOf_4cfef_15 : decode cJ2_indexOf_4cfef 15 = .ok (.iload_n 2, 1) := by decide +kernel
theorem dJ2_indexOf_4cfef_16 : decode cJ2_indexOf_4cfef 16 = .ok (.iload_n 3, 1) := by decide +kernel
theorem dJ2_indexOf_4cfef_17 : decode cJ2_indexOf_4cfef 17 = .ok (.if_icmp .lt 5, 3) := by decide +kernel
theorem dJ2_indexOf_4cfef_20 : decode cJ2_indexOf_4cfef 20 = .ok (.iconst (-1), 1) := by decide +kernel
theorem dJ2_indexOf_4cfef_21 : decode cJ2_indexOf_4cfef 21 = .ok (.ireturn, 1) := by decide +kernel
theorem dJ2_indexOf_4cfef_22 : decode cJ2_indexOf_4cfef 22 = .ok (.iload_n 1, 1) := by decide +kernel
theorem dJ2_indexOf_4cfef_23 : decode cJ2_indexOf_4cfef 23 = .ok (.ldc 227, 2) := by decide +kernel
theorem dJ2_indexOf_4cfef_25 : decode cJ2_indexOf_4cfef 25 = .ok (.if_icmp .ge 11, 3) := by decide +kernel
theorem dJ2_indexOf_4cfef_28 : decode cJ2_indexOf_4cfef 28 = .ok (.aload_n 0, 1) := by decide +kernel
theorem dJ2_indexOf_4cfef_29 : decode cJ2_indexOf_4cfef 29 = .ok (.iload_n 1, 1) := by decide +kernel
theorem dJ2_indexOf_4cfef_30 : decode cJ2_indexOf_4cfef 30 = .ok (.iload_n 2, 1) := by decide +kernel
theorem dJ2_indexOf_4cfef_31 : decode cJ2_indexOf_4cfef 31 = .ok (.iload_n 3, 1) := by decide +kernel
theorem dJ2_indexOf_4cfef_32 : decode cJ2_indexOf_4cfef 32 = .ok (.invokestatic 228, 3) := by decide +kernel
theorem dJ2_indexOf_4cfef_35 : decode cJ2_indexOf_4cfef 35 = .ok (.ireturn, 1) := by decide +kernel
theorem dJ2_indexOf_4cfef_36 : decode cJ2_indexOf_4cfef 36 = .ok (.aload_n 0, 1) := by decide +kernel
theorem dJ2_indexOf_4cfef_37 : decode cJ2_indexOf_4cfef 37 = .ok (.iload_n 1, 1) := by decide +kernel
theorem dJ2_indexOf_4cfef_38 : decode cJ2_indexOf_4cfef 38 = .ok (.iload_n 2, 1) := by decide +kernel
theorem dJ2_indexOf_4cfef_39 : decode cJ2_indexOf_4cfef 39 = .ok (.iload_n 3, 1) := by decide +kernel
theorem dJ2_indexOf_4cfef_40 : decode cJ2_indexOf_4cfef 40 = .ok (.invokestatic 232, 3) := by decide +kernel
theorem dJ2_indexOf_4cfef_43 : decode cJ2_indexOf_4cfef 43 = .ok (.ireturn, 1) := by decide +kernel
theorem dJ2_indexOfChar_4cfef_0 : decode cJ2_indexOfChar_4cfef 0 = .ok (.iload_n 2, 1) := by decide +kernel
theorem dJ2_indexOfChar_4cfef_1 : decode cJ2_indexOfChar_4cfef 1 = .ok (.iload_n 3, 1) := by decide +kernel
theorem dJ2_indexOfChar_4cfef_2 : decode cJ2_indexOfChar_4cfef 2 = .ok (.aload_n 0, 1) := by decide +kernel
theorem dJ2_indexOfChar_4cfef_3 : decode cJ2_indexOfChar_4cfef 3 = .ok (.invokestatic 96, 3) := by decide +kernel
theorem dJ2_indexOfChar_4cfef_6 : decode cJ2_indexOfChar_4cfef 6 = .ok (.aload_n 0, 1) := by decide +kernel
theorem dJ2_indexOfChar_4cfef_7 : decode cJ2_indexOfChar_4cfef 7 = .ok (.iload_n 1, 1) := by decide +kernel
theorem dJ2_indexOfChar_4cfef_8 : decode cJ2_indexOfChar_4cfef 8 = .ok (.iload_n 2, 1) := by decide +kernel
theorem dJ2_indexOfChar_4cfef_9 : decode cJ2_indexOfChar_4cfef 9 = .ok (.iload_n 3, 1) := by decide +kernel
theorem dJ2_indexOfChar_4cfef_10 : decode cJ2_indexOfChar_4cfef 10 = .ok (.invokestatic 244, 3) := by decide +kernel
theorem dJ2_indexOfChar_4cfef_13 : decode cJ2_indexOfChar_4cfef 13 = .ok (.ireturn, 1) := by decide +kernel
theorem dJ2_indexOfCharUnsafe_4cfef_0 : decode cJ2_indexOfCharUnsafe_4cfef 0 = .ok (.iload_n 2, 1) := by decide +kernel
theorem dJ2_indexOfCharUnsafe_4cfef_1 : decode cJ2_indexOfCharUnsafe_4cfef 1 = .ok (.istore 4, 2) := by decide +kernel
theorem dJ2_indexOfCharUnsafe_4cfef_3 : decode cJ2_indexOfCharUnsafe_4cfef 3 = .ok (.iload 4, 2) := by decide +kernel
theorem dJ2_indexOfCharUnsafe_4cfef_5 : decode cJ2_indexOfCharUnsafe_4cfef 5 = .ok (.iload_n 3, 1) := by decide +kernel
theorem dJ2_indexOfCharUnsafe_4cfef_6 : decode cJ2_indexOfCharUnsafe_4cfef 6 = .ok (.if_icmp .ge 22, 3) := by decide +kernel
theorem dJ2_indexOfCharUnsafe_4cfef_9 : decode cJ2_indexOfCharUnsafe_4cfef 9 = .ok (.aload_n 0, 1) := by decide +kernel
theorem dJ2_indexOfCharUnsafe_4cfef_10 : decode cJ2_indexOfCharUnsafe_4cfef 10 = .ok (.iload 4, 2) := by decide +kernel
theorem dJ2_indexOfCharUnsafe_4cfef_12 : decode cJ2_indexOfCharUnsafe_4cfef 12 = .ok (.invokestatic 71, 3) := by decide +kernel
theorem dJ2_indexOfCharUnsafe_4cfef_15 : decode cJ2_indexOfCharUnsafe_4cfef 15 = .ok (.iload_n 1, 1) := by decide +kernel
theorem dJ2_indexOfCharUnsafe_4cfef_16 : decode cJ2_indexOfCharUnsafe_4cfef 16 = .ok (.if_icmp .ne 6, 3) := by decide +kernel
theorem dJ2_indexOfCharUnsafe_4cfef_19 : decode cJ2_indexOfCharUnsafe_4cfef 19 = .ok (.iload 4, 2) := by decide +kernel
theorem dJ2_indexOfCharUnsafe_4cfef_21 : decode cJ2_indexOfCharUnsafe_4cfef 21 = .ok (.ireturn, 1) := by decide +kernel
theorem dJ2_indexOfCharUnsafe_4cfef_22 : decode cJ2_indexOfCharUnsafe_4cfef 22 = .ok (.iinc 4 1, 3) := by decide +kernel
theorem dJ2_indexOfCharUnsafe_4cfef_25 : decode cJ2_indexOfCharUnsafe_4cfef 25 = .ok (.goto (-22), 3) := by decide +kernel
theorem dJ2_indexOfCharUnsafe_4cfef_28 : decode cJ2_indexOfCharUnsafe_4cfef 28 = .ok (.iconst (-1), 1) := by decide +kernel
theorem dJ2_indexOfCharUnsafe_4cfef_29 : decode cJ2_indexOfCharUnsafe_4cfef 29 = .ok (.ireturn, 1) := by decide +kernel
theorem dJ2_indexOfSupplementary_4cfef_0 : decode cJ2_indexOfSupplementary_4cfef 0 = .ok (.iload_n 1, 1) := by decide +kernel
theorem dJ2_indexOfSupplementary_4cfef_1 : decode cJ2_indexOfSupplementary_4cfef 1 = .ok (.invokestatic 164, 3) := by decide +kernel
theorem dJ2_indexOfSupplementary_4cfef_4 : decode cJ2_indexOfSupplementary_4cfef 4 = .ok (.ifCond .eq 65, 3) := by decide +kernel
theorem dJ2_indexOfSupplementary_4cfef_7 : decode cJ2_indexOfSupplementary_4cfef 7 = .ok (.iload_n 1, 1) := by decide +kernel
theorem dJ2_indexOfSupplementary_4cfef_8 : decode cJ2_indexOfSupplementary_4cfef 8 = .ok (.invokestatic 157, 3) := by decide +kernel
theorem dJ2_indexOfSupplementary_4cfef_11 : decode cJ2_indexOfSupplementary_4cfef 11 = .ok (.istore 4, 2) := by decide +kernel
theorem dJ2_indexOfSupplementary_4cfef_13 : decode cJ2_indexOfSupplementary_4cfef 13 = .ok (.iload_n 1, 1) := by decide +kernel
theorem dJ2_indexOfSupplementary_4cfef_14 : decode cJ2_indexOfSupplementary_4cfef 14 = .ok (.invokestatic 161, 3) := by decide +kernel
theorem dJ2_indexOfSupplementary_4cfef_17 : decode cJ2_indexOfSupplementary_4cfef 17 = .ok (.istore 5, 2) := by decide +kernel
theorem dJ2_indexOfSupplementary_4cfef_19 : decode cJ2_indexOfSupplementary_4cfef 19 = .ok (.iload_n 2, 1) := by decide +kernel
theorem dJ2_indexOfSupplementary_4cfef_20 : decode cJ2_indexOfSupplementary_4cfef 20 = .ok (.iload_n 3, 1) := by decide +kernel
theorem dJ2_indexOfSupplementary_4cfef_21 : decode cJ2_indexOfSupplementary_4cfef 21 = .ok (.aload_n 0, 1) := by decide +kernel
theorem dJ2_indexOfSupplementary_4cfef_22 : decode cJ2_indexOfSupplementary_4cfef 22 = .ok (.invokestatic 96, 3) := by decide +kernel
theorem dJ2_indexOfSupplementary_4cfef_25 : decode cJ2_indexOfSupplementary_4cfef 25 = .ok (.iload_n 2, 1) := by decide +kernel
theorem dJ2_indexOfSupplementary_4cfef_26 : decode cJ2_indexOfSupplementary_4cfef 26 = .ok (.istore 6, 2) := by decide +kernel
theorem dJ2_indexOfSupplementary_4cfef_28 : decode cJ2_indexOfSupplementary_4cfef 28 = .ok (.iload 6, 2) := by decide +kernel
theorem dJ2_indexOfSupplementary_4cfef_30 : decode cJ2_indexOfSupplementary_4cfef 30 = .ok (.iload_n 3, 1) := by decide +kernel
theorem dJ2_indexOfSupplementary_4cfef_31 : decode cJ2_indexOfSupplementary_4cfef 31 = .ok (.iconst 1, 1) := by decide +kernel
theorem dJ2_indexOfSupplementary_4cfef_32 : decode cJ2_indexOfSupplementary_4cfef 32 = .ok (.isub, 1) := by decide +kernel
theorem dJ2_indexOfSupplementary_4cfef_33 : decode cJ2_indexOfSupplementary_4cfef 33 = .ok (.if_icmp .ge 36, 3) := by decide +kernel
theorem dJ2_indexOfSupplementary_4cfef_36 : decode cJ2_indexOfSupplementary_4cfef 36 = .ok (.aload_n 0, 1) := by decide +kernel
theorem dJ2_indexOfSupplementary_4cfef_37 : decode cJ2_indexOfSupplementary_4cfef 37 = .ok (.iload 6, 2) := by decide +kernel
theorem dJ2_indexOfSupplementary_4cfef_39 : decode cJ2_indexOfSupplementary_4cfef 39 = .ok (.invokestatic 71, 3) := by decide +kernel
theorem dJ2_indexOfSupplementary_4cfef_42 : decode cJ2_indexOfSupplementary_4cfef 42 = .ok (.iload 4, 2) := by decide +kernel
theorem dJ2_indexOfSupplementary_4cfef_44 : decode cJ2_indexOfSupplementary_4cfef 44 = .ok (.if_icmp .ne 19, 3) := by decide +kernel
theorem dJ2_indexOfSupplementary_4cfef_47 : decode cJ2_indexOfSupplementary_4cfef 47 = .ok (.aload_n 0, 1) := by decide +kernel
theorem dJ2_indexOfSupplementary_4cfef_48 : decode cJ2_indexOfSupplementary_4cfef 48 = .ok (.iload 6, 2) := by decide +kernel
theorem dJ2_indexOfSupplementary_4cfef_50 : decode cJ2_indexOfSupplementary_4cfef 50 = .ok (.iconst 1, 1) := by decide +kernel
theorem dJ2_indexOfSupplementary_4cfef_51 : decode cJ2_indexOfSupplementary_4cfef 51 = .ok (.iadd, 1) := by decide +kernel
theorem dJ2_indexOfSupplementary_4cfef_52 : decode cJ2_indexOfSupplementary_4cfef 52 = .ok (.invokestatic 71, 3) := by decide +kernel
theorem dJ2_indexOfSupplementary_4cfef_55 : decode cJ2_indexOfSupplementary_4cfef 55 = .ok (.iload 5, 2) := by decide +kernel
theorem dJ2_indexOfSupplementary_4cfef_57 : decode cJ2_indexOfSupplementary_4cfef 57 = .ok (.if_icmp .ne 6, 3) := by decide +kernel
theorem dJ2_indexOfSupplementary_4cfef_60 : decode cJ2_indexOfSupplementary_4cfef 60 = .ok (.iload 6, 2) := by decide +kernel
theorem dJ2_indexOfSupplementary_4cfef_62 : decode cJ2_indexOfSupplementary_4cfef 62 = .ok (.ireturn, 1) := by decide +kernel
theorem dJ2_indexOfSupplementary_4cfef_63 : decode cJ2_indexOfSupplementary_4cfef 63 = .ok (.iinc 6 1, 3) := by decide +kernel
theorem dJ2_indexOfSupplementary_4cfef_66 : decode cJ2_indexOfSupplementary_4cfef 66 = .ok (.goto (-38), 3) := by decide +kernel
theorem dJ2_indexOfSupplementary_4cfef_69 : decode cJ2_indexOfSupplementary_4cfef 69 = .ok (.iconst (-1), 1) := by decide +kernel
theorem dJ2_indexOfSupplementary_4cfef_70 : decode cJ2_indexOfSupplementary_4cfef 70 = .ok (.ireturn, 1) := by decide +kernel
theorem dJ2_checkBoundsBeginEnd_d044e_0 : decode cJ2_checkBoundsBeginEnd_d044e 0 = .ok (.iload_n 0, 1) := by decide +kernel
theorem dJ2_checkBoundsBeginEnd_d044e_1 : decode cJ2_checkBoundsBeginEnd_d044e 1 = .ok (.iload_n 1, 1) := by decide +kernel
theorem dJ2_checkBoundsBeginEnd_d044e_2 : decode cJ2_checkBoundsBeginEnd_d044e 2 = .ok (.aload_n 2, 1) := by decide +kernel
theorem dJ2_checkBoundsBeginEnd_d044e_3 : decode cJ2_checkBoundsBeginEnd_d044e 3 = .ok (.invokestatic 48, 3) := by decide +kernel
theorem dJ2_checkBoundsBeginEnd_d044e_6 : decode cJ2_checkBoundsBeginEnd_d044e 6 = .ok (.invokestatic 241, 3) := by decide +kernel
theorem dJ2_checkBoundsBeginEnd_d044e_9 : decode cJ2_checkBoundsBeginEnd_d044e 9 = .ok (.return_, 1) := by decide +kernel
theorem dJ3_checkFromToIndex_8c36e_0 : decode cJ3_checkFromToIndex_8c36e 0 = .ok (.iload_n 0, 1) := by decide +kernel
theorem dJ3_checkFromToIndex_8c36e_1 : decode cJ3_checkFromToIndex_8c36e 1 = .ok (.ifCond .lt 13, 3) := by decide +kernel
theorem dJ3_checkFromToIndex_8c36e_4 : decode cJ3_checkFromToIndex_8c36e 4 = .ok (.iload_n 0, 1) := by decide +kernel
theorem dJ3_checkFromToIndex_8c36e_5 : decode cJ3_checkFromToIndex_8c36e 5 = .ok (.iload_n 1, 1) := by decide +kernel
theorem dJ3_checkFromToIndex_8c36e_6 : decode cJ3_checkFromToIndex_8c36e 6 = .ok (.if_icmp .gt 8, 3) := by decide +kernel
theorem dJ3_checkFromToIndex_8c36e_9 : decode cJ3_checkFromToIndex_8c36e 9 = .ok (.iload_n 1, 1) := by decide +kernel
theorem dJ3_checkFromToIndex_8c36e_10 : decode cJ3_checkFromToIndex_8c36e 10 = .ok (.iload_n 2, 1) := by decide +kernel
theorem dJ3_checkFromToIndex_8c36e_11 : decode cJ3_checkFromToIndex_8c36e 11 = .ok (.if_icmp .le 11, 3) := by decide +kernel
theorem dJ3_checkFromToIndex_8c36e_14 : decode cJ3_checkFromToIndex_8c36e 14 = .ok (.aload_n 3, 1) := by decide +kernel
theorem dJ3_checkFromToIndex_8c36e_15 : decode cJ3_checkFromToIndex_8c36e 15 = .ok (.iload_n 0, 1) := by decide +kernel
theorem dJ3_checkFromToIndex_8c36e_16 : decode cJ3_checkFromToIndex_8c36e 16 = .ok (.iload_n 1, 1) := by decide +kernel
theorem dJ3_checkFromToIndex_8c36e_17 : decode cJ3_checkFromToIndex_8c36e 17 = .ok (.iload_n 2, 1) := by decide +kernel
theorem dJ3_checkFromToIndex_8c36e_18 : decode cJ3_checkFromToIndex_8c36e 18 = .ok (.invokestatic 99, 3) := by decide +kernel
theorem dJ3_checkFromToIndex_8c36e_21 : decode cJ3_checkFromToIndex_8c36e 21 = .ok (.athrow, 1) := by decide +kernel
theorem dJ3_checkFromToIndex_8c36e_22 : decode cJ3_checkFromToIndex_8c36e 22 = .ok (.iload_n 0, 1) := by decide +kernel
theorem dJ3_checkFromToIndex_8c36e_23 : decode cJ3_checkFromToIndex_8c36e 23 = .ok (.ireturn, 1) := by decide +kernel
theorem dL_law_0 : decode cL_law 0 = .ok (.new 7, 3) := by decide +kernel
theorem dL_law_3 : decode cL_law 3 = .ok (.dup, 1) := by decide +kernel
theorem dL_law_4 : decode cL_law 4 = .ok (.invokespecial 9, 3) := by decide +kernel
theorem dL_law_7 : decode cL_law 7 = .ok (.astore_n 1, 1) := by decide +kernel
theorem dL_law_8 : decode cL_law 8 = .ok (.new 10, 3) := by decide +kernel
theorem dL_law_11 : decode cL_law 11 = .ok (.dup, 1) := by decide +kernel
theorem dL_law_12 : decode cL_law 12 = .ok (.invokespecial 12, 3) := by decide +kernel
theorem dL_law_15 : decode cL_law 15 = .ok (.astore_n 2, 1) := by decide +kernel
theorem dL_law_16 : decode cL_law 16 = .ok (.iconst 0, 1) := by decide +kernel
theorem dL_law_17 : decode cL_law 17 = .ok (.istore_n 3, 1) := by decide +kernel
theorem dL_law_18 : decode cL_law 18 = .ok (.iload_n 3, 1) := by decide +kernel
theorem dL_law_19 : decode cL_law 19 = .ok (.aload_n 0, 1) := by decide +kernel
theorem dL_law_20 : decode cL_law 20 = .ok (.arraylength, 1) := by decide +kernel
theorem dL_law_21 : decode cL_law 21 = .ok (.iconst 4, 1) := by decide +kernel
theorem dL_law_22 : decode cL_law 22 = .ok (.isub, 1) := by decide +kernel
theorem dL_law_23 : decode cL_law 23 = .ok (.if_icmp .gt 395, 3) := by decide +kernel
theorem dL_law_26 : decode cL_law 26 = .ok (.aload_n 0, 1) := by decide +kernel
theorem dL_law_27 : decode cL_law 27 = .ok (.iload_n 3, 1) := by decide +kernel
theorem dL_law_28 : decode cL_law 28 = .ok (.iaload, 1) := by decide +kernel
theorem dL_law_29 : decode cL_law 29 = .ok (.bipush 15, 2) := by decide +kernel
theorem dL_law_31 : decode cL_law 31 = .ok (.iand, 1) := by decide +kernel
theorem dL_law_32 : decode cL_law 32 = .ok (.tableswitch 380 0 11 #[64, 127, 140, 153, 166, 189, 222, 245, 268, 301, 324, 357], 64) := by decide +kernel
theorem dL_law_96 : decode cL_law 96 = .ok (.aload_n 1, 1) := by decide +kernel
theorem dL_law_97 : decode cL_law 97 = .ok (.aload_n 0, 1) := by decide +kernel
theorem dL_law_98 : decode cL_law 98 = .ok (.iload_n 3, 1) := by decide +kernel
theorem dL_law_99 : decode cL_law 99 = .ok (.iconst 1, 1) := by decide +kernel
theorem dL_law_100 : decode cL_law 100 = .ok (.iadd, 1) := by decide +kernel
theorem dL_law_101 : decode cL_law 101 = .ok (.iaload, 1) := by decide +kernel
theorem dL_law_102 : decode cL_law 102 = .ok (.i2l, 1) := by decide +kernel
theorem dL_law_103 : decode cL_law 103 = .ok (.bipush 32, 2) := by decide +kernel
theorem dL_law_105 : decode cL_law 105 = .ok (.lshl, 1) := by decide +kernel
theorem dL_law_106 : decode cL_law 106 = .ok (.aload_n 0, 1) := by decide +kernel
theorem dL_law_107 : decode cL_law 107 = .ok (.iload_n 3, 1) := by decide +kernel
theorem dL_law_108 : decode cL_law 108 = .ok (.iconst 2, 1) := by decide +kernel
theorem dL_law_109 : decode cL_law 109 = .ok (.iadd, 1) := by decide +kernel
theorem dL_law_110 : decode cL_law 110 = .ok (.iaload, 1) := by decide +kernel
theorem dL_law_111 : decode cL_law 111 = .ok (.i2l, 1) := by decide +kernel
theorem dL_law_112 : decode cL_law 112 = .ok (.ldc2_w 13, 3) := by decide +kernel
theorem dL_law_115 : decode cL_law 115 = .ok (.land, 1) := by decide +kernel
theorem dL_law_116 : decode cL_law 116 = .ok (.lor, 1) := by decide +kernel
theorem dL_law_117 : decode cL_law 117 = .ok (.aload_n 0, 1) := by decide +kernel
theorem dL_law_118 : decode cL_law 118 = .ok (.iload_n 3, 1) := by decide +kernel
theorem dL_law_119 : decode cL_law 119 = .ok (.iconst 3, 1) := by decide +kernel
theorem dL_law_120 : decode cL_law 120 = .ok (.iadd, 1) := by decide +kernel
theorem dL_law_121 : decode cL_law 121 = .ok (.iaload, 1) := by decide +kernel
theorem dL_law_122 : decode cL_law 122 = .ok (.invokevirtual 15, 3) := by decide +kernel
theorem dL_law_125 : decode cL_law 125 = .ok (.aload_n 2, 1) := by decide +kernel
theorem dL_law_126 : decode cL_law 126 = .ok (.aload_n 0, 1) := by decide +kernel
theorem dL_law_127 : decode cL_law 127 = .ok (.iload_n 3, 1) := by decide +kernel
theorem dL_law_128 : decode cL_law 128 = .ok (.iconst 1, 1) := by decide +kernel
theorem dL_law_129 : decode cL_law 129 = .ok (.iadd, 1) := by decide +kernel
theorem dL_law_130 : decode cL_law 130 = .ok (.iaload, 1) := by decide +kernel
theorem dL_law_131 : decode cL_law 131 = .ok (.i2l, 1) := by decide +kernel
theorem dL_law_132 : decode cL_law 132 = .ok (.bipush 32, 2) := by decide +kernel
theorem dL_law_134 : decode cL_law 134 = .ok (.lshl, 1) := by decide +kernel
theorem dL_law_135 : decode cL_law 135 = .ok (.aload_n 0, 1) := by decide +kernel
theorem dL_law_136 : decode cL_law 136 = .ok (.iload_n 3, 1) := by decide +kernel
theorem dL_law_137 : decode cL_law 137 = .ok (.iconst 2, 1) := by decide +kernel
theorem dL_law_138 : decode cL_law 138 = .ok (.iadd, 1) := by decide +kernel
theorem dL_law_139 : decode cL_law 139 = .ok (.iaload, 1) := by decide +kernel
theorem dL_law_140 : decode cL_law 140 = .ok (.i2l, 1) := by decide +kernel
theorem dL_law_141 : decode cL_law 141 = .ok (.ldc2_w 13, 3) := by decide +kernel
theorem dL_law_144 : decode cL_law 144 = .ok (.land, 1) := by decide +kernel
theorem dL_law_145 : decode cL_law 145 = .ok (.lor, 1) := by decide +kernel
theorem dL_law_146 : decode cL_law 146 = .ok (.aload_n 0, 1) := by decide +kernel
theorem dL_law_147 : decode cL_law 147 = .ok (.iload_n 3, 1) := by decide +kernel
theorem dL_law_148 : decode cL_law 148 = .ok (.iconst 3, 1) := by decide +kernel
theorem dL_law_149 : decode cL_law 149 = .ok (.iadd, 1) := by decide +kernel
theorem dL_law_150 : decode cL_law 150 = .ok (.iaload, 1) := by decide +kernel
theorem dL_law_151 : decode cL_law 151 = .ok (.invokevirtual 19, 3) := by decide +kernel
theorem dL_law_154 : decode cL_law 154 = .ok (.if_icmp .eq 258, 3) := by decide +kernel
theorem dL_law_157 : decode cL_law 157 = .ok (.iconst 0, 1) := by decide +kernel
theorem dL_law_158 : decode cL_law 158 = .ok (.ireturn, 1) := by decide +kernel
theorem dL_law_159 : decode cL_law 159 = .ok (.aload_n 1, 1) := by decide +kernel
theorem dL_law_160 : decode cL_law 160 = .ok (.invokevirtual 20, 3) := by decide +kernel
theorem dL_law_163 : decode cL_law 163 = .ok (.aload_n 2, 1) := by decide +kernel
theorem dL_law_164 : decode cL_law 164 = .ok (.invokevirtual 24, 3) := by decide +kernel
theorem dL_law_167 : decode cL_law 167 = .ok (.if_icmp .eq 245, 3) := by decide +kernel
theorem dL_law_170 : decode cL_law 170 = .ok (.iconst 0, 1) := by decide +kernel
theorem dL_law_171 : decode cL_law 171 = .ok (.ireturn, 1) := by decide +kernel
theorem dL_law_172 : decode cL_law 172 = .ok (.aload_n 1, 1) := by decide +kernel
theorem dL_law_173 : decode cL_law 173 = .ok (.invokevirtual 25, 3) := by decide +kernel
theorem dL_law_176 : decode cL_law 176 = .ok (.aload_n 2, 1) := by decide +kernel
theorem dL_law_177 : decode cL_law 177 = .ok (.invokevirtual 28, 3) := by decide +kernel
theorem dL_law_180 : decode cL_law 180 = .ok (.if_icmp .eq 232, 3) := by decide +kernel
theorem dL_law_183 : decode cL_law 183 = .ok (.iconst 0, 1) := by decide +kernel
theorem dL_law_184 : decode cL_law 184 = .ok (.ireturn, 1) := by decide +kernel
theorem dL_law_185 : decode cL_law 185 = .ok (.aload_n 1, 1) := by decide +kernel
theorem dL_law_186 : decode cL_law 186 = .ok (.invokevirtual 29, 3) := by decide +kernel
theorem dL_law_189 : decode cL_law 189 = .ok (.aload_n 2, 1) := by decide +kernel
theorem dL_law_190 : decode cL_law 190 = .ok (.invokevirtual 32, 3) := by decide +kernel
theorem dL_law_193 : decode cL_law 193 = .ok (.if_icmp .eq 219, 3) := by decide +kernel
theorem dL_law_196 : decode cL_law 196 = .ok (.iconst 0, 1) := by decide +kernel
theorem dL_law_197 : decode cL_law 197 = .ok (.ireturn, 1) := by decide +kernel
theorem dL_law_198 : decode cL_law 198 = .ok (.aload_n 1, 1) := by decide +kernel
theorem dL_law_199 : decode cL_law 199 = .ok (.aload_n 0, 1) := by decide +kernel
theorem dL_law_200 : decode cL_law 200 = .ok (.iload_n 3, 1) := by decide +kernel
theorem dL_law_201 : decode cL_law 201 = .ok (.iconst 1, 1) := by decide +kernel
theorem dL_law_202 : decode cL_law 202 = .ok (.iadd, 1) := by decide +kernel
theorem dL_law_203 : decode cL_law 203 = .ok (.iaload, 1) := by decide +kernel
theorem dL_law_204 : decode cL_law 204 = .ok (.invokevirtual 33, 3) := by decide +kernel
theorem dL_law_207 : decode cL_law 207 = .ok (.aload_n 2, 1) := by decide +kernel
theorem dL_law_208 : decode cL_law 208 = .ok (.aload_n 0, 1) := by decide +kernel
theorem dL_law_209 : decode cL_law 209 = .ok (.iload_n 3, 1) := by decide +kernel
theorem dL_law_210 : decode cL_law 210 = .ok (.iconst 1, 1) := by decide +kernel
theorem dL_law_211 : decode cL_law 211 = .ok (.iadd, 1) := by decide +kernel
theorem dL_law_212 : decode cL_law 212 = .ok (.iaload, 1) := by decide +kernel
theorem dL_law_213 : decode cL_law 213 = .ok (.invokevirtual 37, 3) := by decide +kernel
theorem dL_law_216 : decode cL_law 216 = .ok (.if_icmp .eq 196, 3) := by decide +kernel
theorem dL_law_219 : decode cL_law 219 = .ok (.iconst 0, 1) := by decide +kernel
theorem dL_law_220 : decode cL_law 220 = .ok (.ireturn, 1) := by decide +kernel
theorem dL_law_221 : decode cL_law 221 = .ok (.aload_n 1, 1) := by decide +kernel
theorem dL_law_222 : decode cL_law 222 = .ok (.aload_n 0, 1) := by decide +kernel
theorem dL_law_223 : decode cL_law 223 = .ok (.iload_n 3, 1) := by decide +kernel
theorem dL_law_224 : decode cL_law 224 = .ok (.iconst 1, 1) := by decide +kernel
theorem dL_law_225 : decode cL_law 225 = .ok (.iadd, 1) := by decide +kernel
theorem dL_law_226 : decode cL_law 226 = .ok (.iaload, 1) := by decide +kernel
theorem dL_law_227 : decode cL_law 227 = .ok (.aload_n 0, 1) := by decide +kernel
theorem dL_law_228 : decode cL_law 228 = .ok (.iload_n 3, 1) := by decide +kernel
theorem dL_law_229 : decode cL_law 229 = .ok (.iconst 2, 1) := by decide +kernel
theorem dL_law_230 : decode cL_law 230 = .ok (.iadd, 1) := by decide +kernel
theorem dL_law_231 : decode cL_law 231 = .ok (.iaload, 1) := by decide +kernel
theorem dL_law_232 : decode cL_law 232 = .ok (.invokevirtual 38, 3) := by decide +kernel
theorem dL_law_235 : decode cL_law 235 = .ok (.aload_n 2, 1) := by decide +kernel
theorem dL_law_236 : decode cL_law 236 = .ok (.aload_n 0, 1) := by decide +kernel
theorem dL_law_237 : decode cL_law 237 = .ok (.iload_n 3, 1) := by decide +kernel
theorem dL_law_238 : decode cL_law 238 = .ok (.iconst 1, 1) := by decide +kernel
theorem dL_law_239 : decode cL_law 239 = .ok (.iadd, 1) := by decide +kernel
theorem dL_law_240 : decode cL_law 240 = .ok (.iaload, 1) := by decide +kernel
theorem dL_law_241 : decode cL_law 241 = .ok (.aload_n 0, 1) := by decide +kernel
theorem dL_law_242 : decode cL_law 242 = .ok (.iload_n 3, 1) := by decide +kernel
theorem dL_law_243 : decode cL_law 243 = .ok (.iconst 2, 1) := by decide +kernel
theorem dL_law_244 : decode cL_law 244 = .ok (.iadd, 1) := by decide +kernel
theorem dL_law_245 : decode cL_law 245 = .ok (.iaload, 1) := by decide +kernel
theorem dL_law_246 : decode cL_law 246 = .ok (.invokevirtual 42, 3) := by decide +kernel
theorem dL_law_249 : decode cL_law 249 = .ok (.if_icmp .eq 163, 3) := by decide +kernel
theorem dL_law_252 : decode cL_law 252 = .ok (.iconst 0, 1) := by decide +kernel
theorem dL_law_253 : decode cL_law 253 = .ok (.ireturn, 1) := by decide +kernel
theorem dL_law_254 : decode cL_law 254 = .ok (.aload_n 1, 1) := by decide +kernel
theorem dL_law_255 : decode cL_law 255 = .ok (.aload_n 0, 1) := by decide +kernel
theorem dL_law_256 : decode cL_law 256 = .ok (.iload_n 3, 1) := by decide +kernel
theorem dL_law_257 : decode cL_law 257 = .ok (.iconst 1, 1) := by decide +kernel
theorem dL_law_258 : decode cL_law 258 = .ok (.iadd, 1) := by decide +kernel
theorem dL_law_259 : decode cL_law 259 = .ok (.iaload, 1) := by decide +kernel
theorem dL_law_260 : decode cL_law 260 = .ok (.invokevirtual 43, 3) := by decide +kernel
theorem dL_law_263 : decode cL_law 263 = .ok (.aload_n 2, 1) := by decide +kernel
theorem dL_law_264 : decode cL_law 264 = .ok (.aload_n 0, 1) := by decide +kernel
theorem dL_law_265 : decode cL_law 265 = .ok (.iload_n 3, 1) := by decide +kernel
theorem dL_law_266 : decode cL_law 266 = .ok (.iconst 1, 1) := by decide +kernel
theorem dL_law_267 : decode cL_law 267 = .ok (.iadd, 1) := by decide +kernel
theorem dL_law_268 : decode cL_law 268 = .ok (.iaload, 1) := by decide +kernel
theorem dL_law_269 : decode cL_law 269 = .ok (.invokevirtual 46, 3) := by decide +kernel
theorem dL_law_272 : decode cL_law 272 = .ok (.if_icmp .eq 140, 3) := by decide +kernel
theorem dL_law_275 : decode cL_law 275 = .ok (.iconst 0, 1) := by decide +kernel
theorem dL_law_276 : decode cL_law 276 = .ok (.ireturn, 1) := by decide +kernel
theorem dL_law_277 : decode cL_law 277 = .ok (.aload_n 1, 1) := by decide +kernel
theorem dL_law_278 : decode cL_law 278 = .ok (.aload_n 0, 1) := by decide +kernel
theorem dL_law_279 : decode cL_law 279 = .ok (.iload_n 3, 1) := by decide +kernel
theorem dL_law_280 : decode cL_law 280 = .ok (.iconst 1, 1) := by decide +kernel
theorem dL_law_281 : decode cL_law 281 = .ok (.iadd, 1) := by decide +kernel
theorem dL_law_282 : decode cL_law 282 = .ok (.iaload, 1) := by decide +kernel
theorem dL_law_283 : decode cL_law 283 = .ok (.invokevirtual 47, 3) := by decide +kernel
theorem dL_law_286 : decode cL_law 286 = .ok (.aload_n 2, 1) := by decide +kernel
theorem dL_law_287 : decode cL_law 287 = .ok (.aload_n 0, 1) := by decide +kernel
theorem dL_law_288 : decode cL_law 288 = .ok (.iload_n 3, 1) := by decide +kernel
theorem dL_law_289 : decode cL_law 289 = .ok (.iconst 1, 1) := by decide +kernel
theorem dL_law_290 : decode cL_law 290 = .ok (.iadd, 1) := by decide +kernel
theorem dL_law_291 : decode cL_law 291 = .ok (.iaload, 1) := by decide +kernel
theorem dL_law_292 : decode cL_law 292 = .ok (.invokevirtual 50, 3) := by decide +kernel
theorem dL_law_295 : decode cL_law 295 = .ok (.if_icmp .eq 117, 3) := by decide +kernel
theorem dL_law_298 : decode cL_law 298 = .ok (.iconst 0, 1) := by decide +kernel
theorem dL_law_299 : decode cL_law 299 = .ok (.ireturn, 1) := by decide +kernel
theorem dL_law_300 : decode cL_law 300 = .ok (.aload_n 1, 1) := by decide +kernel
theorem dL_law_301 : decode cL_law 301 = .ok (.aload_n 0, 1) := by decide +kernel
theorem dL_law_302 : decode cL_law 302 = .ok (.iload_n 3, 1) := by decide +kernel
theorem dL_law_303 : decode cL_law 303 = .ok (.iconst 1, 1) := by decide +kernel
theorem dL_law_304 : decode cL_law 304 = .ok (.iadd, 1) := by decide +kernel
theorem dL_law_305 : decode cL_law 305 = .ok (.iaload, 1) := by decide +kernel
theorem dL_law_306 : decode cL_law 306 = .ok (.aload_n 0, 1) := by decide +kernel
theorem dL_law_307 : decode cL_law 307 = .ok (.iload_n 3, 1) := by decide +kernel
theorem dL_law_308 : decode cL_law 308 = .ok (.iconst 2, 1) := by decide +kernel
theorem dL_law_309 : decode cL_law 309 = .ok (.iadd, 1) := by decide +kernel
theorem dL_law_310 : decode cL_law 310 = .ok (.iaload, 1) := by decide +kernel
theorem dL_law_311 : decode cL_law 311 = .ok (.invokevirtual 51, 3) := by decide +kernel
theorem dL_law_314 : decode cL_law 314 = .ok (.aload_n 2, 1) := by decide +kernel
theorem dL_law_315 : decode cL_law 315 = .ok (.aload_n 0, 1) := by decide +kernel
theorem dL_law_316 : decode cL_law 316 = .ok (.iload_n 3, 1) := by decide +kernel
theorem dL_law_317 : decode cL_law 317 = .ok (.iconst 1, 1) := by decide +kernel
theorem dL_law_318 : decode cL_law 318 = .ok (.iadd, 1) := by decide +kernel
theorem dL_law_319 : decode cL_law 319 = .ok (.iaload, 1) := by decide +kernel
theorem dL_law_320 : decode cL_law 320 = .ok (.aload_n 0, 1) := by decide +kernel
theorem dL_law_321 : decode cL_law 321 = .ok (.iload_n 3, 1) := by decide +kernel
theorem dL_law_322 : decode cL_law 322 = .ok (.iconst 2, 1) := by decide +kernel
theorem dL_law_323 : decode cL_law 323 = .ok (.iadd, 1) := by decide +kernel
theorem dL_law_324 : decode cL_law 324 = .ok (.iaload, 1) := by decide +kernel
theorem dL_law_325 : decode cL_law 325 = .ok (.invokevirtual 54, 3) := by decide +kernel
theorem dL_law_328 : decode cL_law 328 = .ok (.if_icmp .eq 84, 3) := by decide +kernel
theorem dL_law_331 : decode cL_law 331 = .ok (.iconst 0, 1) := by decide +kernel
theorem dL_law_332 : decode cL_law 332 = .ok (.ireturn, 1) := by decide +kernel
theorem dL_law_333 : decode cL_law 333 = .ok (.aload_n 1, 1) := by decide +kernel
theorem dL_law_334 : decode cL_law 334 = .ok (.aload_n 0, 1) := by decide +kernel
theorem dL_law_335 : decode cL_law 335 = .ok (.iload_n 3, 1) := by decide +kernel
theorem dL_law_336 : decode cL_law 336 = .ok (.iconst 1, 1) := by decide +kernel
theorem dL_law_337 : decode cL_law 337 = .ok (.iadd, 1) := by decide +kernel
theorem dL_law_338 : decode cL_law 338 = .ok (.iaload, 1) := by decide +kernel
theorem dL_law_339 : decode cL_law 339 = .ok (.invokevirtual 55, 3) := by decide +kernel
theorem dL_law_342 : decode cL_law 342 = .ok (.aload_n 2, 1) := by decide +kernel
theorem dL_law_343 : decode cL_law 343 = .ok (.aload_n 0, 1) := by decide +kernel
theorem dL_law_344 : decode cL_law 344 = .ok (.iload_n 3, 1) := by decide +kernel
theorem dL_law_345 : decode cL_law 345 = .ok (.iconst 1, 1) := by decide +kernel
theorem dL_law_346 : decode cL_law 346 = .ok (.iadd, 1) := by decide +kernel
theorem dL_law_347 : decode cL_law 347 = .ok (.iaload, 1) := by decide +kernel
theorem dL_law_348 : decode cL_law 348 = .ok (.invokevirtual 58, 3) := by decide +kernel
theorem dL_law_351 : decode cL_law 351 = .ok (.if_icmp .eq 61, 3) := by decide +kernel
theorem dL_law_354 : decode cL_law 354 = .ok (.iconst 0, 1) := by decide +kernel
theorem dL_law_355 : decode cL_law 355 = .ok (.ireturn, 1) := by decide +kernel
theorem dL_law_356 : decode cL_law 356 = .ok (.aload_n 1, 1) := by decide +kernel
theorem dL_law_357 : decode cL_law 357 = .ok (.aload_n 0, 1) := by decide +kernel
theorem dL_law_358 : decode cL_law 358 = .ok (.iload_n 3, 1) := by decide +kernel
theorem dL_law_359 : decode cL_law 359 = .ok (.iconst 1, 1) := by decide +kernel
theorem dL_law_360 : decode cL_law 360 = .ok (.iadd, 1) := by decide +kernel
theorem dL_law_361 : decode cL_law 361 = .ok (.iaload, 1) := by decide +kernel
theorem dL_law_362 : decode cL_law 362 = .ok (.aload_n 0, 1) := by decide +kernel
theorem dL_law_363 : decode cL_law 363 = .ok (.iload_n 3, 1) := by decide +kernel
theorem dL_law_364 : decode cL_law 364 = .ok (.iconst 2, 1) := by decide +kernel
theorem dL_law_365 : decode cL_law 365 = .ok (.iadd, 1) := by decide +kernel
theorem dL_law_366 : decode cL_law 366 = .ok (.iaload, 1) := by decide +kernel
theorem dL_law_367 : decode cL_law 367 = .ok (.invokevirtual 59, 3) := by decide +kernel
theorem dL_law_370 : decode cL_law 370 = .ok (.aload_n 2, 1) := by decide +kernel
theorem dL_law_371 : decode cL_law 371 = .ok (.aload_n 0, 1) := by decide +kernel
theorem dL_law_372 : decode cL_law 372 = .ok (.iload_n 3, 1) := by decide +kernel
theorem dL_law_373 : decode cL_law 373 = .ok (.iconst 1, 1) := by decide +kernel
theorem dL_law_374 : decode cL_law 374 = .ok (.iadd, 1) := by decide +kernel
theorem dL_law_375 : decode cL_law 375 = .ok (.iaload, 1) := by decide +kernel
theorem dL_law_376 : decode cL_law 376 = .ok (.aload_n 0, 1) := by decide +kernel
theorem dL_law_377 : decode cL_law 377 = .ok (.iload_n 3, 1) := by decide +kernel
theorem dL_law_378 : decode cL_law 378 = .ok (.iconst 2, 1) := by decide +kernel
theorem dL_law_379 : decode cL_law 379 = .ok (.iadd, 1) := by decide +kernel
theorem dL_law_380 : decode cL_law 380 = .ok (.iaload, 1) := by decide +kernel
theorem dL_law_381 : decode cL_law 381 = .ok (.invokevirtual 62, 3) := by decide +kernel
theorem dL_law_384 : decode cL_law 384 = .ok (.if_icmp .eq 28, 3) := by decide +kernel
theorem dL_law_387 : decode cL_law 387 = .ok (.iconst 0, 1) := by decide +kernel
theorem dL_law_388 : decode cL_law 388 = .ok (.ireturn, 1) := by decide +kernel
theorem dL_law_389 : decode cL_law 389 = .ok (.aload_n 1, 1) := by decide +kernel
theorem dL_law_390 : decode cL_law 390 = .ok (.aload_n 0, 1) := by decide +kernel
theorem dL_law_391 : decode cL_law 391 = .ok (.iload_n 3, 1) := by decide +kernel
theorem dL_law_392 : decode cL_law 392 = .ok (.iconst 1, 1) := by decide +kernel
theorem dL_law_393 : decode cL_law 393 = .ok (.iadd, 1) := by decide +kernel
theorem dL_law_394 : decode cL_law 394 = .ok (.iaload, 1) := by decide +kernel
theorem dL_law_395 : decode cL_law 395 = .ok (.invokevirtual 63, 3) := by decide +kernel
theorem dL_law_398 : decode cL_law 398 = .ok (.aload_n 2, 1) := by decide +kernel
theorem dL_law_399 : decode cL_law 399 = .ok (.aload_n 0, 1) := by decide +kernel
theorem dL_law_400 : decode cL_law 400 = .ok (.iload_n 3, 1) := by decide +kernel
theorem dL_law_401 : decode cL_law 401 = .ok (.iconst 1, 1) := by decide +kernel
theorem dL_law_402 : decode cL_law 402 = .ok (.iadd, 1) := by decide +kernel
theorem dL_law_403 : decode cL_law 403 = .ok (.iaload, 1) := by decide +kernel
theorem dL_law_404 : decode cL_law 404 = .ok (.invokevirtual 66, 3) := by decide +kernel
theorem dL_law_407 : decode cL_law 407 = .ok (.if_icmp .eq 5, 3) := by decide +kernel
theorem dL_law_410 : decode cL_law 410 = .ok (.iconst 0, 1) := by decide +kernel
theorem dL_law_411 : decode cL_law 411 = .ok (.ireturn, 1) := by decide +kernel
theorem dL_law_412 : decode cL_law 412 = .ok (.iinc 3 4, 3) := by decide +kernel
theorem dL_law_415 : decode cL_law 415 = .ok (.goto (-397), 3) := by decide +kernel
theorem dL_law_418 : decode cL_law 418 = .ok (.iconst 1, 1) := by decide +kernel
theorem dL_law_419 : decode cL_law 419 = .ok (.ireturn, 1) := by decide +kernel
