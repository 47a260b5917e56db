theorem s_Mo_init_0 : dsq c_Mo_init 0 [(.aload_n 0, 1, 0)] 1 = true := by decide +kernel
theorem s_Mo_init_4 : dsq c_Mo_init 4 [(.aload_n 0, 1, 0), (.bipush 6, 2, 6)] 7 = true := by decide +kernel
theorem s_Mo_init_12 : dsq c_Mo_init 12 [(.aload_n 0, 1, 0), (.sipush 4200, 3, 4200)] 16 = true := by decide +kernel
theorem s_Mo_init_21 : dsq c_Mo_init 21 [(.aload_n 0, 1, 0), (.sipush 4200, 3, 4200)] 25 = true := by decide +kernel
theorem s_Mo_init_30 : dsq c_Mo_init 30 [(.aload_n 0, 1, 0), (.sipush 4200, 3, 4200)] 34 = true := by decide +kernel
theorem s_Mo_init_39 : dsq c_Mo_init 39 [(.aload_n 0, 1, 0)] 40 = true := by decide +kernel
theorem s_Mo_init_47 : dsq c_Mo_init 47 [(.aload_n 0, 1, 0), (.sipush 4200, 3, 4200)] 51 = true := by decide +kernel
theorem s_Mo_init_56 : dsq c_Mo_init 56 [(.aload_n 0, 1, 0), (.sipush 4200, 3, 4200)] 60 = true := by decide +kernel
theorem s_Mo_init_65 : dsq c_Mo_init 65 [(.aload_n 0, 1, 0), (.sipush 4200, 3, 4200)] 69 = true := by decide +kernel
theorem s_Mo_init_74 : dsq c_Mo_init 74 [(.aload_n 0, 1, 0), (.sipush 21000, 3, 21000)] 78 = true := by decide +kernel
theorem s_Mo_init_83 : dsq c_Mo_init 83 [(.aload_n 0, 1, 0), (.sipush 21000, 3, 21000)] 87 = true := by decide +kernel
theorem s_Mo_init_92 : dsq c_Mo_init 92 [(.aload_n 0, 1, 0), (.sipush 21000, 3, 21000)] 96 = true := by decide +kernel
theorem s_Mo_init_101 : dsq c_Mo_init 101 [(.aload_n 0, 1, 0), (.sipush 4200, 3, 4200)] 105 = true := by decide +kernel
theorem s_Mo_init_110 : dsq c_Mo_init 110 [(.aload_n 0, 1, 0), (.bipush 30, 2, 30)] 113 = true := by decide +kernel
theorem s_Mo_init_118 : dsq c_Mo_init 118 [(.aload_n 0, 1, 0), (.bipush 30, 2, 30)] 121 = true := by decide +kernel
theorem s_Mo_init_126 : dsq c_Mo_init 126 [(.aload_n 0, 1, 0), (.bipush 30, 2, 30)] 129 = true := by decide +kernel
theorem s_Mo_init_134 : dsq c_Mo_init 134 [(.aload_n 0, 1, 0), (.iconst 4, 1, 4)] 136 = true := by decide +kernel
theorem s_Mo_init_141 : dsq c_Mo_init 141 [(.aload_n 0, 1, 0), (.iconst 4, 1, 4)] 143 = true := by decide +kernel
theorem s_Mo_init_148 : dsq c_Mo_init 148 [(.aload_n 0, 1, 0), (.sipush 128, 3, 128)] 152 = true := by decide +kernel
theorem s_Mo_init_157 : dsq c_Mo_init 157 [(.aload_n 0, 1, 0), (.sipush 128, 3, 128)] 161 = true := by decide +kernel
theorem s_Mo_init_166 : dsq c_Mo_init 166 [(.aload_n 0, 1, 0), (.bipush 16, 2, 16)] 169 = true := by decide +kernel
theorem s_Mo_init_174 : dsq c_Mo_init 174 [(.aload_n 0, 1, 0), (.bipush 6, 2, 6)] 177 = true := by decide +kernel
theorem d_Mo_init_1 : decode c_Mo_init 1 = .ok (.invokespecial 1, 3) := by decide +kernel
theorem d_Mo_init_7 : decode c_Mo_init 7 = .ok (.newarray .int, 2) := by decide +kernel
theorem d_Mo_init_9 : decode c_Mo_init 9 = .ok (.putfield 7, 3) := by decide +kernel
theorem d_Mo_init_16 : decode c_Mo_init 16 = .ok (.newarray .long, 2) := by decide +kernel
theorem d_Mo_init_18 : decode c_Mo_init 18 = .ok (.putfield 13, 3) := by decide +kernel
theorem d_Mo_init_25 : decode c_Mo_init 25 = .ok (.newarray .int, 2) := by decide +kernel
theorem d_Mo_init_27 : decode c_Mo_init 27 = .ok (.putfield 17, 3) := by decide +kernel
theorem d_Mo_init_34 : decode c_Mo_init 34 = .ok (.newarray .int, 2) := by decide +kernel
theorem d_Mo_init_36 : decode c_Mo_init 36 = .ok (.putfield 20, 3) := by decide +kernel
theorem d_Mo_init_40 : decode c_Mo_init 40 = .ok (.ldc 23, 2) := by decide +kernel
theorem d_Mo_init_42 : decode c_Mo_init 42 = .ok (.newarray .int, 2) := by decide +kernel
theorem d_Mo_init_44 : decode c_Mo_init 44 = .ok (.putfield 24, 3) := by decide +kernel
theorem d_Mo_init_51 : decode c_Mo_init 51 = .ok (.newarray .int, 2) := by decide +kernel
theorem d_Mo_init_53 : decode c_Mo_init 53 = .ok (.putfield 27, 3) := by decide +kernel
theorem d_Mo_init_60 : decode c_Mo_init 60 = .ok (.newarray .int, 2) := by decide +kernel
theorem d_Mo_init_62 : decode c_Mo_init 62 = .ok (.putfield 30, 3) := by decide +kernel
theorem d_Mo_init_69 : decode c_Mo_init 69 = .ok (.newarray .int, 2) := by decide +kernel
theorem d_Mo_init_71 : decode c_Mo_init 71 = .ok (.putfield 33, 3) := by decide +kernel
theorem d_Mo_init_78 : decode c_Mo_init 78 = .ok (.newarray .int, 2) := by decide +kernel
theorem d_Mo_init_80 : decode c_Mo_init 80 = .ok (.putfield 36, 3) := by decide +kernel
theorem d_Mo_init_87 : decode c_Mo_init 87 = .ok (.newarray .int, 2) := by decide +kernel
theorem d_Mo_init_89 : decode c_Mo_init 89 = .ok (.putfield 39, 3) := by decide +kernel
theorem d_Mo_init_96 : decode c_Mo_init 96 = .ok (.newarray .int, 2) := by decide +kernel
theorem d_Mo_init_98 : decode c_Mo_init 98 = .ok (.putfield 42, 3) := by decide +kernel
theorem d_Mo_init_105 : decode c_Mo_init 105 = .ok (.newarray .int, 2) := by decide +kernel
theorem d_Mo_init_107 : decode c_Mo_init 107 = .ok (.putfield 45, 3) := by decide +kernel
theorem d_Mo_init_113 : decode c_Mo_init 113 = .ok (.newarray .int, 2) := by decide +kernel
theorem d_Mo_init_115 : decode c_Mo_init 115 = .ok (.putfield 48, 3) := by decide +kernel
theorem d_Mo_init_121 : decode c_Mo_init 121 = .ok (.newarray .int, 2) := by decide +kernel
theorem d_Mo_init_123 : decode c_Mo_init 123 = .ok (.putfield 51, 3) := by decide +kernel
theorem d_Mo_init_129 : decode c_Mo_init 129 = .ok (.newarray .int, 2) := by decide +kernel
theorem d_Mo_init_131 : decode c_Mo_init 131 = .ok (.putfield 54, 3) := by decide +kernel
theorem d_Mo_init_136 : decode c_Mo_init 136 = .ok (.newarray .int, 2) := by decide +kernel
theorem d_Mo_init_138 : decode c_Mo_init 138 = .ok (.putfield 57, 3) := by decide +kernel
theorem d_Mo_init_143 : decode c_Mo_init 143 = .ok (.newarray .int, 2) := by decide +kernel
theorem d_Mo_init_145 : decode c_Mo_init 145 = .ok (.putfield 60, 3) := by decide +kernel
theorem d_Mo_init_152 : decode c_Mo_init 152 = .ok (.newarray .int, 2) := by decide +kernel
theorem d_Mo_init_154 : decode c_Mo_init 154 = .ok (.putfield 63, 3) := by decide +kernel
theorem d_Mo_init_161 : decode c_Mo_init 161 = .ok (.newarray .int, 2) := by decide +kernel
theorem d_Mo_init_163 : decode c_Mo_init 163 = .ok (.putfield 66, 3) := by decide +kernel
theorem d_Mo_init_169 : decode c_Mo_init 169 = .ok (.newarray .int, 2) := by decide +kernel
theorem d_Mo_init_171 : decode c_Mo_init 171 = .ok (.putfield 69, 3) := by decide +kernel
theorem d_Mo_init_177 : decode c_Mo_init 177 = .ok (.newarray .int, 2) := by decide +kernel
theorem d_Mo_init_179 : decode c_Mo_init 179 = .ok (.putfield 72, 3) := by decide +kernel
theorem d_Mo_init_182 : decode c_Mo_init 182 = .ok (.return_, 1) := by decide +kernel
theorem s_Mo_sign_0 : dsq c_Mo_sign 0 [(.iload_n 1, 1, 0), (.bipush 97, 2, 97)] 3 = true := by decide +kernel
theorem s_Mo_sign_6 : dsq c_Mo_sign 6 [(.iload_n 1, 1, 0), (.bipush 122, 2, 122)] 9 = true := by decide +kernel
theorem s_Mo_sign_12 : dsq c_Mo_sign 12 [(.iconst (-1), 1, (-1))] 13 = true := by decide +kernel
theorem s_Mo_sign_14 : dsq c_Mo_sign 14 [(.aload_n 0, 1, 0)] 15 = true := by decide +kernel
theorem s_Mo_sign_18 : dsq c_Mo_sign 18 [(.bipush 6, 2, 6)] 20 = true := by decide +kernel
theorem s_Mo_sign_23 : dsq c_Mo_sign 23 [(.bipush (-3), 2, (-3))] 25 = true := by decide +kernel
theorem s_Mo_sign_26 : dsq c_Mo_sign 26 [(.aload_n 0, 1, 0)] 27 = true := by decide +kernel
theorem s_Mo_sign_30 : dsq c_Mo_sign 30 [(.aload_n 0, 1, 0), (.dup, 1, 0)] 32 = true := by decide +kernel
theorem s_Mo_sign_35 : dsq c_Mo_sign 35 [(.dup_x1, 1, 0), (.iconst 1, 1, 1), (.iadd, 1, 0)] 38 = true := by decide +kernel
theorem s_Mo_sign_41 : dsq c_Mo_sign 41 [(.iload_n 1, 1, 0)] 42 = true := by decide +kernel
theorem s_Mo_sign_43 : dsq c_Mo_sign 43 [(.aload_n 0, 1, 0)] 44 = true := by decide +kernel
theorem d_Mo_sign_3 : decode c_Mo_sign 3 = .ok (.if_icmp .lt 9, 3) := by decide +kernel
theorem d_Mo_sign_9 : decode c_Mo_sign 9 = .ok (.if_icmp .le 5, 3) := by decide +kernel
theorem d_Mo_sign_13 : decode c_Mo_sign 13 = .ok (.ireturn, 1) := by decide +kernel
theorem d_Mo_sign_15 : decode c_Mo_sign 15 = .ok (.getfield 75, 3) := by decide +kernel
theorem d_Mo_sign_20 : decode c_Mo_sign 20 = .ok (.if_icmp .ne 6, 3) := by decide +kernel
theorem d_Mo_sign_25 : decode c_Mo_sign 25 = .ok (.ireturn, 1) := by decide +kernel
theorem d_Mo_sign_27 : decode c_Mo_sign 27 = .ok (.getfield 7, 3) := by decide +kernel
theorem d_Mo_sign_32 : decode c_Mo_sign 32 = .ok (.getfield 75, 3) := by decide +kernel
theorem d_Mo_sign_38 : decode c_Mo_sign 38 = .ok (.putfield 75, 3) := by decide +kernel
theorem d_Mo_sign_42 : decode c_Mo_sign 42 = .ok (.iastore, 1) := by decide +kernel
theorem d_Mo_sign_44 : decode c_Mo_sign 44 = .ok (.getfield 75, 3) := by decide +kernel
theorem d_Mo_sign_47 : decode c_Mo_sign 47 = .ok (.ireturn, 1) := by decide +kernel
theorem s_Mo_erase_0 : dsq c_Mo_erase 0 [(.aload_n 0, 1, 0)] 1 = true := by decide +kernel
theorem s_Mo_erase_4 : dsq c_Mo_erase 4 [(.istore_n 1, 1, 0), (.aload_n 0, 1, 0), (.iconst 0, 1, 0)] 7 = true := by decide +kernel
theorem s_Mo_erase_10 : dsq c_Mo_erase 10 [(.iload_n 1, 1, 0)] 11 = true := by decide +kernel
theorem d_Mo_erase_1 : decode c_Mo_erase 1 = .ok (.getfield 75, 3) := by decide +kernel
theorem d_Mo_erase_7 : decode c_Mo_erase 7 = .ok (.putfield 75, 3) := by decide +kernel
theorem d_Mo_erase_11 : decode c_Mo_erase 11 = .ok (.ireturn, 1) := by decide +kernel
theorem s_Mo_want_0 : dsq c_Mo_want 0 [(.aload_n 0, 1, 0)] 1 = true := by decide +kernel
theorem s_Mo_want_7 : dsq c_Mo_want 7 [(.iload_n 1, 1, 0)] 8 = true := by decide +kernel
theorem s_Mo_want_14 : dsq c_Mo_want 14 [(.iload_n 2, 1, 0), (.iconst 1, 1, 1)] 16 = true := by decide +kernel
theorem s_Mo_want_19 : dsq c_Mo_want 19 [(.iload_n 2, 1, 0), (.bipush 100, 2, 100)] 22 = true := by decide +kernel
theorem s_Mo_want_25 : dsq c_Mo_want 25 [(.iconst (-1), 1, (-1))] 26 = true := by decide +kernel
theorem s_Mo_want_27 : dsq c_Mo_want 27 [(.aload_n 0, 1, 0)] 28 = true := by decide +kernel
theorem s_Mo_want_31 : dsq c_Mo_want 31 [(.istore_n 3, 1, 0), (.aload_n 0, 1, 0)] 33 = true := by decide +kernel
theorem s_Mo_want_36 : dsq c_Mo_want 36 [(.iload_n 3, 1, 0)] 37 = true := by decide +kernel
theorem s_Mo_want_41 : dsq c_Mo_want 41 [(.aload_n 0, 1, 0)] 42 = true := by decide +kernel
theorem s_Mo_want_45 : dsq c_Mo_want 45 [(.iload_n 3, 1, 0), (.iload_n 1, 1, 0)] 47 = true := by decide +kernel
theorem s_Mo_want_48 : dsq c_Mo_want 48 [(.aload_n 0, 1, 0)] 49 = true := by decide +kernel
theorem s_Mo_want_52 : dsq c_Mo_want 52 [(.iload_n 3, 1, 0), (.aload_n 0, 1, 0)] 54 = true := by decide +kernel
theorem s_Mo_want_57 : dsq c_Mo_want 57 [(.iload_n 2, 1, 0), (.iadd, 1, 0)] 59 = true := by decide +kernel
theorem s_Mo_want_60 : dsq c_Mo_want 60 [(.aload_n 0, 1, 0), (.iload_n 3, 1, 0), (.iconst 1, 1, 1)] 63 = true := by decide +kernel
theorem s_Mo_want_66 : dsq c_Mo_want 66 [(.iconst 0, 1, 0)] 67 = true := by decide +kernel
theorem s_Mo_want_68 : dsq c_Mo_want 68 [(.aload_n 0, 1, 0)] 69 = true := by decide +kernel
theorem s_Mo_want_72 : dsq c_Mo_want 72 [(.iload_n 3, 1, 0)] 73 = true := by decide +kernel
theorem s_Mo_want_74 : dsq c_Mo_want 74 [(.iload_n 1, 1, 0)] 75 = true := by decide +kernel
theorem s_Mo_want_78 : dsq c_Mo_want 78 [(.aload_n 0, 1, 0), (.iload_n 3, 1, 0), (.iload_n 1, 1, 0)] 81 = true := by decide +kernel
theorem s_Mo_want_87 : dsq c_Mo_want 87 [(.bipush (-2), 2, (-2))] 89 = true := by decide +kernel
theorem s_Mo_want_90 : dsq c_Mo_want 90 [(.aload_n 0, 1, 0)] 91 = true := by decide +kernel
theorem s_Mo_want_94 : dsq c_Mo_want 94 [(.iload_n 3, 1, 0)] 95 = true := by decide +kernel
theorem s_Mo_want_96 : dsq c_Mo_want 96 [(.iconst 5, 1, 5)] 97 = true := by decide +kernel
theorem s_Mo_want_100 : dsq c_Mo_want 100 [(.bipush (-3), 2, (-3))] 102 = true := by decide +kernel
theorem s_Mo_want_103 : dsq c_Mo_want 103 [(.iconst 5, 1, 5), (.iload_n 3, 1, 0), (.imul, 1, 0), (.aload_n 0, 1, 0)] 107 = true := by decide +kernel
theorem s_Mo_want_110 : dsq c_Mo_want 110 [(.iload_n 3, 1, 0), (.dup2, 1, 0)] 112 = true := by decide +kernel
theorem s_Mo_want_113 : dsq c_Mo_want 113 [(.dup_x2, 1, 0), (.iconst 1, 1, 1), (.iadd, 1, 0)] 116 = true := by decide +kernel
theorem s_Mo_want_117 : dsq c_Mo_want 117 [(.iadd, 1, 0), (.istore 4, 2, 0), (.aload_n 0, 1, 0)] 121 = true := by decide +kernel
theorem s_Mo_want_124 : dsq c_Mo_want 124 [(.iload 4, 2, 0), (.iload_n 1, 1, 0)] 127 = true := by decide +kernel
theorem s_Mo_want_128 : dsq c_Mo_want 128 [(.aload_n 0, 1, 0)] 129 = true := by decide +kernel
theorem s_Mo_want_132 : dsq c_Mo_want 132 [(.iload 4, 2, 0), (.iload_n 2, 1, 0)] 135 = true := by decide +kernel
theorem s_Mo_want_136 : dsq c_Mo_want 136 [(.aload_n 0, 1, 0)] 137 = true := by decide +kernel
theorem s_Mo_want_140 : dsq c_Mo_want 140 [(.iload 4, 2, 0), (.aload_n 0, 1, 0)] 143 = true := by decide +kernel
theorem s_Mo_want_147 : dsq c_Mo_want 147 [(.aload_n 0, 1, 0)] 148 = true := by decide +kernel
theorem s_Mo_want_151 : dsq c_Mo_want 151 [(.iload_n 3, 1, 0)] 152 = true := by decide +kernel
theorem d_Mo_want_1 : decode c_Mo_want 1 = .ok (.getfield 75, 3) := by decide +kernel
theorem d_Mo_want_4 : decode c_Mo_want 4 = .ok (.ifCond .eq 21, 3) := by decide +kernel
theorem d_Mo_want_8 : decode c_Mo_want 8 = .ok (.invokestatic 105, 3) := by decide +kernel
theorem d_Mo_want_11 : decode c_Mo_want 11 = .ok (.ifCond .eq 14, 3) := by decide +kernel
theorem d_Mo_want_16 : decode c_Mo_want 16 = .ok (.if_icmp .lt 9, 3) := by decide +kernel
theorem d_Mo_want_22 : decode c_Mo_want 22 = .ok (.if_icmp .le 5, 3) := by decide +kernel
theorem d_Mo_want_26 : decode c_Mo_want 26 = .ok (.ireturn, 1) := by decide +kernel
theorem d_Mo_want_28 : decode c_Mo_want 28 = .ok (.invokevirtual 109, 3) := by decide +kernel
theorem d_Mo_want_33 : decode c_Mo_want 33 = .ok (.getfield 27, 3) := by decide +kernel
theorem d_Mo_want_37 : decode c_Mo_want 37 = .ok (.iaload, 1) := by decide +kernel
theorem d_Mo_want_38 : decode c_Mo_want 38 = .ok (.ifCond .ge 30, 3) := by decide +kernel
theorem d_Mo_want_42 : decode c_Mo_want 42 = .ok (.getfield 27, 3) := by decide +kernel
theorem d_Mo_want_47 : decode c_Mo_want 47 = .ok (.iastore, 1) := by decide +kernel
theorem d_Mo_want_49 : decode c_Mo_want 49 = .ok (.getfield 30, 3) := by decide +kernel
theorem d_Mo_want_54 : decode c_Mo_want 54 = .ok (.getfield 96, 3) := by decide +kernel
theorem d_Mo_want_59 : decode c_Mo_want 59 = .ok (.iastore, 1) := by decide +kernel
theorem d_Mo_want_63 : decode c_Mo_want 63 = .ok (.invokevirtual 92, 3) := by decide +kernel
theorem d_Mo_want_67 : decode c_Mo_want 67 = .ok (.ireturn, 1) := by decide +kernel
theorem d_Mo_want_69 : decode c_Mo_want 69 = .ok (.getfield 27, 3) := by decide +kernel
theorem d_Mo_want_73 : decode c_Mo_want 73 = .ok (.iaload, 1) := by decide +kernel
theorem d_Mo_want_75 : decode c_Mo_want 75 = .ok (.if_icmp .eq 12, 3) := by decide +kernel
theorem d_Mo_want_81 : decode c_Mo_want 81 = .ok (.invokevirtual 113, 3) := by decide +kernel
theorem d_Mo_want_84 : decode c_Mo_want 84 = .ok (.ifCond .lt 6, 3) := by decide +kernel
theorem d_Mo_want_89 : decode c_Mo_want 89 = .ok (.ireturn, 1) := by decide +kernel
theorem d_Mo_want_91 : decode c_Mo_want 91 = .ok (.getfield 33, 3) := by decide +kernel
theorem d_Mo_want_95 : decode c_Mo_want 95 = .ok (.iaload, 1) := by decide +kernel
theorem d_Mo_want_97 : decode c_Mo_want 97 = .ok (.if_icmp .ne 6, 3) := by decide +kernel
theorem d_Mo_want_102 : decode c_Mo_want 102 = .ok (.ireturn, 1) := by decide +kernel
theorem d_Mo_want_107 : decode c_Mo_want 107 = .ok (.getfield 33, 3) := by decide +kernel
theorem d_Mo_want_112 : decode c_Mo_want 112 = .ok (.iaload, 1) := by decide +kernel
theorem d_Mo_want_116 : decode c_Mo_want 116 = .ok (.iastore, 1) := by decide +kernel
theorem d_Mo_want_121 : decode c_Mo_want 121 = .ok (.getfield 36, 3) := by decide +kernel
theorem d_Mo_want_127 : decode c_Mo_want 127 = .ok (.iastore, 1) := by decide +kernel
theorem d_Mo_want_129 : decode c_Mo_want 129 = .ok (.getfield 39, 3) := by decide +kernel
theorem d_Mo_want_135 : decode c_Mo_want 135 = .ok (.iastore, 1) := by decide +kernel
theorem d_Mo_want_137 : decode c_Mo_want 137 = .ok (.getfield 42, 3) := by decide +kernel
theorem d_Mo_want_143 : decode c_Mo_want 143 = .ok (.getfield 96, 3) := by decide +kernel
theorem d_Mo_want_146 : decode c_Mo_want 146 = .ok (.iastore, 1) := by decide +kernel
theorem d_Mo_want_148 : decode c_Mo_want 148 = .ok (.getfield 33, 3) := by decide +kernel
theorem d_Mo_want_152 : decode c_Mo_want 152 = .ok (.iaload, 1) := by decide +kernel
theorem d_Mo_want_153 : decode c_Mo_want 153 = .ok (.ireturn, 1) := by decide +kernel
theorem s_Mo_isClient_0 : dsq c_Mo_isClient 0 [(.iload_n 0, 1, 0)] 1 = true := by decide +kernel
theorem s_Mo_isClient_4 : dsq c_Mo_isClient 4 [(.iload_n 0, 1, 0), (.bipush 16, 2, 16)] 7 = true := by decide +kernel
theorem s_Mo_isClient_10 : dsq c_Mo_isClient 10 [(.iconst 1, 1, 1), (.goto 4, 3, 0)] 15 = true := by decide +kernel
theorem s_Mo_isClient_14 : dsq c_Mo_isClient 14 [(.iconst 0, 1, 0)] 15 = true := by decide +kernel
theorem d_Mo_isClient_1 : decode c_Mo_isClient 1 = .ok (.ifCond .lt 13, 3) := by decide +kernel
theorem d_Mo_isClient_7 : decode c_Mo_isClient 7 = .ok (.if_icmp .ge 7, 3) := by decide +kernel
theorem d_Mo_isClient_15 : decode c_Mo_isClient 15 = .ok (.ireturn, 1) := by decide +kernel
theorem s_Mo_here_0 : dsq c_Mo_here 0 [(.aload_n 0, 1, 0)] 1 = true := by decide +kernel
theorem s_Mo_here_4 : dsq c_Mo_here 4 [(.lstore_n 1, 1, 0), (.iconst 0, 1, 0), (.istore_n 3, 1, 0)] 7 = true := by decide +kernel
theorem s_Mo_here_7 : dsq c_Mo_here 7 [(.iload_n 3, 1, 0), (.aload_n 0, 1, 0)] 9 = true := by decide +kernel
theorem s_Mo_here_15 : dsq c_Mo_here 15 [(.aload_n 0, 1, 0)] 16 = true := by decide +kernel
theorem s_Mo_here_19 : dsq c_Mo_here 19 [(.iload_n 3, 1, 0)] 20 = true := by decide +kernel
theorem s_Mo_here_21 : dsq c_Mo_here 21 [(.lload_n 1, 1, 0)] 22 = true := by decide +kernel
theorem s_Mo_here_26 : dsq c_Mo_here 26 [(.iload_n 3, 1, 0)] 27 = true := by decide +kernel
theorem s_Mo_here_28 : dsq c_Mo_here 28 [(.iinc 3 1, 3, 1), (.goto (-24), 3, 0)] 7 = true := by decide +kernel
theorem s_Mo_here_34 : dsq c_Mo_here 34 [(.aload_n 0, 1, 0)] 35 = true := by decide +kernel
theorem s_Mo_here_38 : dsq c_Mo_here 38 [(.aload_n 0, 1, 0)] 39 = true := by decide +kernel
theorem s_Mo_here_42 : dsq c_Mo_here 42 [(.lload_n 1, 1, 0)] 43 = true := by decide +kernel
theorem s_Mo_here_44 : dsq c_Mo_here 44 [(.aload_n 0, 1, 0)] 45 = true := by decide +kernel
theorem s_Mo_here_48 : dsq c_Mo_here 48 [(.aload_n 0, 1, 0)] 49 = true := by decide +kernel
theorem s_Mo_here_52 : dsq c_Mo_here 52 [(.iconst 0, 1, 0)] 53 = true := by decide +kernel
theorem s_Mo_here_54 : dsq c_Mo_here 54 [(.aload_n 0, 1, 0)] 55 = true := by decide +kernel
theorem s_Mo_here_58 : dsq c_Mo_here 58 [(.aload_n 0, 1, 0)] 59 = true := by decide +kernel
theorem s_Mo_here_62 : dsq c_Mo_here 62 [(.iconst 0, 1, 0)] 63 = true := by decide +kernel
theorem s_Mo_here_64 : dsq c_Mo_here 64 [(.aload_n 0, 1, 0)] 65 = true := by decide +kernel
theorem s_Mo_here_68 : dsq c_Mo_here 68 [(.aload_n 0, 1, 0)] 69 = true := by decide +kernel
theorem s_Mo_here_72 : dsq c_Mo_here 72 [(.iconst (-1), 1, (-1))] 73 = true := by decide +kernel
theorem s_Mo_here_74 : dsq c_Mo_here 74 [(.aload_n 0, 1, 0)] 75 = true := by decide +kernel
theorem s_Mo_here_78 : dsq c_Mo_here 78 [(.aload_n 0, 1, 0)] 79 = true := by decide +kernel
theorem s_Mo_here_82 : dsq c_Mo_here 82 [(.iconst 0, 1, 0)] 83 = true := by decide +kernel
theorem s_Mo_here_84 : dsq c_Mo_here 84 [(.aload_n 0, 1, 0), (.dup, 1, 0)] 86 = true := by decide +kernel
theorem s_Mo_here_89 : dsq c_Mo_here 89 [(.dup_x1, 1, 0), (.iconst 1, 1, 1), (.iadd, 1, 0)] 92 = true := by decide +kernel
theorem d_Mo_here_1 : decode c_Mo_here 1 = .ok (.invokevirtual 81, 3) := by decide +kernel
theorem d_Mo_here_9 : decode c_Mo_here 9 = .ok (.getfield 85, 3) := by decide +kernel
theorem d_Mo_here_12 : decode c_Mo_here 12 = .ok (.if_icmp .ge 22, 3) := by decide +kernel
theorem d_Mo_here_16 : decode c_Mo_here 16 = .ok (.getfield 13, 3) := by decide +kernel
theorem d_Mo_here_20 : decode c_Mo_here 20 = .ok (.laload, 1) := by decide +kernel
theorem d_Mo_here_22 : decode c_Mo_here 22 = .ok (.lcmp, 1) := by decide +kernel
theorem d_Mo_here_23 : decode c_Mo_here 23 = .ok (.ifCond .ne 5, 3) := by decide +kernel
theorem d_Mo_here_27 : decode c_Mo_here 27 = .ok (.ireturn, 1) := by decide +kernel
theorem d_Mo_here_35 : decode c_Mo_here 35 = .ok (.getfield 13, 3) := by decide +kernel
theorem d_Mo_here_39 : decode c_Mo_here 39 = .ok (.getfield 85, 3) := by decide +kernel
theorem d_Mo_here_43 : decode c_Mo_here 43 = .ok (.lastore, 1) := by decide +kernel
theorem d_Mo_here_45 : decode c_Mo_here 45 = .ok (.getfield 17, 3) := by decide +kernel
theorem d_Mo_here_49 : decode c_Mo_here 49 = .ok (.getfield 85, 3) := by decide +kernel
theorem d_Mo_here_53 : decode c_Mo_here 53 = .ok (.iastore, 1) := by decide +kernel
theorem d_Mo_here_55 : decode c_Mo_here 55 = .ok (.getfield 20, 3) := by decide +kernel
theorem d_Mo_here_59 : decode c_Mo_here 59 = .ok (.getfield 85, 3) := by decide +kernel
theorem d_Mo_here_63 : decode c_Mo_here 63 = .ok (.iastore, 1) := by decide +kernel
theorem d_Mo_here_65 : decode c_Mo_here 65 = .ok (.getfield 27, 3) := by decide +kernel
theorem d_Mo_here_69 : decode c_Mo_here 69 = .ok (.getfield 85, 3) := by decide +kernel
theorem d_Mo_here_73 : decode c_Mo_here 73 = .ok (.iastore, 1) := by decide +kernel
theorem d_Mo_here_75 : decode c_Mo_here 75 = .ok (.getfield 33, 3) := by decide +kernel
theorem d_Mo_here_79 : decode c_Mo_here 79 = .ok (.getfield 85, 3) := by decide +kernel
theorem d_Mo_here_83 : decode c_Mo_here 83 = .ok (.iastore, 1) := by decide +kernel
theorem d_Mo_here_86 : decode c_Mo_here 86 = .ok (.getfield 85, 3) := by decide +kernel
theorem d_Mo_here_92 : decode c_Mo_here 92 = .ok (.putfield 85, 3) := by decide +kernel
theorem d_Mo_here_95 : decode c_Mo_here 95 = .ok (.ireturn, 1) := by decide +kernel
theorem s_Mo_code_0 : dsq c_Mo_code 0 [(.aload_n 0, 1, 0)] 1 = true := by decide +kernel
theorem s_Mo_code_4 : dsq c_Mo_code 4 [(.i2l, 1, 0), (.lstore_n 1, 1, 0), (.iconst 0, 1, 0), (.istore_n 3, 1, 0)] 8 = true := by decide +kernel
theorem s_Mo_code_8 : dsq c_Mo_code 8 [(.iload_n 3, 1, 0), (.bipush 6, 2, 6)] 11 = true := by decide +kernel
theorem s_Mo_code_17 : dsq c_Mo_code 17 [(.lload_n 1, 1, 0), (.lmul, 1, 0), (.iload_n 3, 1, 0), (.aload_n 0, 1, 0)] 21 = true := by decide +kernel
theorem s_Mo_code_27 : dsq c_Mo_code 27 [(.aload_n 0, 1, 0)] 28 = true := by decide +kernel
theorem s_Mo_code_31 : dsq c_Mo_code 31 [(.iload_n 3, 1, 0)] 32 = true := by decide +kernel
theorem s_Mo_code_33 : dsq c_Mo_code 33 [(.bipush 96, 2, 96), (.isub, 1, 0), (.goto 4, 3, 0), (.i2l, 1, 0), (.ladd, 1, 0), (.lstore_n 1, 1, 0), (.iinc 3 1, 3, 1), (.goto (-38), 3, 0)] 8 = true := by decide +kernel
theorem s_Mo_code_39 : dsq c_Mo_code 39 [(.iconst 0, 1, 0), (.i2l, 1, 0), (.ladd, 1, 0), (.lstore_n 1, 1, 0), (.iinc 3 1, 3, 1), (.goto (-38), 3, 0)] 8 = true := by decide +kernel
theorem s_Mo_code_40 : dsq c_Mo_code 40 [(.i2l, 1, 0), (.ladd, 1, 0), (.lstore_n 1, 1, 0), (.iinc 3 1, 3, 1), (.goto (-38), 3, 0)] 8 = true := by decide +kernel
theorem s_Mo_code_49 : dsq c_Mo_code 49 [(.lload_n 1, 1, 0)] 50 = true := by decide +kernel
theorem d_Mo_code_1 : decode c_Mo_code 1 = .ok (.getfield 75, 3) := by decide +kernel
theorem d_Mo_code_11 : decode c_Mo_code 11 = .ok (.if_icmp .ge 38, 3) := by decide +kernel
theorem d_Mo_code_14 : decode c_Mo_code 14 = .ok (.ldc2_w 79, 3) := by decide +kernel
theorem d_Mo_code_21 : decode c_Mo_code 21 = .ok (.getfield 75, 3) := by decide +kernel
theorem d_Mo_code_24 : decode c_Mo_code 24 = .ok (.if_icmp .ge 15, 3) := by decide +kernel
theorem d_Mo_code_28 : decode c_Mo_code 28 = .ok (.getfield 7, 3) := by decide +kernel
theorem d_Mo_code_32 : decode c_Mo_code 32 = .ok (.iaload, 1) := by decide +kernel
theorem d_Mo_code_50 : decode c_Mo_code 50 = .ok (.lreturn, 1) := by decide +kernel
theorem s_Mo_change_0 : dsq c_Mo_change 0 [(.aload_n 0, 1, 0)] 1 = true := by decide +kernel
theorem s_Mo_change_4 : dsq c_Mo_change 4 [(.iload_n 1, 1, 0), (.dup2, 1, 0)] 6 = true := by decide +kernel
theorem s_Mo_change_7 : dsq c_Mo_change 7 [(.iconst 1, 1, 1), (.iadd, 1, 0)] 9 = true := by decide +kernel
theorem s_Mo_change_10 : dsq c_Mo_change 10 [(.iconst 0, 1, 0), (.istore_n 3, 1, 0)] 12 = true := by decide +kernel
theorem s_Mo_change_12 : dsq c_Mo_change 12 [(.iload_n 3, 1, 0), (.aload_n 0, 1, 0)] 14 = true := by decide +kernel
theorem s_Mo_change_17 : dsq c_Mo_change 17 [(.iload_n 1, 1, 0)] 18 = true := by decide +kernel
theorem s_Mo_change_22 : dsq c_Mo_change 22 [(.aload_n 0, 1, 0)] 23 = true := by decide +kernel
theorem s_Mo_change_26 : dsq c_Mo_change 26 [(.bipush 16, 2, 16), (.iload_n 1, 1, 0), (.imul, 1, 0), (.iload_n 3, 1, 0), (.iadd, 1, 0)] 32 = true := by decide +kernel
theorem s_Mo_change_33 : dsq c_Mo_change 33 [(.istore 4, 2, 0), (.aload_n 0, 1, 0)] 36 = true := by decide +kernel
theorem s_Mo_change_39 : dsq c_Mo_change 39 [(.iload 4, 2, 0)] 41 = true := by decide +kernel
theorem s_Mo_change_42 : dsq c_Mo_change 42 [(.bipush 8, 2, 8)] 44 = true := by decide +kernel
theorem s_Mo_change_47 : dsq c_Mo_change 47 [(.aload_n 0, 1, 0), (.iload 4, 2, 0)] 50 = true := by decide +kernel
theorem s_Mo_change_53 : dsq c_Mo_change 53 [(.aload_n 0, 1, 0)] 54 = true := by decide +kernel
theorem s_Mo_change_57 : dsq c_Mo_change 57 [(.bipush 8, 2, 8), (.iload 4, 2, 0), (.imul, 1, 0), (.aload_n 0, 1, 0)] 63 = true := by decide +kernel
theorem s_Mo_change_66 : dsq c_Mo_change 66 [(.iload 4, 2, 0)] 68 = true := by decide +kernel
theorem s_Mo_change_69 : dsq c_Mo_change 69 [(.iadd, 1, 0), (.iload_n 1, 1, 0)] 71 = true := by decide +kernel
theorem s_Mo_change_72 : dsq c_Mo_change 72 [(.aload_n 0, 1, 0)] 73 = true := by decide +kernel
theorem s_Mo_change_76 : dsq c_Mo_change 76 [(.bipush 8, 2, 8), (.iload 4, 2, 0), (.imul, 1, 0), (.aload_n 0, 1, 0)] 82 = true := by decide +kernel
theorem s_Mo_change_85 : dsq c_Mo_change 85 [(.iload 4, 2, 0), (.dup2, 1, 0)] 88 = true := by decide +kernel
theorem s_Mo_change_89 : dsq c_Mo_change 89 [(.dup_x2, 1, 0), (.iconst 1, 1, 1), (.iadd, 1, 0)] 92 = true := by decide +kernel
theorem s_Mo_change_93 : dsq c_Mo_change 93 [(.iadd, 1, 0), (.iload_n 2, 1, 0)] 95 = true := by decide +kernel
theorem s_Mo_change_96 : dsq c_Mo_change 96 [(.iinc 3 1, 3, 1), (.goto (-87), 3, 0)] 12 = true := by decide +kernel
theorem d_Mo_change_1 : decode c_Mo_change 1 = .ok (.getfield 17, 3) := by decide +kernel
theorem d_Mo_change_6 : decode c_Mo_change 6 = .ok (.iaload, 1) := by decide +kernel
theorem d_Mo_change_9 : decode c_Mo_change 9 = .ok (.iastore, 1) := by decide +kernel
theorem d_Mo_change_14 : decode c_Mo_change 14 = .ok (.getfield 20, 3) := by decide +kernel
theorem d_Mo_change_18 : decode c_Mo_change 18 = .ok (.iaload, 1) := by decide +kernel
theorem d_Mo_change_19 : decode c_Mo_change 19 = .ok (.if_icmp .ge 83, 3) := by decide +kernel
theorem d_Mo_change_23 : decode c_Mo_change 23 = .ok (.getfield 24, 3) := by decide +kernel
theorem d_Mo_change_32 : decode c_Mo_change 32 = .ok (.iaload, 1) := by decide +kernel
theorem d_Mo_change_36 : decode c_Mo_change 36 = .ok (.getfield 69, 3) := by decide +kernel
theorem d_Mo_change_41 : decode c_Mo_change 41 = .ok (.iaload, 1) := by decide +kernel
theorem d_Mo_change_44 : decode c_Mo_change 44 = .ok (.if_icmp .ne 9, 3) := by decide +kernel
theorem d_Mo_change_50 : decode c_Mo_change 50 = .ok (.invokevirtual 88, 3) := by decide +kernel
theorem d_Mo_change_54 : decode c_Mo_change 54 = .ok (.getfield 63, 3) := by decide +kernel
theorem d_Mo_change_63 : decode c_Mo_change 63 = .ok (.getfield 69, 3) := by decide +kernel
theorem d_Mo_change_68 : decode c_Mo_change 68 = .ok (.iaload, 1) := by decide +kernel
theorem d_Mo_change_71 : decode c_Mo_change 71 = .ok (.iastore, 1) := by decide +kernel
theorem d_Mo_change_73 : decode c_Mo_change 73 = .ok (.getfield 66, 3) := by decide +kernel
theorem d_Mo_change_82 : decode c_Mo_change 82 = .ok (.getfield 69, 3) := by decide +kernel
theorem d_Mo_change_88 : decode c_Mo_change 88 = .ok (.iaload, 1) := by decide +kernel
theorem d_Mo_change_92 : decode c_Mo_change 92 = .ok (.iastore, 1) := by decide +kernel
theorem d_Mo_change_95 : decode c_Mo_change 95 = .ok (.iastore, 1) := by decide +kernel
theorem d_Mo_change_102 : decode c_Mo_change 102 = .ok (.return_, 1) := by decide +kernel
theorem s_Mo_drop_0 : dsq c_Mo_drop 0 [(.aload_n 0, 1, 0)] 1 = true := by decide +kernel
theorem s_Mo_drop_4 : dsq c_Mo_drop 4 [(.iload_n 1, 1, 0), (.dup2, 1, 0)] 6 = true := by decide +kernel
theorem s_Mo_drop_7 : dsq c_Mo_drop 7 [(.iconst 1, 1, 1), (.isub, 1, 0)] 9 = true := by decide +kernel
theorem s_Mo_drop_10 : dsq c_Mo_drop 10 [(.iconst 0, 1, 0), (.istore_n 2, 1, 0)] 12 = true := by decide +kernel
theorem s_Mo_drop_12 : dsq c_Mo_drop 12 [(.iload_n 2, 1, 0), (.aload_n 0, 1, 0)] 14 = true := by decide +kernel
theorem s_Mo_drop_17 : dsq c_Mo_drop 17 [(.iload_n 1, 1, 0)] 18 = true := by decide +kernel
theorem s_Mo_drop_22 : dsq c_Mo_drop 22 [(.aload_n 0, 1, 0)] 23 = true := by decide +kernel
theorem s_Mo_drop_26 : dsq c_Mo_drop 26 [(.bipush 8, 2, 8), (.iload_n 1, 1, 0), (.imul, 1, 0), (.iload_n 2, 1, 0), (.iadd, 1, 0), (.aload_n 0, 1, 0)] 33 = true := by decide +kernel
theorem s_Mo_drop_36 : dsq c_Mo_drop 36 [(.bipush 8, 2, 8), (.iload_n 1, 1, 0), (.imul, 1, 0), (.iload_n 2, 1, 0), (.iadd, 1, 0), (.iconst 1, 1, 1), (.iadd, 1, 0)] 44 = true := by decide +kernel
theorem s_Mo_drop_46 : dsq c_Mo_drop 46 [(.aload_n 0, 1, 0)] 47 = true := by decide +kernel
theorem s_Mo_drop_50 : dsq c_Mo_drop 50 [(.bipush 8, 2, 8), (.iload_n 1, 1, 0), (.imul, 1, 0), (.iload_n 2, 1, 0), (.iadd, 1, 0), (.aload_n 0, 1, 0)] 57 = true := by decide +kernel
theorem s_Mo_drop_60 : dsq c_Mo_drop 60 [(.bipush 8, 2, 8), (.iload_n 1, 1, 0), (.imul, 1, 0), (.iload_n 2, 1, 0), (.iadd, 1, 0), (.iconst 1, 1, 1), (.iadd, 1, 0)] 68 = true := by decide +kernel
theorem s_Mo_drop_70 : dsq c_Mo_drop 70 [(.iinc 2 1, 3, 1), (.goto (-61), 3, 0)] 12 = true := by decide +kernel
theorem d_Mo_drop_1 : decode c_Mo_drop 1 = .ok (.getfield 69, 3) := by decide +kernel
theorem d_Mo_drop_6 : decode c_Mo_drop 6 = .ok (.iaload, 1) := by decide +kernel
theorem d_Mo_drop_9 : decode c_Mo_drop 9 = .ok (.iastore, 1) := by decide +kernel
theorem d_Mo_drop_14 : decode c_Mo_drop 14 = .ok (.getfield 69, 3) := by decide +kernel
theorem d_Mo_drop_18 : decode c_Mo_drop 18 = .ok (.iaload, 1) := by decide +kernel
theorem d_Mo_drop_19 : decode c_Mo_drop 19 = .ok (.if_icmp .ge 57, 3) := by decide +kernel
theorem d_Mo_drop_23 : decode c_Mo_drop 23 = .ok (.getfield 63, 3) := by decide +kernel
theorem d_Mo_drop_33 : decode c_Mo_drop 33 = .ok (.getfield 63, 3) := by decide +kernel
theorem d_Mo_drop_44 : decode c_Mo_drop 44 = .ok (.iaload, 1) := by decide +kernel
theorem d_Mo_drop_45 : decode c_Mo_drop 45 = .ok (.iastore, 1) := by decide +kernel
theorem d_Mo_drop_47 : decode c_Mo_drop 47 = .ok (.getfield 66, 3) := by decide +kernel
theorem d_Mo_drop_57 : decode c_Mo_drop 57 = .ok (.getfield 66, 3) := by decide +kernel
theorem d_Mo_drop_68 : decode c_Mo_drop 68 = .ok (.iaload, 1) := by decide +kernel
theorem d_Mo_drop_69 : decode c_Mo_drop 69 = .ok (.iastore, 1) := by decide +kernel
theorem d_Mo_drop_76 : decode c_Mo_drop 76 = .ok (.return_, 1) := by decide +kernel
theorem s_Mo_place_0 : dsq c_Mo_place 0 [(.iconst 0, 1, 0), (.istore_n 3, 1, 0)] 2 = true := by decide +kernel
theorem s_Mo_place_2 : dsq c_Mo_place 2 [(.iload_n 3, 1, 0), (.aload_n 0, 1, 0)] 4 = true := by decide +kernel
theorem s_Mo_place_7 : dsq c_Mo_place 7 [(.iload_n 1, 1, 0)] 8 = true := by decide +kernel
theorem s_Mo_place_12 : dsq c_Mo_place 12 [(.aload_n 0, 1, 0)] 13 = true := by decide +kernel
theorem s_Mo_place_16 : dsq c_Mo_place 16 [(.iconst 5, 1, 5), (.iload_n 1, 1, 0), (.imul, 1, 0), (.iload_n 3, 1, 0), (.iadd, 1, 0)] 21 = true := by decide +kernel
theorem s_Mo_place_22 : dsq c_Mo_place 22 [(.iload_n 2, 1, 0)] 23 = true := by decide +kernel
theorem s_Mo_place_26 : dsq c_Mo_place 26 [(.iload_n 3, 1, 0)] 27 = true := by decide +kernel
theorem s_Mo_place_28 : dsq c_Mo_place 28 [(.iinc 3 1, 3, 1), (.goto (-29), 3, 0)] 2 = true := by decide +kernel
theorem s_Mo_place_34 : dsq c_Mo_place 34 [(.iconst (-1), 1, (-1))] 35 = true := by decide +kernel
theorem d_Mo_place_4 : decode c_Mo_place 4 = .ok (.getfield 33, 3) := by decide +kernel
theorem d_Mo_place_8 : decode c_Mo_place 8 = .ok (.iaload, 1) := by decide +kernel
theorem d_Mo_place_9 : decode c_Mo_place 9 = .ok (.if_icmp .ge 25, 3) := by decide +kernel
theorem d_Mo_place_13 : decode c_Mo_place 13 = .ok (.getfield 36, 3) := by decide +kernel
theorem d_Mo_place_21 : decode c_Mo_place 21 = .ok (.iaload, 1) := by decide +kernel
theorem d_Mo_place_23 : decode c_Mo_place 23 = .ok (.if_icmp .ne 5, 3) := by decide +kernel
theorem d_Mo_place_27 : decode c_Mo_place 27 = .ok (.ireturn, 1) := by decide +kernel
theorem d_Mo_place_35 : decode c_Mo_place 35 = .ok (.ireturn, 1) := by decide +kernel
theorem s_Mo_free_0 : dsq c_Mo_free 0 [(.aload_n 0, 1, 0)] 1 = true := by decide +kernel
theorem s_Mo_free_7 : dsq c_Mo_free 7 [(.iload_n 1, 1, 0)] 8 = true := by decide +kernel
theorem s_Mo_free_14 : dsq c_Mo_free 14 [(.iconst (-1), 1, (-1))] 15 = true := by decide +kernel
theorem s_Mo_free_16 : dsq c_Mo_free 16 [(.aload_n 0, 1, 0)] 17 = true := by decide +kernel
theorem s_Mo_free_20 : dsq c_Mo_free 20 [(.istore_n 2, 1, 0), (.aload_n 0, 1, 0)] 22 = true := by decide +kernel
theorem s_Mo_free_25 : dsq c_Mo_free 25 [(.iload_n 2, 1, 0)] 26 = true := by decide +kernel
theorem s_Mo_free_27 : dsq c_Mo_free 27 [(.iload_n 1, 1, 0)] 28 = true := by decide +kernel
theorem s_Mo_free_31 : dsq c_Mo_free 31 [(.iconst (-1), 1, (-1))] 32 = true := by decide +kernel
theorem s_Mo_free_33 : dsq c_Mo_free 33 [(.aload_n 0, 1, 0), (.iload_n 2, 1, 0)] 35 = true := by decide +kernel
theorem s_Mo_free_38 : dsq c_Mo_free 38 [(.aload_n 0, 1, 0)] 39 = true := by decide +kernel
theorem s_Mo_free_42 : dsq c_Mo_free 42 [(.iload_n 2, 1, 0)] 43 = true := by decide +kernel
theorem s_Mo_free_47 : dsq c_Mo_free 47 [(.bipush (-2), 2, (-2)), (.goto 9, 3, 0)] 58 = true := by decide +kernel
theorem s_Mo_free_52 : dsq c_Mo_free 52 [(.aload_n 0, 1, 0)] 53 = true := by decide +kernel
theorem s_Mo_free_56 : dsq c_Mo_free 56 [(.iload_n 2, 1, 0)] 57 = true := by decide +kernel
theorem d_Mo_free_1 : decode c_Mo_free 1 = .ok (.getfield 75, 3) := by decide +kernel
theorem d_Mo_free_4 : decode c_Mo_free 4 = .ok (.ifCond .eq 10, 3) := by decide +kernel
theorem d_Mo_free_8 : decode c_Mo_free 8 = .ok (.invokestatic 105, 3) := by decide +kernel
theorem d_Mo_free_11 : decode c_Mo_free 11 = .ok (.ifCond .ne 5, 3) := by decide +kernel
theorem d_Mo_free_15 : decode c_Mo_free 15 = .ok (.ireturn, 1) := by decide +kernel
theorem d_Mo_free_17 : decode c_Mo_free 17 = .ok (.invokevirtual 109, 3) := by decide +kernel
theorem d_Mo_free_22 : decode c_Mo_free 22 = .ok (.getfield 27, 3) := by decide +kernel
theorem d_Mo_free_26 : decode c_Mo_free 26 = .ok (.iaload, 1) := by decide +kernel
theorem d_Mo_free_28 : decode c_Mo_free 28 = .ok (.if_icmp .eq 5, 3) := by decide +kernel
theorem d_Mo_free_32 : decode c_Mo_free 32 = .ok (.ireturn, 1) := by decide +kernel
theorem d_Mo_free_35 : decode c_Mo_free 35 = .ok (.invokevirtual 117, 3) := by decide +kernel
theorem d_Mo_free_39 : decode c_Mo_free 39 = .ok (.getfield 27, 3) := by decide +kernel
theorem d_Mo_free_43 : decode c_Mo_free 43 = .ok (.iaload, 1) := by decide +kernel
theorem d_Mo_free_44 : decode c_Mo_free 44 = .ok (.ifCond .ge 8, 3) := by decide +kernel
theorem d_Mo_free_53 : decode c_Mo_free 53 = .ok (.getfield 27, 3) := by decide +kernel
theorem d_Mo_free_57 : decode c_Mo_free 57 = .ok (.iaload, 1) := by decide +kernel
theorem d_Mo_free_58 : decode c_Mo_free 58 = .ok (.ireturn, 1) := by decide +kernel
theorem s_Mo_end_0 : dsq c_Mo_end 0 [(.aload_n 0, 1, 0)] 1 = true := by decide +kernel
theorem s_Mo_end_4 : dsq c_Mo_end 4 [(.iload_n 1, 1, 0)] 5 = true := by decide +kernel
theorem s_Mo_end_9 : dsq c_Mo_end 9 [(.aload_n 0, 1, 0)] 10 = true := by decide +kernel
theorem s_Mo_end_13 : dsq c_Mo_end 13 [(.iload_n 1, 1, 0), (.iconst (-1), 1, (-1))] 15 = true := by decide +kernel
theorem s_Mo_end_16 : dsq c_Mo_end 16 [(.aload_n 0, 1, 0), (.iload_n 1, 1, 0), (.iconst 4, 1, 4)] 19 = true := by decide +kernel
theorem s_Mo_end_23 : dsq c_Mo_end 23 [(.aload_n 0, 1, 0)] 24 = true := by decide +kernel
theorem s_Mo_end_27 : dsq c_Mo_end 27 [(.iload_n 1, 1, 0), (.aload_n 0, 1, 0)] 29 = true := by decide +kernel
theorem s_Mo_end_32 : dsq c_Mo_end 32 [(.iconst 5, 1, 5), (.iload_n 1, 1, 0), (.imul, 1, 0)] 35 = true := by decide +kernel
theorem s_Mo_end_37 : dsq c_Mo_end 37 [(.aload_n 0, 1, 0)] 38 = true := by decide +kernel
theorem s_Mo_end_41 : dsq c_Mo_end 41 [(.iload_n 1, 1, 0), (.aload_n 0, 1, 0)] 43 = true := by decide +kernel
theorem s_Mo_end_46 : dsq c_Mo_end 46 [(.aload_n 0, 1, 0)] 47 = true := by decide +kernel
theorem s_Mo_end_50 : dsq c_Mo_end 50 [(.iconst 5, 1, 5), (.iload_n 1, 1, 0), (.imul, 1, 0)] 53 = true := by decide +kernel
theorem s_Mo_end_54 : dsq c_Mo_end 54 [(.iadd, 1, 0)] 55 = true := by decide +kernel
theorem s_Mo_end_56 : dsq c_Mo_end 56 [(.aload_n 0, 1, 0)] 57 = true := by decide +kernel
theorem s_Mo_end_60 : dsq c_Mo_end 60 [(.aload_n 0, 1, 0), (.dup, 1, 0)] 62 = true := by decide +kernel
theorem s_Mo_end_65 : dsq c_Mo_end 65 [(.dup_x1, 1, 0), (.iconst 1, 1, 1), (.iadd, 1, 0)] 68 = true := by decide +kernel
theorem s_Mo_end_71 : dsq c_Mo_end 71 [(.aload_n 0, 1, 0)] 72 = true := by decide +kernel
theorem s_Mo_end_75 : dsq c_Mo_end 75 [(.aload_n 0, 1, 0)] 76 = true := by decide +kernel
theorem s_Mo_end_79 : dsq c_Mo_end 79 [(.iconst 5, 1, 5), (.iload_n 1, 1, 0), (.imul, 1, 0)] 82 = true := by decide +kernel
theorem s_Mo_end_83 : dsq c_Mo_end 83 [(.isub, 1, 0)] 84 = true := by decide +kernel
theorem s_Mo_end_85 : dsq c_Mo_end 85 [(.aload_n 0, 1, 0), (.iload_n 1, 1, 0), (.iconst 0, 1, 0)] 88 = true := by decide +kernel
theorem s_Mo_end_91 : dsq c_Mo_end 91 [(.aload_n 0, 1, 0), (.iload_n 1, 1, 0), (.iconst 2, 1, 2)] 94 = true := by decide +kernel
theorem d_Mo_end_1 : decode c_Mo_end 1 = .ok (.getfield 33, 3) := by decide +kernel
theorem d_Mo_end_5 : decode c_Mo_end 5 = .ok (.iaload, 1) := by decide +kernel
theorem d_Mo_end_6 : decode c_Mo_end 6 = .ok (.ifCond .ne 17, 3) := by decide +kernel
theorem d_Mo_end_10 : decode c_Mo_end 10 = .ok (.getfield 27, 3) := by decide +kernel
theorem d_Mo_end_15 : decode c_Mo_end 15 = .ok (.iastore, 1) := by decide +kernel
theorem d_Mo_end_19 : decode c_Mo_end 19 = .ok (.invokevirtual 92, 3) := by decide +kernel
theorem d_Mo_end_22 : decode c_Mo_end 22 = .ok (.return_, 1) := by decide +kernel
theorem d_Mo_end_24 : decode c_Mo_end 24 = .ok (.getfield 27, 3) := by decide +kernel
theorem d_Mo_end_29 : decode c_Mo_end 29 = .ok (.getfield 36, 3) := by decide +kernel
theorem d_Mo_end_35 : decode c_Mo_end 35 = .ok (.iaload, 1) := by decide +kernel
theorem d_Mo_end_36 : decode c_Mo_end 36 = .ok (.iastore, 1) := by decide +kernel
theorem d_Mo_end_38 : decode c_Mo_end 38 = .ok (.getfield 30, 3) := by decide +kernel
theorem d_Mo_end_43 : decode c_Mo_end 43 = .ok (.getfield 96, 3) := by decide +kernel
theorem d_Mo_end_47 : decode c_Mo_end 47 = .ok (.getfield 39, 3) := by decide +kernel
theorem d_Mo_end_53 : decode c_Mo_end 53 = .ok (.iaload, 1) := by decide +kernel
theorem d_Mo_end_55 : decode c_Mo_end 55 = .ok (.iastore, 1) := by decide +kernel
theorem d_Mo_end_57 : decode c_Mo_end 57 = .ok (.getfield 45, 3) := by decide +kernel
theorem d_Mo_end_62 : decode c_Mo_end 62 = .ok (.getfield 99, 3) := by decide +kernel
theorem d_Mo_end_68 : decode c_Mo_end 68 = .ok (.putfield 99, 3) := by decide +kernel
theorem d_Mo_end_72 : decode c_Mo_end 72 = .ok (.getfield 96, 3) := by decide +kernel
theorem d_Mo_end_76 : decode c_Mo_end 76 = .ok (.getfield 42, 3) := by decide +kernel
theorem d_Mo_end_82 : decode c_Mo_end 82 = .ok (.iaload, 1) := by decide +kernel
theorem d_Mo_end_84 : decode c_Mo_end 84 = .ok (.iastore, 1) := by decide +kernel
theorem d_Mo_end_88 : decode c_Mo_end 88 = .ok (.invokevirtual 102, 3) := by decide +kernel
theorem d_Mo_end_94 : decode c_Mo_end 94 = .ok (.invokevirtual 92, 3) := by decide +kernel
theorem d_Mo_end_97 : decode c_Mo_end 97 = .ok (.return_, 1) := by decide +kernel
theorem s_Mo_out_0 : dsq c_Mo_out 0 [(.aload_n 0, 1, 0)] 1 = true := by decide +kernel
theorem s_Mo_out_4 : dsq c_Mo_out 4 [(.iload_n 1, 1, 0), (.dup2, 1, 0)] 6 = true := by decide +kernel
theorem s_Mo_out_7 : dsq c_Mo_out 7 [(.iconst 1, 1, 1), (.isub, 1, 0)] 9 = true := by decide +kernel
theorem s_Mo_out_10 : dsq c_Mo_out 10 [(.iconst 5, 1, 5), (.iload_n 1, 1, 0), (.imul, 1, 0), (.iload_n 2, 1, 0), (.iadd, 1, 0), (.istore_n 3, 1, 0)] 16 = true := by decide +kernel
theorem s_Mo_out_16 : dsq c_Mo_out 16 [(.iload_n 3, 1, 0), (.iconst 5, 1, 5), (.iload_n 1, 1, 0), (.imul, 1, 0), (.aload_n 0, 1, 0)] 21 = true := by decide +kernel
theorem s_Mo_out_24 : dsq c_Mo_out 24 [(.iload_n 1, 1, 0)] 25 = true := by decide +kernel
theorem s_Mo_out_26 : dsq c_Mo_out 26 [(.iadd, 1, 0)] 27 = true := by decide +kernel
theorem s_Mo_out_30 : dsq c_Mo_out 30 [(.aload_n 0, 1, 0)] 31 = true := by decide +kernel
theorem s_Mo_out_34 : dsq c_Mo_out 34 [(.iload_n 3, 1, 0), (.aload_n 0, 1, 0)] 36 = true := by decide +kernel
theorem s_Mo_out_39 : dsq c_Mo_out 39 [(.iload_n 3, 1, 0), (.iconst 1, 1, 1), (.iadd, 1, 0)] 42 = true := by decide +kernel
theorem s_Mo_out_44 : dsq c_Mo_out 44 [(.aload_n 0, 1, 0)] 45 = true := by decide +kernel
theorem s_Mo_out_48 : dsq c_Mo_out 48 [(.iload_n 3, 1, 0), (.aload_n 0, 1, 0)] 50 = true := by decide +kernel
theorem s_Mo_out_53 : dsq c_Mo_out 53 [(.iload_n 3, 1, 0), (.iconst 1, 1, 1), (.iadd, 1, 0)] 56 = true := by decide +kernel
theorem s_Mo_out_58 : dsq c_Mo_out 58 [(.aload_n 0, 1, 0)] 59 = true := by decide +kernel
theorem s_Mo_out_62 : dsq c_Mo_out 62 [(.iload_n 3, 1, 0), (.aload_n 0, 1, 0)] 64 = true := by decide +kernel
theorem s_Mo_out_67 : dsq c_Mo_out 67 [(.iload_n 3, 1, 0), (.iconst 1, 1, 1), (.iadd, 1, 0)] 70 = true := by decide +kernel
theorem s_Mo_out_72 : dsq c_Mo_out 72 [(.iinc 3 1, 3, 1), (.goto (-59), 3, 0)] 16 = true := by decide +kernel
theorem d_Mo_out_1 : decode c_Mo_out 1 = .ok (.getfield 33, 3) := by decide +kernel
theorem d_Mo_out_6 : decode c_Mo_out 6 = .ok (.iaload, 1) := by decide +kernel
theorem d_Mo_out_9 : decode c_Mo_out 9 = .ok (.iastore, 1) := by decide +kernel
theorem d_Mo_out_21 : decode c_Mo_out 21 = .ok (.getfield 33, 3) := by decide +kernel
theorem d_Mo_out_25 : decode c_Mo_out 25 = .ok (.iaload, 1) := by decide +kernel
theorem d_Mo_out_27 : decode c_Mo_out 27 = .ok (.if_icmp .ge 51, 3) := by decide +kernel
theorem d_Mo_out_31 : decode c_Mo_out 31 = .ok (.getfield 36, 3) := by decide +kernel
theorem d_Mo_out_36 : decode c_Mo_out 36 = .ok (.getfield 36, 3) := by decide +kernel
theorem d_Mo_out_42 : decode c_Mo_out 42 = .ok (.iaload, 1) := by decide +kernel
theorem d_Mo_out_43 : decode c_Mo_out 43 = .ok (.iastore, 1) := by decide +kernel
theorem d_Mo_out_45 : decode c_Mo_out 45 = .ok (.getfield 39, 3) := by decide +kernel
theorem d_Mo_out_50 : decode c_Mo_out 50 = .ok (.getfield 39, 3) := by decide +kernel
theorem d_Mo_out_56 : decode c_Mo_out 56 = .ok (.iaload, 1) := by decide +kernel
theorem d_Mo_out_57 : decode c_Mo_out 57 = .ok (.iastore, 1) := by decide +kernel
theorem d_Mo_out_59 : decode c_Mo_out 59 = .ok (.getfield 42, 3) := by decide +kernel
theorem d_Mo_out_64 : decode c_Mo_out 64 = .ok (.getfield 42, 3) := by decide +kernel
theorem d_Mo_out_70 : decode c_Mo_out 70 = .ok (.iaload, 1) := by decide +kernel
theorem d_Mo_out_71 : decode c_Mo_out 71 = .ok (.iastore, 1) := by decide +kernel
theorem d_Mo_out_78 : decode c_Mo_out 78 = .ok (.return_, 1) := by decide +kernel
theorem s_Mo_renew_0 : dsq c_Mo_renew 0 [(.aload_n 0, 1, 0)] 1 = true := by decide +kernel
theorem s_Mo_renew_7 : dsq c_Mo_renew 7 [(.iload_n 1, 1, 0)] 8 = true := by decide +kernel
theorem s_Mo_renew_14 : dsq c_Mo_renew 14 [(.iload_n 2, 1, 0), (.iconst 1, 1, 1)] 16 = true := by decide +kernel
theorem s_Mo_renew_19 : dsq c_Mo_renew 19 [(.iload_n 2, 1, 0), (.bipush 100, 2, 100)] 22 = true := by decide +kernel
theorem s_Mo_renew_25 : dsq c_Mo_renew 25 [(.iconst (-1), 1, (-1))] 26 = true := by decide +kernel
theorem s_Mo_renew_27 : dsq c_Mo_renew 27 [(.aload_n 0, 1, 0)] 28 = true := by decide +kernel
theorem s_Mo_renew_31 : dsq c_Mo_renew 31 [(.istore_n 3, 1, 0), (.aload_n 0, 1, 0)] 33 = true := by decide +kernel
theorem s_Mo_renew_36 : dsq c_Mo_renew 36 [(.iload_n 3, 1, 0)] 37 = true := by decide +kernel
theorem s_Mo_renew_38 : dsq c_Mo_renew 38 [(.iload_n 1, 1, 0)] 39 = true := by decide +kernel
theorem s_Mo_renew_42 : dsq c_Mo_renew 42 [(.iconst (-1), 1, (-1))] 43 = true := by decide +kernel
theorem s_Mo_renew_44 : dsq c_Mo_renew 44 [(.aload_n 0, 1, 0)] 45 = true := by decide +kernel
theorem s_Mo_renew_48 : dsq c_Mo_renew 48 [(.iload_n 3, 1, 0), (.aload_n 0, 1, 0)] 50 = true := by decide +kernel
theorem s_Mo_renew_53 : dsq c_Mo_renew 53 [(.iload_n 2, 1, 0), (.iadd, 1, 0)] 55 = true := by decide +kernel
theorem s_Mo_renew_56 : dsq c_Mo_renew 56 [(.aload_n 0, 1, 0), (.iload_n 3, 1, 0), (.iconst 3, 1, 3)] 59 = true := by decide +kernel
theorem s_Mo_renew_62 : dsq c_Mo_renew 62 [(.aload_n 0, 1, 0)] 63 = true := by decide +kernel
theorem s_Mo_renew_66 : dsq c_Mo_renew 66 [(.iload_n 3, 1, 0)] 67 = true := by decide +kernel
theorem d_Mo_renew_1 : decode c_Mo_renew 1 = .ok (.getfield 75, 3) := by decide +kernel
theorem d_Mo_renew_4 : decode c_Mo_renew 4 = .ok (.ifCond .eq 21, 3) := by decide +kernel
theorem d_Mo_renew_8 : decode c_Mo_renew 8 = .ok (.invokestatic 105, 3) := by decide +kernel
theorem d_Mo_renew_11 : decode c_Mo_renew 11 = .ok (.ifCond .eq 14, 3) := by decide +kernel
theorem d_Mo_renew_16 : decode c_Mo_renew 16 = .ok (.if_icmp .lt 9, 3) := by decide +kernel
theorem d_Mo_renew_22 : decode c_Mo_renew 22 = .ok (.if_icmp .le 5, 3) := by decide +kernel
theorem d_Mo_renew_26 : decode c_Mo_renew 26 = .ok (.ireturn, 1) := by decide +kernel
theorem d_Mo_renew_28 : decode c_Mo_renew 28 = .ok (.invokevirtual 109, 3) := by decide +kernel
theorem d_Mo_renew_33 : decode c_Mo_renew 33 = .ok (.getfield 27, 3) := by decide +kernel
theorem d_Mo_renew_37 : decode c_Mo_renew 37 = .ok (.iaload, 1) := by decide +kernel
theorem d_Mo_renew_39 : decode c_Mo_renew 39 = .ok (.if_icmp .eq 5, 3) := by decide +kernel
theorem d_Mo_renew_43 : decode c_Mo_renew 43 = .ok (.ireturn, 1) := by decide +kernel
theorem d_Mo_renew_45 : decode c_Mo_renew 45 = .ok (.getfield 30, 3) := by decide +kernel
theorem d_Mo_renew_50 : decode c_Mo_renew 50 = .ok (.getfield 96, 3) := by decide +kernel
theorem d_Mo_renew_55 : decode c_Mo_renew 55 = .ok (.iastore, 1) := by decide +kernel
theorem d_Mo_renew_59 : decode c_Mo_renew 59 = .ok (.invokevirtual 92, 3) := by decide +kernel
theorem d_Mo_renew_63 : decode c_Mo_renew 63 = .ok (.getfield 30, 3) := by decide +kernel
theorem d_Mo_renew_67 : decode c_Mo_renew 67 = .ok (.iaload, 1) := by decide +kernel
theorem d_Mo_renew_68 : decode c_Mo_renew 68 = .ok (.ireturn, 1) := by decide +kernel
theorem s_Mo_leave_0 : dsq c_Mo_leave 0 [(.aload_n 0, 1, 0)] 1 = true := by decide +kernel
theorem s_Mo_leave_7 : dsq c_Mo_leave 7 [(.iload_n 1, 1, 0)] 8 = true := by decide +kernel
theorem s_Mo_leave_14 : dsq c_Mo_leave 14 [(.iconst (-1), 1, (-1))] 15 = true := by decide +kernel
theorem s_Mo_leave_16 : dsq c_Mo_leave 16 [(.aload_n 0, 1, 0)] 17 = true := by decide +kernel
theorem s_Mo_leave_20 : dsq c_Mo_leave 20 [(.istore_n 2, 1, 0), (.aload_n 0, 1, 0), (.iload_n 2, 1, 0), (.iload_n 1, 1, 0)] 24 = true := by decide +kernel
theorem s_Mo_leave_27 : dsq c_Mo_leave 27 [(.istore_n 3, 1, 0), (.iload_n 3, 1, 0)] 29 = true := by decide +kernel
theorem s_Mo_leave_32 : dsq c_Mo_leave 32 [(.bipush (-2), 2, (-2))] 34 = true := by decide +kernel
theorem s_Mo_leave_35 : dsq c_Mo_leave 35 [(.aload_n 0, 1, 0), (.iload_n 2, 1, 0), (.iload_n 3, 1, 0)] 38 = true := by decide +kernel
theorem s_Mo_leave_41 : dsq c_Mo_leave 41 [(.aload_n 0, 1, 0)] 42 = true := by decide +kernel
theorem s_Mo_leave_45 : dsq c_Mo_leave 45 [(.iload_n 2, 1, 0)] 46 = true := by decide +kernel
theorem d_Mo_leave_1 : decode c_Mo_leave 1 = .ok (.getfield 75, 3) := by decide +kernel
theorem d_Mo_leave_4 : decode c_Mo_leave 4 = .ok (.ifCond .eq 10, 3) := by decide +kernel
theorem d_Mo_leave_8 : decode c_Mo_leave 8 = .ok (.invokestatic 105, 3) := by decide +kernel
theorem d_Mo_leave_11 : decode c_Mo_leave 11 = .ok (.ifCond .ne 5, 3) := by decide +kernel
theorem d_Mo_leave_15 : decode c_Mo_leave 15 = .ok (.ireturn, 1) := by decide +kernel
theorem d_Mo_leave_17 : decode c_Mo_leave 17 = .ok (.invokevirtual 109, 3) := by decide +kernel
theorem d_Mo_leave_24 : decode c_Mo_leave 24 = .ok (.invokevirtual 113, 3) := by decide +kernel
theorem d_Mo_leave_29 : decode c_Mo_leave 29 = .ok (.ifCond .ge 6, 3) := by decide +kernel
theorem d_Mo_leave_34 : decode c_Mo_leave 34 = .ok (.ireturn, 1) := by decide +kernel
theorem d_Mo_leave_38 : decode c_Mo_leave 38 = .ok (.invokevirtual 102, 3) := by decide +kernel
theorem d_Mo_leave_42 : decode c_Mo_leave 42 = .ok (.getfield 33, 3) := by decide +kernel
theorem d_Mo_leave_46 : decode c_Mo_leave 46 = .ok (.iaload, 1) := by decide +kernel
theorem d_Mo_leave_47 : decode c_Mo_leave 47 = .ok (.ireturn, 1) := by decide +kernel
theorem s_Mo_tick_0 : dsq c_Mo_tick 0 [(.iload_n 1, 1, 0)] 1 = true := by decide +kernel
theorem s_Mo_tick_4 : dsq c_Mo_tick 4 [(.iload_n 1, 1, 0), (.bipush 60, 2, 60)] 7 = true := by decide +kernel
theorem s_Mo_tick_10 : dsq c_Mo_tick 10 [(.iconst (-1), 1, (-1))] 11 = true := by decide +kernel
theorem s_Mo_tick_12 : dsq c_Mo_tick 12 [(.iconst 0, 1, 0), (.istore_n 2, 1, 0), (.iconst 0, 1, 0), (.istore_n 3, 1, 0)] 16 = true := by decide +kernel
theorem s_Mo_tick_16 : dsq c_Mo_tick 16 [(.iload_n 3, 1, 0), (.iload_n 1, 1, 0)] 18 = true := by decide +kernel
theorem s_Mo_tick_21 : dsq c_Mo_tick 21 [(.aload_n 0, 1, 0), (.dup, 1, 0)] 23 = true := by decide +kernel
theorem s_Mo_tick_26 : dsq c_Mo_tick 26 [(.iconst 1, 1, 1), (.iadd, 1, 0)] 28 = true := by decide +kernel
theorem s_Mo_tick_31 : dsq c_Mo_tick 31 [(.aload_n 0, 1, 0)] 32 = true := by decide +kernel
theorem s_Mo_tick_35 : dsq c_Mo_tick 35 [(.istore 4, 2, 0)] 37 = true := by decide +kernel
theorem s_Mo_tick_37 : dsq c_Mo_tick 37 [(.iload 4, 2, 0)] 39 = true := by decide +kernel
theorem s_Mo_tick_42 : dsq c_Mo_tick 42 [(.aload_n 0, 1, 0), (.iload 4, 2, 0)] 45 = true := by decide +kernel
theorem s_Mo_tick_48 : dsq c_Mo_tick 48 [(.iinc 2 1, 3, 1), (.aload_n 0, 1, 0)] 52 = true := by decide +kernel
theorem s_Mo_tick_55 : dsq c_Mo_tick 55 [(.istore 4, 2, 0), (.goto (-20), 3, 0)] 37 = true := by decide +kernel
theorem s_Mo_tick_60 : dsq c_Mo_tick 60 [(.iinc 3 1, 3, 1), (.goto (-47), 3, 0)] 16 = true := by decide +kernel
theorem s_Mo_tick_66 : dsq c_Mo_tick 66 [(.iload_n 2, 1, 0)] 67 = true := by decide +kernel
theorem d_Mo_tick_1 : decode c_Mo_tick 1 = .ok (.ifCond .lt 9, 3) := by decide +kernel
theorem d_Mo_tick_7 : decode c_Mo_tick 7 = .ok (.if_icmp .le 5, 3) := by decide +kernel
theorem d_Mo_tick_11 : decode c_Mo_tick 11 = .ok (.ireturn, 1) := by decide +kernel
theorem d_Mo_tick_18 : decode c_Mo_tick 18 = .ok (.if_icmp .ge 48, 3) := by decide +kernel
theorem d_Mo_tick_23 : decode c_Mo_tick 23 = .ok (.getfield 96, 3) := by decide +kernel
theorem d_Mo_tick_28 : decode c_Mo_tick 28 = .ok (.putfield 96, 3) := by decide +kernel
theorem d_Mo_tick_32 : decode c_Mo_tick 32 = .ok (.invokevirtual 120, 3) := by decide +kernel
theorem d_Mo_tick_39 : decode c_Mo_tick 39 = .ok (.ifCond .lt 21, 3) := by decide +kernel
theorem d_Mo_tick_45 : decode c_Mo_tick 45 = .ok (.invokevirtual 117, 3) := by decide +kernel
theorem d_Mo_tick_52 : decode c_Mo_tick 52 = .ok (.invokevirtual 120, 3) := by decide +kernel
theorem d_Mo_tick_67 : decode c_Mo_tick 67 = .ok (.ireturn, 1) := by decide +kernel
theorem s_Mo_next_0 : dsq c_Mo_next 0 [(.iconst (-1), 1, (-1)), (.istore_n 1, 1, 0), (.iconst 0, 1, 0), (.istore_n 2, 1, 0)] 4 = true := by decide +kernel
theorem s_Mo_next_4 : dsq c_Mo_next 4 [(.iload_n 2, 1, 0), (.aload_n 0, 1, 0)] 6 = true := by decide +kernel
theorem s_Mo_next_12 : dsq c_Mo_next 12 [(.aload_n 0, 1, 0)] 13 = true := by decide +kernel
theorem s_Mo_next_16 : dsq c_Mo_next 16 [(.iload_n 2, 1, 0)] 17 = true := by decide +kernel
theorem s_Mo_next_21 : dsq c_Mo_next 21 [(.aload_n 0, 1, 0)] 22 = true := by decide +kernel
theorem s_Mo_next_25 : dsq c_Mo_next 25 [(.iload_n 2, 1, 0)] 26 = true := by decide +kernel
theorem s_Mo_next_27 : dsq c_Mo_next 27 [(.aload_n 0, 1, 0)] 28 = true := by decide +kernel
theorem s_Mo_next_34 : dsq c_Mo_next 34 [(.iload_n 1, 1, 0)] 35 = true := by decide +kernel
theorem s_Mo_next_38 : dsq c_Mo_next 38 [(.aload_n 0, 1, 0)] 39 = true := by decide +kernel
theorem s_Mo_next_42 : dsq c_Mo_next 42 [(.iload_n 2, 1, 0)] 43 = true := by decide +kernel
theorem s_Mo_next_44 : dsq c_Mo_next 44 [(.aload_n 0, 1, 0)] 45 = true := by decide +kernel
theorem s_Mo_next_48 : dsq c_Mo_next 48 [(.iload_n 1, 1, 0)] 49 = true := by decide +kernel
theorem s_Mo_next_54 : dsq c_Mo_next 54 [(.iload_n 2, 1, 0), (.istore_n 1, 1, 0), (.iinc 2 1, 3, 1), (.goto (-55), 3, 0)] 4 = true := by decide +kernel
theorem s_Mo_next_56 : dsq c_Mo_next 56 [(.iinc 2 1, 3, 1), (.goto (-55), 3, 0)] 4 = true := by decide +kernel
theorem s_Mo_next_62 : dsq c_Mo_next 62 [(.iload_n 1, 1, 0)] 63 = true := by decide +kernel
theorem d_Mo_next_6 : decode c_Mo_next 6 = .ok (.getfield 85, 3) := by decide +kernel
theorem d_Mo_next_9 : decode c_Mo_next 9 = .ok (.if_icmp .ge 53, 3) := by decide +kernel
theorem d_Mo_next_13 : decode c_Mo_next 13 = .ok (.getfield 27, 3) := by decide +kernel
theorem d_Mo_next_17 : decode c_Mo_next 17 = .ok (.iaload, 1) := by decide +kernel
theorem d_Mo_next_18 : decode c_Mo_next 18 = .ok (.ifCond .lt 38, 3) := by decide +kernel
theorem d_Mo_next_22 : decode c_Mo_next 22 = .ok (.getfield 30, 3) := by decide +kernel
theorem d_Mo_next_26 : decode c_Mo_next 26 = .ok (.iaload, 1) := by decide +kernel
theorem d_Mo_next_28 : decode c_Mo_next 28 = .ok (.getfield 96, 3) := by decide +kernel
theorem d_Mo_next_31 : decode c_Mo_next 31 = .ok (.if_icmp .gt 25, 3) := by decide +kernel
theorem d_Mo_next_35 : decode c_Mo_next 35 = .ok (.ifCond .lt 19, 3) := by decide +kernel
theorem d_Mo_next_39 : decode c_Mo_next 39 = .ok (.getfield 13, 3) := by decide +kernel
theorem d_Mo_next_43 : decode c_Mo_next 43 = .ok (.laload, 1) := by decide +kernel
theorem d_Mo_next_45 : decode c_Mo_next 45 = .ok (.getfield 13, 3) := by decide +kernel
theorem d_Mo_next_49 : decode c_Mo_next 49 = .ok (.laload, 1) := by decide +kernel
theorem d_Mo_next_50 : decode c_Mo_next 50 = .ok (.lcmp, 1) := by decide +kernel
theorem d_Mo_next_51 : decode c_Mo_next 51 = .ok (.ifCond .ge 5, 3) := by decide +kernel
theorem d_Mo_next_63 : decode c_Mo_next 63 = .ok (.ireturn, 1) := by decide +kernel
theorem s_Mo_holder_0 : dsq c_Mo_holder 0 [(.aload_n 0, 1, 0)] 1 = true := by decide +kernel
theorem s_Mo_holder_7 : dsq c_Mo_holder 7 [(.iconst (-1), 1, (-1))] 8 = true := by decide +kernel
theorem s_Mo_holder_9 : dsq c_Mo_holder 9 [(.aload_n 0, 1, 0)] 10 = true := by decide +kernel
theorem s_Mo_holder_13 : dsq c_Mo_holder 13 [(.istore_n 1, 1, 0), (.aload_n 0, 1, 0)] 15 = true := by decide +kernel
theorem s_Mo_holder_18 : dsq c_Mo_holder 18 [(.iload_n 1, 1, 0)] 19 = true := by decide +kernel
theorem s_Mo_holder_23 : dsq c_Mo_holder 23 [(.bipush (-2), 2, (-2)), (.goto 9, 3, 0)] 34 = true := by decide +kernel
theorem s_Mo_holder_28 : dsq c_Mo_holder 28 [(.aload_n 0, 1, 0)] 29 = true := by decide +kernel
theorem s_Mo_holder_32 : dsq c_Mo_holder 32 [(.iload_n 1, 1, 0)] 33 = true := by decide +kernel
theorem d_Mo_holder_1 : decode c_Mo_holder 1 = .ok (.getfield 75, 3) := by decide +kernel
theorem d_Mo_holder_4 : decode c_Mo_holder 4 = .ok (.ifCond .ne 5, 3) := by decide +kernel
theorem d_Mo_holder_8 : decode c_Mo_holder 8 = .ok (.ireturn, 1) := by decide +kernel
theorem d_Mo_holder_10 : decode c_Mo_holder 10 = .ok (.invokevirtual 109, 3) := by decide +kernel
theorem d_Mo_holder_15 : decode c_Mo_holder 15 = .ok (.getfield 27, 3) := by decide +kernel
theorem d_Mo_holder_19 : decode c_Mo_holder 19 = .ok (.iaload, 1) := by decide +kernel
theorem d_Mo_holder_20 : decode c_Mo_holder 20 = .ok (.ifCond .ge 8, 3) := by decide +kernel
theorem d_Mo_holder_29 : decode c_Mo_holder 29 = .ok (.getfield 27, 3) := by decide +kernel
theorem d_Mo_holder_33 : decode c_Mo_holder 33 = .ok (.iaload, 1) := by decide +kernel
theorem d_Mo_holder_34 : decode c_Mo_holder 34 = .ok (.ireturn, 1) := by decide +kernel
theorem s_Mo_left_0 : dsq c_Mo_left 0 [(.aload_n 0, 1, 0)] 1 = true := by decide +kernel
theorem s_Mo_left_7 : dsq c_Mo_left 7 [(.iconst (-1), 1, (-1))] 8 = true := by decide +kernel
theorem s_Mo_left_9 : dsq c_Mo_left 9 [(.aload_n 0, 1, 0)] 10 = true := by decide +kernel
theorem s_Mo_left_13 : dsq c_Mo_left 13 [(.istore_n 1, 1, 0), (.aload_n 0, 1, 0)] 15 = true := by decide +kernel
theorem s_Mo_left_18 : dsq c_Mo_left 18 [(.iload_n 1, 1, 0)] 19 = true := by decide +kernel
theorem s_Mo_left_23 : dsq c_Mo_left 23 [(.bipush (-2), 2, (-2)), (.goto 14, 3, 0)] 39 = true := by decide +kernel
theorem s_Mo_left_28 : dsq c_Mo_left 28 [(.aload_n 0, 1, 0)] 29 = true := by decide +kernel
theorem s_Mo_left_32 : dsq c_Mo_left 32 [(.iload_n 1, 1, 0)] 33 = true := by decide +kernel
theorem s_Mo_left_34 : dsq c_Mo_left 34 [(.aload_n 0, 1, 0)] 35 = true := by decide +kernel
theorem s_Mo_left_38 : dsq c_Mo_left 38 [(.isub, 1, 0)] 39 = true := by decide +kernel
theorem d_Mo_left_1 : decode c_Mo_left 1 = .ok (.getfield 75, 3) := by decide +kernel
theorem d_Mo_left_4 : decode c_Mo_left 4 = .ok (.ifCond .ne 5, 3) := by decide +kernel
theorem d_Mo_left_8 : decode c_Mo_left 8 = .ok (.ireturn, 1) := by decide +kernel
theorem d_Mo_left_10 : decode c_Mo_left 10 = .ok (.invokevirtual 109, 3) := by decide +kernel
theorem d_Mo_left_15 : decode c_Mo_left 15 = .ok (.getfield 27, 3) := by decide +kernel
theorem d_Mo_left_19 : decode c_Mo_left 19 = .ok (.iaload, 1) := by decide +kernel
theorem d_Mo_left_20 : decode c_Mo_left 20 = .ok (.ifCond .ge 8, 3) := by decide +kernel
theorem d_Mo_left_29 : decode c_Mo_left 29 = .ok (.getfield 30, 3) := by decide +kernel
theorem d_Mo_left_33 : decode c_Mo_left 33 = .ok (.iaload, 1) := by decide +kernel
theorem d_Mo_left_35 : decode c_Mo_left 35 = .ok (.getfield 96, 3) := by decide +kernel
theorem d_Mo_left_39 : decode c_Mo_left 39 = .ok (.ireturn, 1) := by decide +kernel
theorem s_Mo_waiting_0 : dsq c_Mo_waiting 0 [(.aload_n 0, 1, 0)] 1 = true := by decide +kernel
theorem s_Mo_waiting_7 : dsq c_Mo_waiting 7 [(.iconst (-1), 1, (-1))] 8 = true := by decide +kernel
theorem s_Mo_waiting_9 : dsq c_Mo_waiting 9 [(.aload_n 0, 1, 0)] 10 = true := by decide +kernel
theorem s_Mo_waiting_13 : dsq c_Mo_waiting 13 [(.istore_n 2, 1, 0), (.iload_n 1, 1, 0)] 15 = true := by decide +kernel
theorem s_Mo_waiting_18 : dsq c_Mo_waiting 18 [(.iload_n 1, 1, 0), (.aload_n 0, 1, 0)] 20 = true := by decide +kernel
theorem s_Mo_waiting_23 : dsq c_Mo_waiting 23 [(.iload_n 2, 1, 0)] 24 = true := by decide +kernel
theorem s_Mo_waiting_28 : dsq c_Mo_waiting 28 [(.bipush (-2), 2, (-2)), (.goto 13, 3, 0)] 43 = true := by decide +kernel
theorem s_Mo_waiting_33 : dsq c_Mo_waiting 33 [(.aload_n 0, 1, 0)] 34 = true := by decide +kernel
theorem s_Mo_waiting_37 : dsq c_Mo_waiting 37 [(.iconst 5, 1, 5), (.iload_n 2, 1, 0), (.imul, 1, 0), (.iload_n 1, 1, 0), (.iadd, 1, 0)] 42 = true := by decide +kernel
theorem d_Mo_waiting_1 : decode c_Mo_waiting 1 = .ok (.getfield 75, 3) := by decide +kernel
theorem d_Mo_waiting_4 : decode c_Mo_waiting 4 = .ok (.ifCond .ne 5, 3) := by decide +kernel
theorem d_Mo_waiting_8 : decode c_Mo_waiting 8 = .ok (.ireturn, 1) := by decide +kernel
theorem d_Mo_waiting_10 : decode c_Mo_waiting 10 = .ok (.invokevirtual 109, 3) := by decide +kernel
theorem d_Mo_waiting_15 : decode c_Mo_waiting 15 = .ok (.ifCond .lt 13, 3) := by decide +kernel
theorem d_Mo_waiting_20 : decode c_Mo_waiting 20 = .ok (.getfield 33, 3) := by decide +kernel
theorem d_Mo_waiting_24 : decode c_Mo_waiting 24 = .ok (.iaload, 1) := by decide +kernel
theorem d_Mo_waiting_25 : decode c_Mo_waiting 25 = .ok (.if_icmp .lt 8, 3) := by decide +kernel
theorem d_Mo_waiting_34 : decode c_Mo_waiting 34 = .ok (.getfield 36, 3) := by decide +kernel
theorem d_Mo_waiting_42 : decode c_Mo_waiting 42 = .ok (.iaload, 1) := by decide +kernel
theorem d_Mo_waiting_43 : decode c_Mo_waiting 43 = .ok (.ireturn, 1) := by decide +kernel
theorem s_Mo_first_0 : dsq c_Mo_first 0 [(.iconst (-1), 1, (-1)), (.istore_n 1, 1, 0), (.iconst 0, 1, 0), (.istore_n 2, 1, 0)] 4 = true := by decide +kernel
theorem s_Mo_first_4 : dsq c_Mo_first 4 [(.iload_n 2, 1, 0), (.aload_n 0, 1, 0)] 6 = true := by decide +kernel
theorem s_Mo_first_12 : dsq c_Mo_first 12 [(.aload_n 0, 1, 0)] 13 = true := by decide +kernel
theorem s_Mo_first_16 : dsq c_Mo_first 16 [(.iload_n 2, 1, 0)] 17 = true := by decide +kernel
theorem s_Mo_first_21 : dsq c_Mo_first 21 [(.iload_n 1, 1, 0)] 22 = true := by decide +kernel
theorem s_Mo_first_25 : dsq c_Mo_first 25 [(.aload_n 0, 1, 0)] 26 = true := by decide +kernel
theorem s_Mo_first_29 : dsq c_Mo_first 29 [(.iload_n 2, 1, 0)] 30 = true := by decide +kernel
theorem s_Mo_first_31 : dsq c_Mo_first 31 [(.aload_n 0, 1, 0)] 32 = true := by decide +kernel
theorem s_Mo_first_35 : dsq c_Mo_first 35 [(.iload_n 1, 1, 0)] 36 = true := by decide +kernel
theorem s_Mo_first_40 : dsq c_Mo_first 40 [(.aload_n 0, 1, 0)] 41 = true := by decide +kernel
theorem s_Mo_first_44 : dsq c_Mo_first 44 [(.iload_n 2, 1, 0)] 45 = true := by decide +kernel
theorem s_Mo_first_46 : dsq c_Mo_first 46 [(.aload_n 0, 1, 0)] 47 = true := by decide +kernel
theorem s_Mo_first_50 : dsq c_Mo_first 50 [(.iload_n 1, 1, 0)] 51 = true := by decide +kernel
theorem s_Mo_first_55 : dsq c_Mo_first 55 [(.aload_n 0, 1, 0)] 56 = true := by decide +kernel
theorem s_Mo_first_59 : dsq c_Mo_first 59 [(.iload_n 2, 1, 0)] 60 = true := by decide +kernel
theorem s_Mo_first_61 : dsq c_Mo_first 61 [(.aload_n 0, 1, 0)] 62 = true := by decide +kernel
theorem s_Mo_first_65 : dsq c_Mo_first 65 [(.iload_n 1, 1, 0)] 66 = true := by decide +kernel
theorem s_Mo_first_71 : dsq c_Mo_first 71 [(.iload_n 2, 1, 0), (.istore_n 1, 1, 0), (.iinc 2 1, 3, 1), (.goto (-72), 3, 0)] 4 = true := by decide +kernel
theorem s_Mo_first_73 : dsq c_Mo_first 73 [(.iinc 2 1, 3, 1), (.goto (-72), 3, 0)] 4 = true := by decide +kernel
theorem s_Mo_first_79 : dsq c_Mo_first 79 [(.iload_n 1, 1, 0)] 80 = true := by decide +kernel
theorem s_Mo_first_83 : dsq c_Mo_first 83 [(.bipush (-2), 2, (-2))] 85 = true := by decide +kernel
theorem s_Mo_first_86 : dsq c_Mo_first 86 [(.aload_n 0, 1, 0), (.iload_n 1, 1, 0)] 88 = true := by decide +kernel
theorem s_Mo_first_91 : dsq c_Mo_first 91 [(.aload_n 0, 1, 0)] 92 = true := by decide +kernel
theorem s_Mo_first_95 : dsq c_Mo_first 95 [(.iload_n 1, 1, 0)] 96 = true := by decide +kernel
theorem d_Mo_first_6 : decode c_Mo_first 6 = .ok (.getfield 85, 3) := by decide +kernel
theorem d_Mo_first_9 : decode c_Mo_first 9 = .ok (.if_icmp .ge 70, 3) := by decide +kernel
theorem d_Mo_first_13 : decode c_Mo_first 13 = .ok (.getfield 27, 3) := by decide +kernel
theorem d_Mo_first_17 : decode c_Mo_first 17 = .ok (.iaload, 1) := by decide +kernel
theorem d_Mo_first_18 : decode c_Mo_first 18 = .ok (.ifCond .lt 55, 3) := by decide +kernel
theorem d_Mo_first_22 : decode c_Mo_first 22 = .ok (.ifCond .lt 49, 3) := by decide +kernel
theorem d_Mo_first_26 : decode c_Mo_first 26 = .ok (.getfield 30, 3) := by decide +kernel
theorem d_Mo_first_30 : decode c_Mo_first 30 = .ok (.iaload, 1) := by decide +kernel
theorem d_Mo_first_32 : decode c_Mo_first 32 = .ok (.getfield 30, 3) := by decide +kernel
theorem d_Mo_first_36 : decode c_Mo_first 36 = .ok (.iaload, 1) := by decide +kernel
theorem d_Mo_first_37 : decode c_Mo_first 37 = .ok (.if_icmp .lt 34, 3) := by decide +kernel
theorem d_Mo_first_41 : decode c_Mo_first 41 = .ok (.getfield 30, 3) := by decide +kernel
theorem d_Mo_first_45 : decode c_Mo_first 45 = .ok (.iaload, 1) := by decide +kernel
theorem d_Mo_first_47 : decode c_Mo_first 47 = .ok (.getfield 30, 3) := by decide +kernel
theorem d_Mo_first_51 : decode c_Mo_first 51 = .ok (.iaload, 1) := by decide +kernel
theorem d_Mo_first_52 : decode c_Mo_first 52 = .ok (.if_icmp .ne 21, 3) := by decide +kernel
theorem d_Mo_first_56 : decode c_Mo_first 56 = .ok (.getfield 13, 3) := by decide +kernel
theorem d_Mo_first_60 : decode c_Mo_first 60 = .ok (.laload, 1) := by decide +kernel
theorem d_Mo_first_62 : decode c_Mo_first 62 = .ok (.getfield 13, 3) := by decide +kernel
theorem d_Mo_first_66 : decode c_Mo_first 66 = .ok (.laload, 1) := by decide +kernel
theorem d_Mo_first_67 : decode c_Mo_first 67 = .ok (.lcmp, 1) := by decide +kernel
theorem d_Mo_first_68 : decode c_Mo_first 68 = .ok (.ifCond .ge 5, 3) := by decide +kernel
theorem d_Mo_first_80 : decode c_Mo_first 80 = .ok (.ifCond .ge 6, 3) := by decide +kernel
theorem d_Mo_first_85 : decode c_Mo_first 85 = .ok (.ireturn, 1) := by decide +kernel
theorem d_Mo_first_88 : decode c_Mo_first 88 = .ok (.invokevirtual 123, 3) := by decide +kernel
theorem d_Mo_first_92 : decode c_Mo_first 92 = .ok (.getfield 27, 3) := by decide +kernel
theorem d_Mo_first_96 : decode c_Mo_first 96 = .ok (.iaload, 1) := by decide +kernel
theorem d_Mo_first_97 : decode c_Mo_first 97 = .ok (.ireturn, 1) := by decide +kernel
theorem s_Mo_write_0 : dsq c_Mo_write 0 [(.aload_n 0, 1, 0)] 1 = true := by decide +kernel
theorem s_Mo_write_4 : dsq c_Mo_write 4 [(.iload_n 1, 1, 0)] 5 = true := by decide +kernel
theorem s_Mo_write_6 : dsq c_Mo_write 6 [(.lstore_n 2, 1, 0), (.iconst 5, 1, 5), (.istore 4, 2, 0)] 10 = true := by decide +kernel
theorem s_Mo_write_10 : dsq c_Mo_write 10 [(.iload 4, 2, 0)] 12 = true := by decide +kernel
theorem s_Mo_write_15 : dsq c_Mo_write 15 [(.aload_n 0, 1, 0)] 16 = true := by decide +kernel
theorem s_Mo_write_19 : dsq c_Mo_write 19 [(.iload 4, 2, 0), (.lload_n 2, 1, 0)] 22 = true := by decide +kernel
theorem s_Mo_write_26 : dsq c_Mo_write 26 [(.l2i, 1, 0)] 27 = true := by decide +kernel
theorem s_Mo_write_28 : dsq c_Mo_write 28 [(.lload_n 2, 1, 0)] 29 = true := by decide +kernel
theorem s_Mo_write_33 : dsq c_Mo_write 33 [(.lstore_n 2, 1, 0), (.iinc 4 (-1), 3, (-1)), (.goto (-27), 3, 0)] 10 = true := by decide +kernel
theorem s_Mo_write_40 : dsq c_Mo_write 40 [(.aload_n 0, 1, 0), (.lload_n 2, 1, 0), (.l2i, 1, 0)] 43 = true := by decide +kernel
theorem s_Mo_write_46 : dsq c_Mo_write 46 [(.iconst 0, 1, 0), (.istore 4, 2, 0)] 49 = true := by decide +kernel
theorem s_Mo_write_49 : dsq c_Mo_write 49 [(.iload 4, 2, 0), (.aload_n 0, 1, 0)] 52 = true := by decide +kernel
theorem s_Mo_write_58 : dsq c_Mo_write 58 [(.aload_n 0, 1, 0)] 59 = true := by decide +kernel
theorem s_Mo_write_62 : dsq c_Mo_write 62 [(.iload 4, 2, 0), (.aload_n 0, 1, 0)] 65 = true := by decide +kernel
theorem s_Mo_write_68 : dsq c_Mo_write 68 [(.iload 4, 2, 0)] 70 = true := by decide +kernel
theorem s_Mo_write_71 : dsq c_Mo_write 71 [(.bipush 96, 2, 96), (.iadd, 1, 0)] 74 = true := by decide +kernel
theorem s_Mo_write_75 : dsq c_Mo_write 75 [(.iinc 4 1, 3, 1), (.goto (-29), 3, 0)] 49 = true := by decide +kernel
theorem d_Mo_write_1 : decode c_Mo_write 1 = .ok (.getfield 13, 3) := by decide +kernel
theorem d_Mo_write_5 : decode c_Mo_write 5 = .ok (.laload, 1) := by decide +kernel
theorem d_Mo_write_12 : decode c_Mo_write 12 = .ok (.ifCond .lt 28, 3) := by decide +kernel
theorem d_Mo_write_16 : decode c_Mo_write 16 = .ok (.getfield 72, 3) := by decide +kernel
theorem d_Mo_write_22 : decode c_Mo_write 22 = .ok (.ldc2_w 79, 3) := by decide +kernel
theorem d_Mo_write_25 : decode c_Mo_write 25 = .ok (.lrem, 1) := by decide +kernel
theorem d_Mo_write_27 : decode c_Mo_write 27 = .ok (.iastore, 1) := by decide +kernel
theorem d_Mo_write_29 : decode c_Mo_write 29 = .ok (.ldc2_w 79, 3) := by decide +kernel
theorem d_Mo_write_32 : decode c_Mo_write 32 = .ok (.ldiv, 1) := by decide +kernel
theorem d_Mo_write_43 : decode c_Mo_write 43 = .ok (.putfield 75, 3) := by decide +kernel
theorem d_Mo_write_52 : decode c_Mo_write 52 = .ok (.getfield 75, 3) := by decide +kernel
theorem d_Mo_write_55 : decode c_Mo_write 55 = .ok (.if_icmp .ge 26, 3) := by decide +kernel
theorem d_Mo_write_59 : decode c_Mo_write 59 = .ok (.getfield 7, 3) := by decide +kernel
theorem d_Mo_write_65 : decode c_Mo_write 65 = .ok (.getfield 72, 3) := by decide +kernel
theorem d_Mo_write_70 : decode c_Mo_write 70 = .ok (.iaload, 1) := by decide +kernel
theorem d_Mo_write_74 : decode c_Mo_write 74 = .ok (.iastore, 1) := by decide +kernel
theorem d_Mo_write_81 : decode c_Mo_write 81 = .ok (.return_, 1) := by decide +kernel
theorem s_Mo_job_0 : dsq c_Mo_job 0 [(.aload_n 0, 1, 0)] 1 = true := by decide +kernel
theorem s_Mo_job_7 : dsq c_Mo_job 7 [(.iconst (-1), 1, (-1))] 8 = true := by decide +kernel
theorem s_Mo_job_9 : dsq c_Mo_job 9 [(.aload_n 0, 1, 0)] 10 = true := by decide +kernel
theorem s_Mo_job_13 : dsq c_Mo_job 13 [(.istore_n 3, 1, 0), (.aload_n 0, 1, 0)] 15 = true := by decide +kernel
theorem s_Mo_job_18 : dsq c_Mo_job 18 [(.bipush 30, 2, 30)] 20 = true := by decide +kernel
theorem s_Mo_job_23 : dsq c_Mo_job 23 [(.bipush (-3), 2, (-3))] 25 = true := by decide +kernel
theorem s_Mo_job_26 : dsq c_Mo_job 26 [(.aload_n 0, 1, 0)] 27 = true := by decide +kernel
theorem s_Mo_job_30 : dsq c_Mo_job 30 [(.aload_n 0, 1, 0)] 31 = true := by decide +kernel
theorem s_Mo_job_34 : dsq c_Mo_job 34 [(.iload_n 3, 1, 0)] 35 = true := by decide +kernel
theorem s_Mo_job_36 : dsq c_Mo_job 36 [(.aload_n 0, 1, 0)] 37 = true := by decide +kernel
theorem s_Mo_job_40 : dsq c_Mo_job 40 [(.aload_n 0, 1, 0)] 41 = true := by decide +kernel
theorem s_Mo_job_44 : dsq c_Mo_job 44 [(.iload_n 1, 1, 0)] 45 = true := by decide +kernel
theorem s_Mo_job_46 : dsq c_Mo_job 46 [(.aload_n 0, 1, 0)] 47 = true := by decide +kernel
theorem s_Mo_job_50 : dsq c_Mo_job 50 [(.aload_n 0, 1, 0), (.dup, 1, 0)] 52 = true := by decide +kernel
theorem s_Mo_job_55 : dsq c_Mo_job 55 [(.dup_x1, 1, 0), (.iconst 1, 1, 1), (.iadd, 1, 0)] 58 = true := by decide +kernel
theorem s_Mo_job_61 : dsq c_Mo_job 61 [(.iload_n 2, 1, 0)] 62 = true := by decide +kernel
theorem s_Mo_job_63 : dsq c_Mo_job 63 [(.aload_n 0, 1, 0)] 64 = true := by decide +kernel
theorem d_Mo_job_1 : decode c_Mo_job 1 = .ok (.getfield 75, 3) := by decide +kernel
theorem d_Mo_job_4 : decode c_Mo_job 4 = .ok (.ifCond .ne 5, 3) := by decide +kernel
theorem d_Mo_job_8 : decode c_Mo_job 8 = .ok (.ireturn, 1) := by decide +kernel
theorem d_Mo_job_10 : decode c_Mo_job 10 = .ok (.invokevirtual 109, 3) := by decide +kernel
theorem d_Mo_job_15 : decode c_Mo_job 15 = .ok (.getfield 126, 3) := by decide +kernel
theorem d_Mo_job_20 : decode c_Mo_job 20 = .ok (.if_icmp .ne 6, 3) := by decide +kernel
theorem d_Mo_job_25 : decode c_Mo_job 25 = .ok (.ireturn, 1) := by decide +kernel
theorem d_Mo_job_27 : decode c_Mo_job 27 = .ok (.getfield 48, 3) := by decide +kernel
theorem d_Mo_job_31 : decode c_Mo_job 31 = .ok (.getfield 126, 3) := by decide +kernel
theorem d_Mo_job_35 : decode c_Mo_job 35 = .ok (.iastore, 1) := by decide +kernel
theorem d_Mo_job_37 : decode c_Mo_job 37 = .ok (.getfield 51, 3) := by decide +kernel
theorem d_Mo_job_41 : decode c_Mo_job 41 = .ok (.getfield 126, 3) := by decide +kernel
theorem d_Mo_job_45 : decode c_Mo_job 45 = .ok (.iastore, 1) := by decide +kernel
theorem d_Mo_job_47 : decode c_Mo_job 47 = .ok (.getfield 54, 3) := by decide +kernel
theorem d_Mo_job_52 : decode c_Mo_job 52 = .ok (.getfield 126, 3) := by decide +kernel
theorem d_Mo_job_58 : decode c_Mo_job 58 = .ok (.putfield 126, 3) := by decide +kernel
theorem d_Mo_job_62 : decode c_Mo_job 62 = .ok (.iastore, 1) := by decide +kernel
theorem d_Mo_job_64 : decode c_Mo_job 64 = .ok (.getfield 126, 3) := by decide +kernel
theorem d_Mo_job_67 : decode c_Mo_job 67 = .ok (.ireturn, 1) := by decide +kernel
theorem s_Mo_work_0 : dsq c_Mo_work 0 [(.iconst (-1), 1, (-1)), (.istore_n 1, 1, 0), (.iconst 0, 1, 0), (.istore_n 2, 1, 0)] 4 = true := by decide +kernel
theorem s_Mo_work_4 : dsq c_Mo_work 4 [(.iload_n 2, 1, 0), (.aload_n 0, 1, 0)] 6 = true := by decide +kernel
theorem s_Mo_work_12 : dsq c_Mo_work 12 [(.iload_n 1, 1, 0)] 13 = true := by decide +kernel
theorem s_Mo_work_16 : dsq c_Mo_work 16 [(.aload_n 0, 1, 0)] 17 = true := by decide +kernel
theorem s_Mo_work_20 : dsq c_Mo_work 20 [(.iload_n 2, 1, 0)] 21 = true := by decide +kernel
theorem s_Mo_work_22 : dsq c_Mo_work 22 [(.aload_n 0, 1, 0)] 23 = true := by decide +kernel
theorem s_Mo_work_26 : dsq c_Mo_work 26 [(.iload_n 1, 1, 0)] 27 = true := by decide +kernel
theorem s_Mo_work_31 : dsq c_Mo_work 31 [(.aload_n 0, 1, 0)] 32 = true := by decide +kernel
theorem s_Mo_work_35 : dsq c_Mo_work 35 [(.iload_n 2, 1, 0)] 36 = true := by decide +kernel
theorem s_Mo_work_37 : dsq c_Mo_work 37 [(.aload_n 0, 1, 0)] 38 = true := by decide +kernel
theorem s_Mo_work_41 : dsq c_Mo_work 41 [(.iload_n 1, 1, 0)] 42 = true := by decide +kernel
theorem s_Mo_work_46 : dsq c_Mo_work 46 [(.aload_n 0, 1, 0)] 47 = true := by decide +kernel
theorem s_Mo_work_50 : dsq c_Mo_work 50 [(.iload_n 2, 1, 0)] 51 = true := by decide +kernel
theorem s_Mo_work_52 : dsq c_Mo_work 52 [(.aload_n 0, 1, 0)] 53 = true := by decide +kernel
theorem s_Mo_work_56 : dsq c_Mo_work 56 [(.iload_n 1, 1, 0)] 57 = true := by decide +kernel
theorem s_Mo_work_61 : dsq c_Mo_work 61 [(.iload_n 2, 1, 0), (.istore_n 1, 1, 0), (.iinc 2 1, 3, 1), (.goto (-62), 3, 0)] 4 = true := by decide +kernel
theorem s_Mo_work_63 : dsq c_Mo_work 63 [(.iinc 2 1, 3, 1), (.goto (-62), 3, 0)] 4 = true := by decide +kernel
theorem s_Mo_work_69 : dsq c_Mo_work 69 [(.iload_n 1, 1, 0)] 70 = true := by decide +kernel
theorem s_Mo_work_73 : dsq c_Mo_work 73 [(.aload_n 0, 1, 0)] 74 = true := by decide +kernel
theorem s_Mo_work_77 : dsq c_Mo_work 77 [(.iload_n 1, 1, 0)] 78 = true := by decide +kernel
theorem s_Mo_work_79 : dsq c_Mo_work 79 [(.aload_n 0, 1, 0)] 80 = true := by decide +kernel
theorem s_Mo_work_90 : dsq c_Mo_work 90 [(.aload_n 0, 1, 0)] 91 = true := by decide +kernel
theorem s_Mo_work_94 : dsq c_Mo_work 94 [(.iload_n 1, 1, 0)] 95 = true := by decide +kernel
theorem s_Mo_work_96 : dsq c_Mo_work 96 [(.istore_n 2, 1, 0), (.aload_n 0, 1, 0), (.aload_n 0, 1, 0)] 99 = true := by decide +kernel
theorem s_Mo_work_102 : dsq c_Mo_work 102 [(.iload_n 1, 1, 0)] 103 = true := by decide +kernel
theorem s_Mo_work_107 : dsq c_Mo_work 107 [(.aload_n 0, 1, 0), (.iload_n 1, 1, 0)] 109 = true := by decide +kernel
theorem s_Mo_work_112 : dsq c_Mo_work 112 [(.iload_n 2, 1, 0), (.i2l, 1, 0)] 114 = true := by decide +kernel
theorem d_Mo_work_6 : decode c_Mo_work 6 = .ok (.getfield 126, 3) := by decide +kernel
theorem d_Mo_work_9 : decode c_Mo_work 9 = .ok (.if_icmp .ge 60, 3) := by decide +kernel
theorem d_Mo_work_13 : decode c_Mo_work 13 = .ok (.ifCond .lt 48, 3) := by decide +kernel
theorem d_Mo_work_17 : decode c_Mo_work 17 = .ok (.getfield 51, 3) := by decide +kernel
theorem d_Mo_work_21 : decode c_Mo_work 21 = .ok (.iaload, 1) := by decide +kernel
theorem d_Mo_work_23 : decode c_Mo_work 23 = .ok (.getfield 51, 3) := by decide +kernel
theorem d_Mo_work_27 : decode c_Mo_work 27 = .ok (.iaload, 1) := by decide +kernel
theorem d_Mo_work_28 : decode c_Mo_work 28 = .ok (.if_icmp .lt 33, 3) := by decide +kernel
theorem d_Mo_work_32 : decode c_Mo_work 32 = .ok (.getfield 51, 3) := by decide +kernel
theorem d_Mo_work_36 : decode c_Mo_work 36 = .ok (.iaload, 1) := by decide +kernel
theorem d_Mo_work_38 : decode c_Mo_work 38 = .ok (.getfield 51, 3) := by decide +kernel
theorem d_Mo_work_42 : decode c_Mo_work 42 = .ok (.iaload, 1) := by decide +kernel
theorem d_Mo_work_43 : decode c_Mo_work 43 = .ok (.if_icmp .ne 20, 3) := by decide +kernel
theorem d_Mo_work_47 : decode c_Mo_work 47 = .ok (.getfield 54, 3) := by decide +kernel
theorem d_Mo_work_51 : decode c_Mo_work 51 = .ok (.iaload, 1) := by decide +kernel
theorem d_Mo_work_53 : decode c_Mo_work 53 = .ok (.getfield 54, 3) := by decide +kernel
theorem d_Mo_work_57 : decode c_Mo_work 57 = .ok (.iaload, 1) := by decide +kernel
theorem d_Mo_work_58 : decode c_Mo_work 58 = .ok (.if_icmp .ge 5, 3) := by decide +kernel
theorem d_Mo_work_70 : decode c_Mo_work 70 = .ok (.ifCond .lt 16, 3) := by decide +kernel
theorem d_Mo_work_74 : decode c_Mo_work 74 = .ok (.getfield 54, 3) := by decide +kernel
theorem d_Mo_work_78 : decode c_Mo_work 78 = .ok (.iaload, 1) := by decide +kernel
theorem d_Mo_work_80 : decode c_Mo_work 80 = .ok (.getfield 96, 3) := by decide +kernel
theorem d_Mo_work_83 : decode c_Mo_work 83 = .ok (.if_icmp .le 7, 3) := by decide +kernel
theorem d_Mo_work_86 : decode c_Mo_work 86 = .ok (.ldc2_w 129, 3) := by decide +kernel
theorem d_Mo_work_89 : decode c_Mo_work 89 = .ok (.lreturn, 1) := by decide +kernel
theorem d_Mo_work_91 : decode c_Mo_work 91 = .ok (.getfield 51, 3) := by decide +kernel
theorem d_Mo_work_95 : decode c_Mo_work 95 = .ok (.iaload, 1) := by decide +kernel
theorem d_Mo_work_99 : decode c_Mo_work 99 = .ok (.getfield 48, 3) := by decide +kernel
theorem d_Mo_work_103 : decode c_Mo_work 103 = .ok (.iaload, 1) := by decide +kernel
theorem d_Mo_work_104 : decode c_Mo_work 104 = .ok (.invokevirtual 123, 3) := by decide +kernel
theorem d_Mo_work_109 : decode c_Mo_work 109 = .ok (.invokevirtual 131, 3) := by decide +kernel
theorem d_Mo_work_114 : decode c_Mo_work 114 = .ok (.lreturn, 1) := by decide +kernel
theorem s_Mo_gone_0 : dsq c_Mo_gone 0 [(.aload_n 0, 1, 0), (.dup, 1, 0)] 2 = true := by decide +kernel
theorem s_Mo_gone_5 : dsq c_Mo_gone 5 [(.iconst 1, 1, 1), (.isub, 1, 0)] 7 = true := by decide +kernel
theorem s_Mo_gone_10 : dsq c_Mo_gone 10 [(.iload_n 1, 1, 0), (.istore_n 2, 1, 0)] 12 = true := by decide +kernel
theorem s_Mo_gone_12 : dsq c_Mo_gone 12 [(.iload_n 2, 1, 0), (.aload_n 0, 1, 0)] 14 = true := by decide +kernel
theorem s_Mo_gone_20 : dsq c_Mo_gone 20 [(.aload_n 0, 1, 0)] 21 = true := by decide +kernel
theorem s_Mo_gone_24 : dsq c_Mo_gone 24 [(.iload_n 2, 1, 0), (.aload_n 0, 1, 0)] 26 = true := by decide +kernel
theorem s_Mo_gone_29 : dsq c_Mo_gone 29 [(.iload_n 2, 1, 0), (.iconst 1, 1, 1), (.iadd, 1, 0)] 32 = true := by decide +kernel
theorem s_Mo_gone_34 : dsq c_Mo_gone 34 [(.aload_n 0, 1, 0)] 35 = true := by decide +kernel
theorem s_Mo_gone_38 : dsq c_Mo_gone 38 [(.iload_n 2, 1, 0), (.aload_n 0, 1, 0)] 40 = true := by decide +kernel
theorem s_Mo_gone_43 : dsq c_Mo_gone 43 [(.iload_n 2, 1, 0), (.iconst 1, 1, 1), (.iadd, 1, 0)] 46 = true := by decide +kernel
theorem s_Mo_gone_48 : dsq c_Mo_gone 48 [(.aload_n 0, 1, 0)] 49 = true := by decide +kernel
theorem s_Mo_gone_52 : dsq c_Mo_gone 52 [(.iload_n 2, 1, 0), (.aload_n 0, 1, 0)] 54 = true := by decide +kernel
theorem s_Mo_gone_57 : dsq c_Mo_gone 57 [(.iload_n 2, 1, 0), (.iconst 1, 1, 1), (.iadd, 1, 0)] 60 = true := by decide +kernel
theorem s_Mo_gone_62 : dsq c_Mo_gone 62 [(.iinc 2 1, 3, 1), (.goto (-53), 3, 0)] 12 = true := by decide +kernel
theorem d_Mo_gone_2 : decode c_Mo_gone 2 = .ok (.getfield 126, 3) := by decide +kernel
theorem d_Mo_gone_7 : decode c_Mo_gone 7 = .ok (.putfield 126, 3) := by decide +kernel
theorem d_Mo_gone_14 : decode c_Mo_gone 14 = .ok (.getfield 126, 3) := by decide +kernel
theorem d_Mo_gone_17 : decode c_Mo_gone 17 = .ok (.if_icmp .ge 51, 3) := by decide +kernel
theorem d_Mo_gone_21 : decode c_Mo_gone 21 = .ok (.getfield 48, 3) := by decide +kernel
theorem d_Mo_gone_26 : decode c_Mo_gone 26 = .ok (.getfield 48, 3) := by decide +kernel
theorem d_Mo_gone_32 : decode c_Mo_gone 32 = .ok (.iaload, 1) := by decide +kernel
theorem d_Mo_gone_33 : decode c_Mo_gone 33 = .ok (.iastore, 1) := by decide +kernel
theorem d_Mo_gone_35 : decode c_Mo_gone 35 = .ok (.getfield 51, 3) := by decide +kernel
theorem d_Mo_gone_40 : decode c_Mo_gone 40 = .ok (.getfield 51, 3) := by decide +kernel
theorem d_Mo_gone_46 : decode c_Mo_gone 46 = .ok (.iaload, 1) := by decide +kernel
theorem d_Mo_gone_47 : decode c_Mo_gone 47 = .ok (.iastore, 1) := by decide +kernel
theorem d_Mo_gone_49 : decode c_Mo_gone 49 = .ok (.getfield 54, 3) := by decide +kernel
theorem d_Mo_gone_54 : decode c_Mo_gone 54 = .ok (.getfield 54, 3) := by decide +kernel
theorem d_Mo_gone_60 : decode c_Mo_gone 60 = .ok (.iaload, 1) := by decide +kernel
theorem d_Mo_gone_61 : decode c_Mo_gone 61 = .ok (.iastore, 1) := by decide +kernel
theorem d_Mo_gone_68 : decode c_Mo_gone 68 = .ok (.return_, 1) := by decide +kernel
theorem s_Mo_cancel_0 : dsq c_Mo_cancel 0 [(.aload_n 0, 1, 0)] 1 = true := by decide +kernel
theorem s_Mo_cancel_7 : dsq c_Mo_cancel 7 [(.iconst (-1), 1, (-1))] 8 = true := by decide +kernel
theorem s_Mo_cancel_9 : dsq c_Mo_cancel 9 [(.aload_n 0, 1, 0)] 10 = true := by decide +kernel
theorem s_Mo_cancel_13 : dsq c_Mo_cancel 13 [(.istore_n 1, 1, 0), (.iconst 0, 1, 0), (.istore_n 2, 1, 0), (.aload_n 0, 1, 0)] 17 = true := by decide +kernel
theorem s_Mo_cancel_20 : dsq c_Mo_cancel 20 [(.iconst 1, 1, 1), (.isub, 1, 0), (.istore_n 3, 1, 0)] 23 = true := by decide +kernel
theorem s_Mo_cancel_23 : dsq c_Mo_cancel 23 [(.iload_n 3, 1, 0)] 24 = true := by decide +kernel
theorem s_Mo_cancel_27 : dsq c_Mo_cancel 27 [(.aload_n 0, 1, 0)] 28 = true := by decide +kernel
theorem s_Mo_cancel_31 : dsq c_Mo_cancel 31 [(.iload_n 3, 1, 0)] 32 = true := by decide +kernel
theorem s_Mo_cancel_33 : dsq c_Mo_cancel 33 [(.iload_n 1, 1, 0)] 34 = true := by decide +kernel
theorem s_Mo_cancel_37 : dsq c_Mo_cancel 37 [(.goto 11, 3, 0), (.iinc 3 (-1), 3, (-1)), (.goto (-28), 3, 0)] 23 = true := by decide +kernel
theorem s_Mo_cancel_40 : dsq c_Mo_cancel 40 [(.aload_n 0, 1, 0), (.iload_n 3, 1, 0)] 42 = true := by decide +kernel
theorem s_Mo_cancel_45 : dsq c_Mo_cancel 45 [(.iinc 2 1, 3, 1), (.iinc 3 (-1), 3, (-1)), (.goto (-28), 3, 0)] 23 = true := by decide +kernel
theorem s_Mo_cancel_48 : dsq c_Mo_cancel 48 [(.iinc 3 (-1), 3, (-1)), (.goto (-28), 3, 0)] 23 = true := by decide +kernel
theorem s_Mo_cancel_54 : dsq c_Mo_cancel 54 [(.iload_n 2, 1, 0)] 55 = true := by decide +kernel
theorem d_Mo_cancel_1 : decode c_Mo_cancel 1 = .ok (.getfield 75, 3) := by decide +kernel
theorem d_Mo_cancel_4 : decode c_Mo_cancel 4 = .ok (.ifCond .ne 5, 3) := by decide +kernel
theorem d_Mo_cancel_8 : decode c_Mo_cancel 8 = .ok (.ireturn, 1) := by decide +kernel
theorem d_Mo_cancel_10 : decode c_Mo_cancel 10 = .ok (.invokevirtual 109, 3) := by decide +kernel
theorem d_Mo_cancel_17 : decode c_Mo_cancel 17 = .ok (.getfield 126, 3) := by decide +kernel
theorem d_Mo_cancel_24 : decode c_Mo_cancel 24 = .ok (.ifCond .lt 30, 3) := by decide +kernel
theorem d_Mo_cancel_28 : decode c_Mo_cancel 28 = .ok (.getfield 48, 3) := by decide +kernel
theorem d_Mo_cancel_32 : decode c_Mo_cancel 32 = .ok (.iaload, 1) := by decide +kernel
theorem d_Mo_cancel_34 : decode c_Mo_cancel 34 = .ok (.if_icmp .eq 6, 3) := by decide +kernel
theorem d_Mo_cancel_42 : decode c_Mo_cancel 42 = .ok (.invokevirtual 131, 3) := by decide +kernel
theorem d_Mo_cancel_55 : decode c_Mo_cancel 55 = .ok (.ireturn, 1) := by decide +kernel
theorem s_Mo_ask_0 : dsq c_Mo_ask 0 [(.aload_n 0, 1, 0)] 1 = true := by decide +kernel
theorem s_Mo_ask_7 : dsq c_Mo_ask 7 [(.iconst (-1), 1, (-1))] 8 = true := by decide +kernel
theorem s_Mo_ask_9 : dsq c_Mo_ask 9 [(.aload_n 0, 1, 0)] 10 = true := by decide +kernel
theorem s_Mo_ask_13 : dsq c_Mo_ask 13 [(.istore_n 1, 1, 0), (.aload_n 0, 1, 0), (.iload_n 1, 1, 0)] 16 = true := by decide +kernel
theorem s_Mo_ask_19 : dsq c_Mo_ask 19 [(.istore_n 2, 1, 0), (.iload_n 2, 1, 0)] 21 = true := by decide +kernel
theorem s_Mo_ask_24 : dsq c_Mo_ask 24 [(.aload_n 0, 1, 0)] 25 = true := by decide +kernel
theorem s_Mo_ask_28 : dsq c_Mo_ask 28 [(.iload_n 2, 1, 0)] 29 = true := by decide +kernel
theorem s_Mo_ask_30 : dsq c_Mo_ask 30 [(.goto 18, 3, 0), (.istore_n 3, 1, 0), (.iload_n 2, 1, 0)] 50 = true := by decide +kernel
theorem s_Mo_ask_33 : dsq c_Mo_ask 33 [(.sipush 1000, 3, 1000), (.aload_n 0, 1, 0)] 37 = true := by decide +kernel
theorem s_Mo_ask_40 : dsq c_Mo_ask 40 [(.iload_n 1, 1, 0)] 41 = true := by decide +kernel
theorem s_Mo_ask_42 : dsq c_Mo_ask 42 [(.imul, 1, 0), (.aload_n 0, 1, 0)] 44 = true := by decide +kernel
theorem s_Mo_ask_47 : dsq c_Mo_ask 47 [(.iadd, 1, 0), (.istore_n 3, 1, 0), (.iload_n 2, 1, 0)] 50 = true := by decide +kernel
theorem s_Mo_ask_48 : dsq c_Mo_ask 48 [(.istore_n 3, 1, 0), (.iload_n 2, 1, 0)] 50 = true := by decide +kernel
theorem s_Mo_ask_53 : dsq c_Mo_ask 53 [(.aload_n 0, 1, 0)] 54 = true := by decide +kernel
theorem s_Mo_ask_57 : dsq c_Mo_ask 57 [(.iconst 4, 1, 4)] 58 = true := by decide +kernel
theorem s_Mo_ask_61 : dsq c_Mo_ask 61 [(.aload_n 0, 1, 0), (.dup, 1, 0)] 63 = true := by decide +kernel
theorem s_Mo_ask_66 : dsq c_Mo_ask 66 [(.dup_x1, 1, 0), (.iconst 1, 1, 1), (.iadd, 1, 0)] 69 = true := by decide +kernel
theorem s_Mo_ask_72 : dsq c_Mo_ask 72 [(.goto 4, 3, 0), (.istore_n 2, 1, 0), (.iload_n 2, 1, 0), (.istore 4, 2, 0)] 80 = true := by decide +kernel
theorem s_Mo_ask_75 : dsq c_Mo_ask 75 [(.iconst 0, 1, 0), (.istore_n 2, 1, 0), (.iload_n 2, 1, 0), (.istore 4, 2, 0)] 80 = true := by decide +kernel
theorem s_Mo_ask_76 : dsq c_Mo_ask 76 [(.istore_n 2, 1, 0), (.iload_n 2, 1, 0), (.istore 4, 2, 0)] 80 = true := by decide +kernel
theorem s_Mo_ask_77 : dsq c_Mo_ask 77 [(.iload_n 2, 1, 0), (.istore 4, 2, 0)] 80 = true := by decide +kernel
theorem s_Mo_ask_80 : dsq c_Mo_ask 80 [(.iload 4, 2, 0), (.aload_n 0, 1, 0)] 83 = true := by decide +kernel
theorem s_Mo_ask_86 : dsq c_Mo_ask 86 [(.iconst 1, 1, 1), (.isub, 1, 0)] 88 = true := by decide +kernel
theorem s_Mo_ask_91 : dsq c_Mo_ask 91 [(.aload_n 0, 1, 0)] 92 = true := by decide +kernel
theorem s_Mo_ask_95 : dsq c_Mo_ask 95 [(.iload 4, 2, 0), (.aload_n 0, 1, 0)] 98 = true := by decide +kernel
theorem s_Mo_ask_101 : dsq c_Mo_ask 101 [(.iload 4, 2, 0), (.iconst 1, 1, 1), (.iadd, 1, 0)] 105 = true := by decide +kernel
theorem s_Mo_ask_107 : dsq c_Mo_ask 107 [(.aload_n 0, 1, 0)] 108 = true := by decide +kernel
theorem s_Mo_ask_111 : dsq c_Mo_ask 111 [(.iload 4, 2, 0), (.aload_n 0, 1, 0)] 114 = true := by decide +kernel
theorem s_Mo_ask_117 : dsq c_Mo_ask 117 [(.iload 4, 2, 0), (.iconst 1, 1, 1), (.iadd, 1, 0)] 121 = true := by decide +kernel
theorem s_Mo_ask_123 : dsq c_Mo_ask 123 [(.iinc 4 1, 3, 1), (.goto (-46), 3, 0)] 80 = true := by decide +kernel
theorem s_Mo_ask_129 : dsq c_Mo_ask 129 [(.aload_n 0, 1, 0)] 130 = true := by decide +kernel
theorem s_Mo_ask_133 : dsq c_Mo_ask 133 [(.aload_n 0, 1, 0)] 134 = true := by decide +kernel
theorem s_Mo_ask_137 : dsq c_Mo_ask 137 [(.iconst 1, 1, 1), (.isub, 1, 0), (.iload_n 1, 1, 0)] 140 = true := by decide +kernel
theorem s_Mo_ask_141 : dsq c_Mo_ask 141 [(.aload_n 0, 1, 0)] 142 = true := by decide +kernel
theorem s_Mo_ask_145 : dsq c_Mo_ask 145 [(.aload_n 0, 1, 0)] 146 = true := by decide +kernel
theorem s_Mo_ask_149 : dsq c_Mo_ask 149 [(.iconst 1, 1, 1), (.isub, 1, 0), (.iload_n 3, 1, 0)] 152 = true := by decide +kernel
theorem s_Mo_ask_153 : dsq c_Mo_ask 153 [(.iload_n 3, 1, 0)] 154 = true := by decide +kernel
theorem d_Mo_ask_1 : decode c_Mo_ask 1 = .ok (.getfield 75, 3) := by decide +kernel
theorem d_Mo_ask_4 : decode c_Mo_ask 4 = .ok (.ifCond .ne 5, 3) := by decide +kernel
theorem d_Mo_ask_8 : decode c_Mo_ask 8 = .ok (.ireturn, 1) := by decide +kernel
theorem d_Mo_ask_10 : decode c_Mo_ask 10 = .ok (.invokevirtual 109, 3) := by decide +kernel
theorem d_Mo_ask_16 : decode c_Mo_ask 16 = .ok (.invokevirtual 137, 3) := by decide +kernel
theorem d_Mo_ask_21 : decode c_Mo_ask 21 = .ok (.ifCond .lt 12, 3) := by decide +kernel
theorem d_Mo_ask_25 : decode c_Mo_ask 25 = .ok (.getfield 60, 3) := by decide +kernel
theorem d_Mo_ask_29 : decode c_Mo_ask 29 = .ok (.iaload, 1) := by decide +kernel
theorem d_Mo_ask_37 : decode c_Mo_ask 37 = .ok (.getfield 17, 3) := by decide +kernel
theorem d_Mo_ask_41 : decode c_Mo_ask 41 = .ok (.iaload, 1) := by decide +kernel
theorem d_Mo_ask_44 : decode c_Mo_ask 44 = .ok (.getfield 96, 3) := by decide +kernel
theorem d_Mo_ask_50 : decode c_Mo_ask 50 = .ok (.ifCond .ge 27, 3) := by decide +kernel
theorem d_Mo_ask_54 : decode c_Mo_ask 54 = .ok (.getfield 134, 3) := by decide +kernel
theorem d_Mo_ask_58 : decode c_Mo_ask 58 = .ok (.if_icmp .ge 17, 3) := by decide +kernel
theorem d_Mo_ask_63 : decode c_Mo_ask 63 = .ok (.getfield 134, 3) := by decide +kernel
theorem d_Mo_ask_69 : decode c_Mo_ask 69 = .ok (.putfield 134, 3) := by decide +kernel
theorem d_Mo_ask_83 : decode c_Mo_ask 83 = .ok (.getfield 134, 3) := by decide +kernel
theorem d_Mo_ask_88 : decode c_Mo_ask 88 = .ok (.if_icmp .ge 41, 3) := by decide +kernel
theorem d_Mo_ask_92 : decode c_Mo_ask 92 = .ok (.getfield 57, 3) := by decide +kernel
theorem d_Mo_ask_98 : decode c_Mo_ask 98 = .ok (.getfield 57, 3) := by decide +kernel
theorem d_Mo_ask_105 : decode c_Mo_ask 105 = .ok (.iaload, 1) := by decide +kernel
theorem d_Mo_ask_106 : decode c_Mo_ask 106 = .ok (.iastore, 1) := by decide +kernel
theorem d_Mo_ask_108 : decode c_Mo_ask 108 = .ok (.getfield 60, 3) := by decide +kernel
theorem d_Mo_ask_114 : decode c_Mo_ask 114 = .ok (.getfield 60, 3) := by decide +kernel
theorem d_Mo_ask_121 : decode c_Mo_ask 121 = .ok (.iaload, 1) := by decide +kernel
theorem d_Mo_ask_122 : decode c_Mo_ask 122 = .ok (.iastore, 1) := by decide +kernel
theorem d_Mo_ask_130 : decode c_Mo_ask 130 = .ok (.getfield 57, 3) := by decide +kernel
theorem d_Mo_ask_134 : decode c_Mo_ask 134 = .ok (.getfield 134, 3) := by decide +kernel
theorem d_Mo_ask_140 : decode c_Mo_ask 140 = .ok (.iastore, 1) := by decide +kernel
theorem d_Mo_ask_142 : decode c_Mo_ask 142 = .ok (.getfield 60, 3) := by decide +kernel
theorem d_Mo_ask_146 : decode c_Mo_ask 146 = .ok (.getfield 134, 3) := by decide +kernel
theorem d_Mo_ask_152 : decode c_Mo_ask 152 = .ok (.iastore, 1) := by decide +kernel
theorem d_Mo_ask_154 : decode c_Mo_ask 154 = .ok (.ireturn, 1) := by decide +kernel
theorem s_Mo_inCache_0 : dsq c_Mo_inCache 0 [(.iconst 0, 1, 0), (.istore_n 2, 1, 0)] 2 = true := by decide +kernel
theorem s_Mo_inCache_2 : dsq c_Mo_inCache 2 [(.iload_n 2, 1, 0), (.aload_n 0, 1, 0)] 4 = true := by decide +kernel
theorem s_Mo_inCache_10 : dsq c_Mo_inCache 10 [(.aload_n 0, 1, 0)] 11 = true := by decide +kernel
theorem s_Mo_inCache_14 : dsq c_Mo_inCache 14 [(.iload_n 2, 1, 0)] 15 = true := by decide +kernel
theorem s_Mo_inCache_16 : dsq c_Mo_inCache 16 [(.iload_n 1, 1, 0)] 17 = true := by decide +kernel
theorem s_Mo_inCache_20 : dsq c_Mo_inCache 20 [(.iload_n 2, 1, 0)] 21 = true := by decide +kernel
theorem s_Mo_inCache_22 : dsq c_Mo_inCache 22 [(.iinc 2 1, 3, 1), (.goto (-23), 3, 0)] 2 = true := by decide +kernel
theorem s_Mo_inCache_28 : dsq c_Mo_inCache 28 [(.iconst (-1), 1, (-1))] 29 = true := by decide +kernel
theorem d_Mo_inCache_4 : decode c_Mo_inCache 4 = .ok (.getfield 134, 3) := by decide +kernel
theorem d_Mo_inCache_7 : decode c_Mo_inCache 7 = .ok (.if_icmp .ge 21, 3) := by decide +kernel
theorem d_Mo_inCache_11 : decode c_Mo_inCache 11 = .ok (.getfield 57, 3) := by decide +kernel
theorem d_Mo_inCache_15 : decode c_Mo_inCache 15 = .ok (.iaload, 1) := by decide +kernel
theorem d_Mo_inCache_17 : decode c_Mo_inCache 17 = .ok (.if_icmp .ne 5, 3) := by decide +kernel
theorem d_Mo_inCache_21 : decode c_Mo_inCache 21 = .ok (.ireturn, 1) := by decide +kernel
theorem d_Mo_inCache_29 : decode c_Mo_inCache 29 = .ok (.ireturn, 1) := by decide +kernel
theorem s_Mo_known_0 : dsq c_Mo_known 0 [(.aload_n 0, 1, 0)] 1 = true := by decide +kernel
theorem s_Mo_known_7 : dsq c_Mo_known 7 [(.aload_n 0, 1, 0), (.aload_n 0, 1, 0)] 9 = true := by decide +kernel
theorem s_Mo_known_18 : dsq c_Mo_known 18 [(.iconst 1, 1, 1), (.goto 4, 3, 0)] 23 = true := by decide +kernel
theorem s_Mo_known_22 : dsq c_Mo_known 22 [(.iconst 0, 1, 0)] 23 = true := by decide +kernel
theorem d_Mo_known_1 : decode c_Mo_known 1 = .ok (.getfield 75, 3) := by decide +kernel
theorem d_Mo_known_4 : decode c_Mo_known 4 = .ok (.ifCond .le 18, 3) := by decide +kernel
theorem d_Mo_known_9 : decode c_Mo_known 9 = .ok (.invokevirtual 109, 3) := by decide +kernel
theorem d_Mo_known_12 : decode c_Mo_known 12 = .ok (.invokevirtual 137, 3) := by decide +kernel
theorem d_Mo_known_15 : decode c_Mo_known 15 = .ok (.ifCond .lt 7, 3) := by decide +kernel
theorem d_Mo_known_23 : decode c_Mo_known 23 = .ok (.ireturn, 1) := by decide +kernel
theorem s_Mo_watch_0 : dsq c_Mo_watch 0 [(.aload_n 0, 1, 0)] 1 = true := by decide +kernel
theorem s_Mo_watch_7 : dsq c_Mo_watch 7 [(.iload_n 1, 1, 0)] 8 = true := by decide +kernel
theorem s_Mo_watch_14 : dsq c_Mo_watch 14 [(.iconst (-1), 1, (-1))] 15 = true := by decide +kernel
theorem s_Mo_watch_16 : dsq c_Mo_watch 16 [(.aload_n 0, 1, 0)] 17 = true := by decide +kernel
theorem s_Mo_watch_20 : dsq c_Mo_watch 20 [(.istore_n 2, 1, 0), (.iconst 0, 1, 0), (.istore_n 3, 1, 0)] 23 = true := by decide +kernel
theorem s_Mo_watch_23 : dsq c_Mo_watch 23 [(.iload_n 3, 1, 0), (.aload_n 0, 1, 0)] 25 = true := by decide +kernel
theorem s_Mo_watch_28 : dsq c_Mo_watch 28 [(.iload_n 2, 1, 0)] 29 = true := by decide +kernel
theorem s_Mo_watch_33 : dsq c_Mo_watch 33 [(.aload_n 0, 1, 0)] 34 = true := by decide +kernel
theorem s_Mo_watch_37 : dsq c_Mo_watch 37 [(.bipush 16, 2, 16), (.iload_n 2, 1, 0), (.imul, 1, 0), (.iload_n 3, 1, 0), (.iadd, 1, 0)] 43 = true := by decide +kernel
theorem s_Mo_watch_44 : dsq c_Mo_watch 44 [(.iload_n 1, 1, 0)] 45 = true := by decide +kernel
theorem s_Mo_watch_48 : dsq c_Mo_watch 48 [(.iinc 3 1, 3, 1), (.goto (-28), 3, 0)] 23 = true := by decide +kernel
theorem s_Mo_watch_54 : dsq c_Mo_watch 54 [(.iload_n 3, 1, 0), (.aload_n 0, 1, 0)] 56 = true := by decide +kernel
theorem s_Mo_watch_59 : dsq c_Mo_watch 59 [(.iload_n 2, 1, 0)] 60 = true := by decide +kernel
theorem s_Mo_watch_64 : dsq c_Mo_watch 64 [(.aload_n 0, 1, 0)] 65 = true := by decide +kernel
theorem s_Mo_watch_68 : dsq c_Mo_watch 68 [(.bipush 16, 2, 16), (.iload_n 2, 1, 0), (.imul, 1, 0), (.aload_n 0, 1, 0)] 73 = true := by decide +kernel
theorem s_Mo_watch_76 : dsq c_Mo_watch 76 [(.iload_n 2, 1, 0), (.dup2, 1, 0)] 78 = true := by decide +kernel
theorem s_Mo_watch_79 : dsq c_Mo_watch 79 [(.dup_x2, 1, 0), (.iconst 1, 1, 1), (.iadd, 1, 0)] 82 = true := by decide +kernel
theorem s_Mo_watch_83 : dsq c_Mo_watch 83 [(.iadd, 1, 0), (.iload_n 1, 1, 0)] 85 = true := by decide +kernel
theorem s_Mo_watch_86 : dsq c_Mo_watch 86 [(.aload_n 0, 1, 0)] 87 = true := by decide +kernel
theorem s_Mo_watch_90 : dsq c_Mo_watch 90 [(.iload_n 2, 1, 0)] 91 = true := by decide +kernel
theorem s_Mo_watch_93 : dsq c_Mo_watch 93 [(.aload_n 0, 1, 0)] 94 = true := by decide +kernel
theorem s_Mo_watch_97 : dsq c_Mo_watch 97 [(.iload_n 2, 1, 0), (.dup2, 1, 0)] 99 = true := by decide +kernel
theorem s_Mo_watch_100 : dsq c_Mo_watch 100 [(.iconst 1, 1, 1), (.isub, 1, 0)] 102 = true := by decide +kernel
theorem s_Mo_watch_103 : dsq c_Mo_watch 103 [(.bipush 16, 2, 16), (.iload_n 2, 1, 0), (.imul, 1, 0), (.iload_n 3, 1, 0), (.iadd, 1, 0), (.istore 4, 2, 0)] 111 = true := by decide +kernel
theorem s_Mo_watch_111 : dsq c_Mo_watch 111 [(.iload 4, 2, 0), (.bipush 16, 2, 16), (.iload_n 2, 1, 0), (.imul, 1, 0), (.aload_n 0, 1, 0)] 118 = true := by decide +kernel
theorem s_Mo_watch_121 : dsq c_Mo_watch 121 [(.iload_n 2, 1, 0)] 122 = true := by decide +kernel
theorem s_Mo_watch_123 : dsq c_Mo_watch 123 [(.iadd, 1, 0)] 124 = true := by decide +kernel
theorem s_Mo_watch_127 : dsq c_Mo_watch 127 [(.aload_n 0, 1, 0)] 128 = true := by decide +kernel
theorem s_Mo_watch_131 : dsq c_Mo_watch 131 [(.iload 4, 2, 0), (.aload_n 0, 1, 0)] 134 = true := by decide +kernel
theorem s_Mo_watch_137 : dsq c_Mo_watch 137 [(.iload 4, 2, 0), (.iconst 1, 1, 1), (.iadd, 1, 0)] 141 = true := by decide +kernel
theorem s_Mo_watch_143 : dsq c_Mo_watch 143 [(.iinc 4 1, 3, 1), (.goto (-35), 3, 0)] 111 = true := by decide +kernel
theorem s_Mo_watch_149 : dsq c_Mo_watch 149 [(.aload_n 0, 1, 0)] 150 = true := by decide +kernel
theorem s_Mo_watch_153 : dsq c_Mo_watch 153 [(.iload_n 2, 1, 0)] 154 = true := by decide +kernel
theorem d_Mo_watch_1 : decode c_Mo_watch 1 = .ok (.getfield 75, 3) := by decide +kernel
theorem d_Mo_watch_4 : decode c_Mo_watch 4 = .ok (.ifCond .eq 10, 3) := by decide +kernel
theorem d_Mo_watch_8 : decode c_Mo_watch 8 = .ok (.invokestatic 105, 3) := by decide +kernel
theorem d_Mo_watch_11 : decode c_Mo_watch 11 = .ok (.ifCond .ne 5, 3) := by decide +kernel
theorem d_Mo_watch_15 : decode c_Mo_watch 15 = .ok (.ireturn, 1) := by decide +kernel
theorem d_Mo_watch_17 : decode c_Mo_watch 17 = .ok (.invokevirtual 109, 3) := by decide +kernel
theorem d_Mo_watch_25 : decode c_Mo_watch 25 = .ok (.getfield 20, 3) := by decide +kernel
theorem d_Mo_watch_29 : decode c_Mo_watch 29 = .ok (.iaload, 1) := by decide +kernel
theorem d_Mo_watch_30 : decode c_Mo_watch 30 = .ok (.if_icmp .ge 24, 3) := by decide +kernel
theorem d_Mo_watch_34 : decode c_Mo_watch 34 = .ok (.getfield 24, 3) := by decide +kernel
theorem d_Mo_watch_43 : decode c_Mo_watch 43 = .ok (.iaload, 1) := by decide +kernel
theorem d_Mo_watch_45 : decode c_Mo_watch 45 = .ok (.if_icmp .eq 9, 3) := by decide +kernel
theorem d_Mo_watch_56 : decode c_Mo_watch 56 = .ok (.getfield 20, 3) := by decide +kernel
theorem d_Mo_watch_60 : decode c_Mo_watch 60 = .ok (.iaload, 1) := by decide +kernel
theorem d_Mo_watch_61 : decode c_Mo_watch 61 = .ok (.if_icmp .ne 32, 3) := by decide +kernel
theorem d_Mo_watch_65 : decode c_Mo_watch 65 = .ok (.getfield 24, 3) := by decide +kernel
theorem d_Mo_watch_73 : decode c_Mo_watch 73 = .ok (.getfield 20, 3) := by decide +kernel
theorem d_Mo_watch_78 : decode c_Mo_watch 78 = .ok (.iaload, 1) := by decide +kernel
theorem d_Mo_watch_82 : decode c_Mo_watch 82 = .ok (.iastore, 1) := by decide +kernel
theorem d_Mo_watch_85 : decode c_Mo_watch 85 = .ok (.iastore, 1) := by decide +kernel
theorem d_Mo_watch_87 : decode c_Mo_watch 87 = .ok (.getfield 20, 3) := by decide +kernel
theorem d_Mo_watch_91 : decode c_Mo_watch 91 = .ok (.iaload, 1) := by decide +kernel
theorem d_Mo_watch_92 : decode c_Mo_watch 92 = .ok (.ireturn, 1) := by decide +kernel
theorem d_Mo_watch_94 : decode c_Mo_watch 94 = .ok (.getfield 20, 3) := by decide +kernel
theorem d_Mo_watch_99 : decode c_Mo_watch 99 = .ok (.iaload, 1) := by decide +kernel
theorem d_Mo_watch_102 : decode c_Mo_watch 102 = .ok (.iastore, 1) := by decide +kernel
theorem d_Mo_watch_118 : decode c_Mo_watch 118 = .ok (.getfield 20, 3) := by decide +kernel
theorem d_Mo_watch_122 : decode c_Mo_watch 122 = .ok (.iaload, 1) := by decide +kernel
theorem d_Mo_watch_124 : decode c_Mo_watch 124 = .ok (.if_icmp .ge 25, 3) := by decide +kernel
theorem d_Mo_watch_128 : decode c_Mo_watch 128 = .ok (.getfield 24, 3) := by decide +kernel
theorem d_Mo_watch_134 : decode c_Mo_watch 134 = .ok (.getfield 24, 3) := by decide +kernel
theorem d_Mo_watch_141 : decode c_Mo_watch 141 = .ok (.iaload, 1) := by decide +kernel
theorem d_Mo_watch_142 : decode c_Mo_watch 142 = .ok (.iastore, 1) := by decide +kernel
theorem d_Mo_watch_150 : decode c_Mo_watch 150 = .ok (.getfield 20, 3) := by decide +kernel
theorem d_Mo_watch_154 : decode c_Mo_watch 154 = .ok (.iaload, 1) := by decide +kernel
theorem d_Mo_watch_155 : decode c_Mo_watch 155 = .ok (.ireturn, 1) := by decide +kernel
theorem s_Mo_note_0 : dsq c_Mo_note 0 [(.iload_n 1, 1, 0)] 1 = true := by decide +kernel
theorem s_Mo_note_7 : dsq c_Mo_note 7 [(.iconst (-1), 1, (-1))] 8 = true := by decide +kernel
theorem s_Mo_note_9 : dsq c_Mo_note 9 [(.aload_n 0, 1, 0)] 10 = true := by decide +kernel
theorem s_Mo_note_13 : dsq c_Mo_note 13 [(.iload_n 1, 1, 0)] 14 = true := by decide +kernel
theorem s_Mo_note_18 : dsq c_Mo_note 18 [(.bipush (-2), 2, (-2))] 20 = true := by decide +kernel
theorem s_Mo_note_21 : dsq c_Mo_note 21 [(.aload_n 0, 1, 0)] 22 = true := by decide +kernel
theorem s_Mo_note_25 : dsq c_Mo_note 25 [(.bipush 8, 2, 8), (.iload_n 1, 1, 0), (.imul, 1, 0)] 29 = true := by decide +kernel
theorem s_Mo_note_30 : dsq c_Mo_note 30 [(.istore_n 2, 1, 0), (.aload_n 0, 1, 0), (.aload_n 0, 1, 0)] 33 = true := by decide +kernel
theorem s_Mo_note_36 : dsq c_Mo_note 36 [(.bipush 8, 2, 8), (.iload_n 1, 1, 0), (.imul, 1, 0)] 40 = true := by decide +kernel
theorem s_Mo_note_44 : dsq c_Mo_note 44 [(.aload_n 0, 1, 0), (.iload_n 1, 1, 0)] 46 = true := by decide +kernel
theorem s_Mo_note_49 : dsq c_Mo_note 49 [(.iload_n 2, 1, 0)] 50 = true := by decide +kernel
theorem d_Mo_note_1 : decode c_Mo_note 1 = .ok (.invokestatic 105, 3) := by decide +kernel
theorem d_Mo_note_4 : decode c_Mo_note 4 = .ok (.ifCond .ne 5, 3) := by decide +kernel
theorem d_Mo_note_8 : decode c_Mo_note 8 = .ok (.ireturn, 1) := by decide +kernel
theorem d_Mo_note_10 : decode c_Mo_note 10 = .ok (.getfield 69, 3) := by decide +kernel
theorem d_Mo_note_14 : decode c_Mo_note 14 = .ok (.iaload, 1) := by decide +kernel
theorem d_Mo_note_15 : decode c_Mo_note 15 = .ok (.ifCond .ne 6, 3) := by decide +kernel
theorem d_Mo_note_20 : decode c_Mo_note 20 = .ok (.ireturn, 1) := by decide +kernel
theorem d_Mo_note_22 : decode c_Mo_note 22 = .ok (.getfield 66, 3) := by decide +kernel
theorem d_Mo_note_29 : decode c_Mo_note 29 = .ok (.iaload, 1) := by decide +kernel
theorem d_Mo_note_33 : decode c_Mo_note 33 = .ok (.getfield 63, 3) := by decide +kernel
theorem d_Mo_note_40 : decode c_Mo_note 40 = .ok (.iaload, 1) := by decide +kernel
theorem d_Mo_note_41 : decode c_Mo_note 41 = .ok (.invokevirtual 123, 3) := by decide +kernel
theorem d_Mo_note_46 : decode c_Mo_note 46 = .ok (.invokevirtual 88, 3) := by decide +kernel
theorem d_Mo_note_50 : decode c_Mo_note 50 = .ok (.ireturn, 1) := by decide +kernel
theorem s_Mo_waits_0 : dsq c_Mo_waits 0 [(.iconst 0, 1, 0), (.istore_n 3, 1, 0), (.iconst 0, 1, 0), (.istore 4, 2, 0)] 5 = true := by decide +kernel
theorem s_Mo_waits_5 : dsq c_Mo_waits 5 [(.iload 4, 2, 0), (.aload_n 0, 1, 0)] 8 = true := by decide +kernel
theorem s_Mo_waits_14 : dsq c_Mo_waits 14 [(.aload_n 0, 1, 0)] 15 = true := by decide +kernel
theorem s_Mo_waits_18 : dsq c_Mo_waits 18 [(.iload 4, 2, 0)] 20 = true := by decide +kernel
theorem s_Mo_waits_21 : dsq c_Mo_waits 21 [(.iload_n 1, 1, 0)] 22 = true := by decide +kernel
theorem s_Mo_waits_25 : dsq c_Mo_waits 25 [(.aload_n 0, 1, 0)] 26 = true := by decide +kernel
theorem s_Mo_waits_29 : dsq c_Mo_waits 29 [(.iload 4, 2, 0)] 31 = true := by decide +kernel
theorem s_Mo_waits_32 : dsq c_Mo_waits 32 [(.iload_n 2, 1, 0)] 33 = true := by decide +kernel
theorem s_Mo_waits_36 : dsq c_Mo_waits 36 [(.iinc 3 1, 3, 1), (.iinc 4 1, 3, 1), (.goto (-37), 3, 0)] 5 = true := by decide +kernel
theorem s_Mo_waits_39 : dsq c_Mo_waits 39 [(.iinc 4 1, 3, 1), (.goto (-37), 3, 0)] 5 = true := by decide +kernel
theorem s_Mo_waits_45 : dsq c_Mo_waits 45 [(.iload_n 3, 1, 0)] 46 = true := by decide +kernel
theorem d_Mo_waits_8 : decode c_Mo_waits 8 = .ok (.getfield 99, 3) := by decide +kernel
theorem d_Mo_waits_11 : decode c_Mo_waits 11 = .ok (.if_icmp .ge 34, 3) := by decide +kernel
theorem d_Mo_waits_15 : decode c_Mo_waits 15 = .ok (.getfield 45, 3) := by decide +kernel
theorem d_Mo_waits_20 : decode c_Mo_waits 20 = .ok (.iaload, 1) := by decide +kernel
theorem d_Mo_waits_22 : decode c_Mo_waits 22 = .ok (.if_icmp .lt 17, 3) := by decide +kernel
theorem d_Mo_waits_26 : decode c_Mo_waits 26 = .ok (.getfield 45, 3) := by decide +kernel
theorem d_Mo_waits_31 : decode c_Mo_waits 31 = .ok (.iaload, 1) := by decide +kernel
theorem d_Mo_waits_33 : decode c_Mo_waits 33 = .ok (.if_icmp .ge 6, 3) := by decide +kernel
theorem d_Mo_waits_46 : decode c_Mo_waits 46 = .ok (.ireturn, 1) := by decide +kernel
theorem s_Mo_waited_0 : dsq c_Mo_waited 0 [(.bipush (-2), 2, (-2)), (.istore_n 2, 1, 0), (.iconst 0, 1, 0), (.istore_n 3, 1, 0)] 5 = true := by decide +kernel
theorem s_Mo_waited_5 : dsq c_Mo_waited 5 [(.iload_n 3, 1, 0), (.aload_n 0, 1, 0)] 7 = true := by decide +kernel
theorem s_Mo_waited_13 : dsq c_Mo_waited 13 [(.aload_n 0, 1, 0)] 14 = true := by decide +kernel
theorem s_Mo_waited_17 : dsq c_Mo_waited 17 [(.iload_n 3, 1, 0)] 18 = true := by decide +kernel
theorem s_Mo_waited_19 : dsq c_Mo_waited 19 [(.iload_n 1, 1, 0)] 20 = true := by decide +kernel
theorem s_Mo_waited_23 : dsq c_Mo_waited 23 [(.aload_n 0, 1, 0)] 24 = true := by decide +kernel
theorem s_Mo_waited_27 : dsq c_Mo_waited 27 [(.iload_n 3, 1, 0)] 28 = true := by decide +kernel
theorem s_Mo_waited_29 : dsq c_Mo_waited 29 [(.iload_n 2, 1, 0)] 30 = true := by decide +kernel
theorem s_Mo_waited_33 : dsq c_Mo_waited 33 [(.aload_n 0, 1, 0)] 34 = true := by decide +kernel
theorem s_Mo_waited_37 : dsq c_Mo_waited 37 [(.iload_n 3, 1, 0)] 38 = true := by decide +kernel
theorem s_Mo_waited_39 : dsq c_Mo_waited 39 [(.istore_n 2, 1, 0), (.iinc 3 1, 3, 1), (.goto (-38), 3, 0)] 5 = true := by decide +kernel
theorem s_Mo_waited_40 : dsq c_Mo_waited 40 [(.iinc 3 1, 3, 1), (.goto (-38), 3, 0)] 5 = true := by decide +kernel
theorem s_Mo_waited_46 : dsq c_Mo_waited 46 [(.iload_n 2, 1, 0)] 47 = true := by decide +kernel
theorem d_Mo_waited_7 : decode c_Mo_waited 7 = .ok (.getfield 99, 3) := by decide +kernel
theorem d_Mo_waited_10 : decode c_Mo_waited 10 = .ok (.if_icmp .ge 36, 3) := by decide +kernel
theorem d_Mo_waited_14 : decode c_Mo_waited 14 = .ok (.getfield 45, 3) := by decide +kernel
theorem d_Mo_waited_18 : decode c_Mo_waited 18 = .ok (.iaload, 1) := by decide +kernel
theorem d_Mo_waited_20 : decode c_Mo_waited 20 = .ok (.if_icmp .gt 20, 3) := by decide +kernel
theorem d_Mo_waited_24 : decode c_Mo_waited 24 = .ok (.getfield 45, 3) := by decide +kernel
theorem d_Mo_waited_28 : decode c_Mo_waited 28 = .ok (.iaload, 1) := by decide +kernel
theorem d_Mo_waited_30 : decode c_Mo_waited 30 = .ok (.if_icmp .le 10, 3) := by decide +kernel
theorem d_Mo_waited_34 : decode c_Mo_waited 34 = .ok (.getfield 45, 3) := by decide +kernel
theorem d_Mo_waited_38 : decode c_Mo_waited 38 = .ok (.iaload, 1) := by decide +kernel
theorem d_Mo_waited_47 : decode c_Mo_waited 47 = .ok (.ireturn, 1) := by decide +kernel
theorem s_Mo_letter_0 : dsq c_Mo_letter 0 [(.iload_n 1, 1, 0)] 1 = true := by decide +kernel
theorem s_Mo_letter_4 : dsq c_Mo_letter 4 [(.iload_n 1, 1, 0), (.aload_n 0, 1, 0)] 6 = true := by decide +kernel
theorem s_Mo_letter_12 : dsq c_Mo_letter 12 [(.bipush (-2), 2, (-2)), (.goto 9, 3, 0)] 23 = true := by decide +kernel
theorem s_Mo_letter_17 : dsq c_Mo_letter 17 [(.aload_n 0, 1, 0)] 18 = true := by decide +kernel
theorem s_Mo_letter_21 : dsq c_Mo_letter 21 [(.iload_n 1, 1, 0)] 22 = true := by decide +kernel
theorem d_Mo_letter_1 : decode c_Mo_letter 1 = .ok (.ifCond .lt 11, 3) := by decide +kernel
theorem d_Mo_letter_6 : decode c_Mo_letter 6 = .ok (.getfield 75, 3) := by decide +kernel
theorem d_Mo_letter_9 : decode c_Mo_letter 9 = .ok (.if_icmp .lt 8, 3) := by decide +kernel
theorem d_Mo_letter_18 : decode c_Mo_letter 18 = .ok (.getfield 7, 3) := by decide +kernel
theorem d_Mo_letter_22 : decode c_Mo_letter 22 = .ok (.iaload, 1) := by decide +kernel
theorem d_Mo_letter_23 : decode c_Mo_letter 23 = .ok (.ireturn, 1) := by decide +kernel
theorem s_Mo_count_0 : dsq c_Mo_count 0 [(.iconst 0, 1, 0), (.istore_n 2, 1, 0), (.iload_n 1, 1, 0)] 3 = true := by decide +kernel
theorem s_Mo_count_48 : dsq c_Mo_count 48 [(.aload_n 0, 1, 0)] 49 = true := by decide +kernel
theorem s_Mo_count_53 : dsq c_Mo_count 53 [(.iconst 0, 1, 0), (.istore_n 3, 1, 0)] 55 = true := by decide +kernel
theorem s_Mo_count_55 : dsq c_Mo_count 55 [(.iload_n 3, 1, 0), (.aload_n 0, 1, 0)] 57 = true := by decide +kernel
theorem s_Mo_count_63 : dsq c_Mo_count 63 [(.aload_n 0, 1, 0)] 64 = true := by decide +kernel
theorem s_Mo_count_67 : dsq c_Mo_count 67 [(.iload_n 3, 1, 0)] 68 = true := by decide +kernel
theorem s_Mo_count_72 : dsq c_Mo_count 72 [(.iinc 2 1, 3, 1), (.iinc 3 1, 3, 1), (.goto (-23), 3, 0)] 55 = true := by decide +kernel
theorem s_Mo_count_75 : dsq c_Mo_count 75 [(.iinc 3 1, 3, 1), (.goto (-23), 3, 0)] 55 = true := by decide +kernel
theorem s_Mo_count_81 : dsq c_Mo_count 81 [(.iload_n 2, 1, 0)] 82 = true := by decide +kernel
theorem s_Mo_count_83 : dsq c_Mo_count 83 [(.iconst 0, 1, 0), (.istore_n 3, 1, 0)] 85 = true := by decide +kernel
theorem s_Mo_count_85 : dsq c_Mo_count 85 [(.iload_n 3, 1, 0), (.aload_n 0, 1, 0)] 87 = true := by decide +kernel
theorem s_Mo_count_93 : dsq c_Mo_count 93 [(.iload_n 2, 1, 0), (.aload_n 0, 1, 0)] 95 = true := by decide +kernel
theorem s_Mo_count_98 : dsq c_Mo_count 98 [(.iload_n 3, 1, 0)] 99 = true := by decide +kernel
theorem s_Mo_count_100 : dsq c_Mo_count 100 [(.iadd, 1, 0), (.istore_n 2, 1, 0), (.iinc 3 1, 3, 1), (.goto (-20), 3, 0)] 85 = true := by decide +kernel
theorem s_Mo_count_108 : dsq c_Mo_count 108 [(.iload_n 2, 1, 0)] 109 = true := by decide +kernel
theorem s_Mo_count_110 : dsq c_Mo_count 110 [(.aload_n 0, 1, 0)] 111 = true := by decide +kernel
theorem s_Mo_count_115 : dsq c_Mo_count 115 [(.aload_n 0, 1, 0)] 116 = true := by decide +kernel
theorem s_Mo_count_120 : dsq c_Mo_count 120 [(.iconst 0, 1, 0), (.istore_n 3, 1, 0)] 122 = true := by decide +kernel
theorem s_Mo_count_122 : dsq c_Mo_count 122 [(.iload_n 3, 1, 0), (.aload_n 0, 1, 0)] 124 = true := by decide +kernel
theorem s_Mo_count_130 : dsq c_Mo_count 130 [(.aload_n 0, 1, 0)] 131 = true := by decide +kernel
theorem s_Mo_count_134 : dsq c_Mo_count 134 [(.iload_n 3, 1, 0)] 135 = true := by decide +kernel
theorem s_Mo_count_139 : dsq c_Mo_count 139 [(.iinc 2 1, 3, 1), (.iinc 3 1, 3, 1), (.goto (-23), 3, 0)] 122 = true := by decide +kernel
theorem s_Mo_count_142 : dsq c_Mo_count 142 [(.iinc 3 1, 3, 1), (.goto (-23), 3, 0)] 122 = true := by decide +kernel
theorem s_Mo_count_148 : dsq c_Mo_count 148 [(.iload_n 2, 1, 0)] 149 = true := by decide +kernel
theorem s_Mo_count_150 : dsq c_Mo_count 150 [(.aload_n 0, 1, 0)] 151 = true := by decide +kernel
theorem s_Mo_count_157 : dsq c_Mo_count 157 [(.iconst 0, 1, 0), (.goto 12, 3, 0)] 170 = true := by decide +kernel
theorem s_Mo_count_161 : dsq c_Mo_count 161 [(.aload_n 0, 1, 0)] 162 = true := by decide +kernel
theorem s_Mo_count_165 : dsq c_Mo_count 165 [(.aload_n 0, 1, 0)] 166 = true := by decide +kernel
theorem s_Mo_count_171 : dsq c_Mo_count 171 [(.iconst 0, 1, 0), (.istore_n 3, 1, 0)] 173 = true := by decide +kernel
theorem s_Mo_count_173 : dsq c_Mo_count 173 [(.iload_n 3, 1, 0), (.bipush 16, 2, 16)] 176 = true := by decide +kernel
theorem s_Mo_count_179 : dsq c_Mo_count 179 [(.iload_n 2, 1, 0), (.aload_n 0, 1, 0)] 181 = true := by decide +kernel
theorem s_Mo_count_184 : dsq c_Mo_count 184 [(.iload_n 3, 1, 0)] 185 = true := by decide +kernel
theorem s_Mo_count_186 : dsq c_Mo_count 186 [(.iadd, 1, 0), (.istore_n 2, 1, 0), (.iinc 3 1, 3, 1), (.goto (-18), 3, 0)] 173 = true := by decide +kernel
theorem s_Mo_count_194 : dsq c_Mo_count 194 [(.iload_n 2, 1, 0)] 195 = true := by decide +kernel
theorem s_Mo_count_196 : dsq c_Mo_count 196 [(.iconst (-1), 1, (-1))] 197 = true := by decide +kernel
theorem d_Mo_count_3 : decode c_Mo_count 3 = .ok (.tableswitch 193 0 7 #[45, 50, 80, 107, 112, 117, 147, 168], 45) := by decide +kernel
theorem d_Mo_count_49 : decode c_Mo_count 49 = .ok (.getfield 96, 3) := by decide +kernel
theorem d_Mo_count_52 : decode c_Mo_count 52 = .ok (.ireturn, 1) := by decide +kernel
theorem d_Mo_count_57 : decode c_Mo_count 57 = .ok (.getfield 85, 3) := by decide +kernel
theorem d_Mo_count_60 : decode c_Mo_count 60 = .ok (.if_icmp .ge 21, 3) := by decide +kernel
theorem d_Mo_count_64 : decode c_Mo_count 64 = .ok (.getfield 27, 3) := by decide +kernel
theorem d_Mo_count_68 : decode c_Mo_count 68 = .ok (.iaload, 1) := by decide +kernel
theorem d_Mo_count_69 : decode c_Mo_count 69 = .ok (.ifCond .lt 6, 3) := by decide +kernel
theorem d_Mo_count_82 : decode c_Mo_count 82 = .ok (.ireturn, 1) := by decide +kernel
theorem d_Mo_count_87 : decode c_Mo_count 87 = .ok (.getfield 85, 3) := by decide +kernel
theorem d_Mo_count_90 : decode c_Mo_count 90 = .ok (.if_icmp .ge 18, 3) := by decide +kernel
theorem d_Mo_count_95 : decode c_Mo_count 95 = .ok (.getfield 33, 3) := by decide +kernel
theorem d_Mo_count_99 : decode c_Mo_count 99 = .ok (.iaload, 1) := by decide +kernel
theorem d_Mo_count_109 : decode c_Mo_count 109 = .ok (.ireturn, 1) := by decide +kernel
theorem d_Mo_count_111 : decode c_Mo_count 111 = .ok (.getfield 126, 3) := by decide +kernel
theorem d_Mo_count_114 : decode c_Mo_count 114 = .ok (.ireturn, 1) := by decide +kernel
theorem d_Mo_count_116 : decode c_Mo_count 116 = .ok (.getfield 134, 3) := by decide +kernel
theorem d_Mo_count_119 : decode c_Mo_count 119 = .ok (.ireturn, 1) := by decide +kernel
theorem d_Mo_count_124 : decode c_Mo_count 124 = .ok (.getfield 85, 3) := by decide +kernel
theorem d_Mo_count_127 : decode c_Mo_count 127 = .ok (.if_icmp .ge 21, 3) := by decide +kernel
theorem d_Mo_count_131 : decode c_Mo_count 131 = .ok (.getfield 20, 3) := by decide +kernel
theorem d_Mo_count_135 : decode c_Mo_count 135 = .ok (.iaload, 1) := by decide +kernel
theorem d_Mo_count_136 : decode c_Mo_count 136 = .ok (.ifCond .le 6, 3) := by decide +kernel
theorem d_Mo_count_149 : decode c_Mo_count 149 = .ok (.ireturn, 1) := by decide +kernel
theorem d_Mo_count_151 : decode c_Mo_count 151 = .ok (.getfield 75, 3) := by decide +kernel
theorem d_Mo_count_154 : decode c_Mo_count 154 = .ok (.ifCond .ne 7, 3) := by decide +kernel
theorem d_Mo_count_162 : decode c_Mo_count 162 = .ok (.getfield 17, 3) := by decide +kernel
theorem d_Mo_count_166 : decode c_Mo_count 166 = .ok (.invokevirtual 109, 3) := by decide +kernel
theorem d_Mo_count_169 : decode c_Mo_count 169 = .ok (.iaload, 1) := by decide +kernel
theorem d_Mo_count_170 : decode c_Mo_count 170 = .ok (.ireturn, 1) := by decide +kernel
theorem d_Mo_count_176 : decode c_Mo_count 176 = .ok (.if_icmp .ge 18, 3) := by decide +kernel
theorem d_Mo_count_181 : decode c_Mo_count 181 = .ok (.getfield 69, 3) := by decide +kernel
theorem d_Mo_count_185 : decode c_Mo_count 185 = .ok (.iaload, 1) := by decide +kernel
theorem d_Mo_count_195 : decode c_Mo_count 195 = .ok (.ireturn, 1) := by decide +kernel
theorem d_Mo_count_197 : decode c_Mo_count 197 = .ok (.ireturn, 1) := by decide +kernel
