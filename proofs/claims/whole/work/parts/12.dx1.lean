theorem dX1_init_0 : decode cX1_init 0 = .ok (.aload_n 0, 1) := by decide +kernel
theorem dX1_init_1 : decode cX1_init 1 = .ok (.invokespecial 1, 3) := by decide +kernel
theorem dX1_init_4 : decode cX1_init 4 = .ok (.aload_n 0, 1) := by decide +kernel
theorem dX1_init_5 : decode cX1_init 5 = .ok (.sipush 16384, 3) := by decide +kernel
theorem dX1_init_8 : decode cX1_init 8 = .ok (.newarray .boolean, 2) := by decide +kernel
theorem dX1_init_10 : decode cX1_init 10 = .ok (.putfield 9, 3) := by decide +kernel
theorem dX1_init_13 : decode cX1_init 13 = .ok (.aload_n 0, 1) := by decide +kernel
theorem dX1_init_14 : decode cX1_init 14 = .ok (.sipush 512, 3) := by decide +kernel
theorem dX1_init_17 : decode cX1_init 17 = .ok (.newarray .boolean, 2) := by decide +kernel
theorem dX1_init_19 : decode cX1_init 19 = .ok (.putfield 13, 3) := by decide +kernel
theorem dX1_init_22 : decode cX1_init 22 = .ok (.aload_n 0, 1) := by decide +kernel
theorem dX1_init_23 : decode cX1_init 23 = .ok (.iload_n 1, 1) := by decide +kernel
theorem dX1_init_24 : decode cX1_init 24 = .ok (.iconst 1, 1) := by decide +kernel
theorem dX1_init_25 : decode cX1_init 25 = .ok (.if_icmp .ge 7, 3) := by decide +kernel
theorem dX1_init_28 : decode cX1_init 28 = .ok (.iconst 1, 1) := by decide +kernel
theorem dX1_init_29 : decode cX1_init 29 = .ok (.goto 15, 3) := by decide +kernel
theorem dX1_init_32 : decode cX1_init 32 = .ok (.iload_n 1, 1) := by decide +kernel
theorem dX1_init_33 : decode cX1_init 33 = .ok (.bipush 9, 2) := by decide +kernel
theorem dX1_init_35 : decode cX1_init 35 = .ok (.if_icmp .le 8, 3) := by decide +kernel
theorem dX1_init_38 : decode cX1_init 38 = .ok (.bipush 9, 2) := by decide +kernel
theorem dX1_init_40 : decode cX1_init 40 = .ok (.goto 4, 3) := by decide +kernel
theorem dX1_init_43 : decode cX1_init 43 = .ok (.iload_n 1, 1) := by decide +kernel
theorem dX1_init_44 : decode cX1_init 44 = .ok (.putfield 16, 3) := by decide +kernel
theorem dX1_init_47 : decode cX1_init 47 = .ok (.aload_n 0, 1) := by decide +kernel
theorem dX1_init_48 : decode cX1_init 48 = .ok (.iconst 1, 1) := by decide +kernel
theorem dX1_init_49 : decode cX1_init 49 = .ok (.aload_n 0, 1) := by decide +kernel
theorem dX1_init_50 : decode cX1_init 50 = .ok (.getfield 16, 3) := by decide +kernel
theorem dX1_init_53 : decode cX1_init 53 = .ok (.ishl, 1) := by decide +kernel
theorem dX1_init_54 : decode cX1_init 54 = .ok (.putfield 20, 3) := by decide +kernel
theorem dX1_init_57 : decode cX1_init 57 = .ok (.return_, 1) := by decide +kernel
theorem dX1_is_0 : decode cX1_is 0 = .ok (.iload_n 0, 1) := by decide +kernel
theorem dX1_is_1 : decode cX1_is 1 = .ok (.ifCond .lt 13, 3) := by decide +kernel
theorem dX1_is_4 : decode cX1_is 4 = .ok (.iload_n 0, 1) := by decide +kernel
theorem dX1_is_5 : decode cX1_is 5 = .ok (.bipush 32, 2) := by decide +kernel
theorem dX1_is_7 : decode cX1_is 7 = .ok (.if_icmp .ge 7, 3) := by decide +kernel
theorem dX1_is_10 : decode cX1_is 10 = .ok (.iconst 1, 1) := by decide +kernel
theorem dX1_is_11 : decode cX1_is 11 = .ok (.goto 4, 3) := by decide +kernel
theorem dX1_is_14 : decode cX1_is 14 = .ok (.iconst 0, 1) := by decide +kernel
theorem dX1_is_15 : decode cX1_is 15 = .ok (.ireturn, 1) := by decide +kernel
theorem dX1_var_0 : decode cX1_var 0 = .ok (.iload_n 1, 1) := by decide +kernel
theorem dX1_var_1 : decode cX1_var 1 = .ok (.ifCond .lt 15, 3) := by decide +kernel
theorem dX1_var_4 : decode cX1_var 4 = .ok (.iload_n 1, 1) := by decide +kernel
theorem dX1_var_5 : decode cX1_var 5 = .ok (.aload_n 0, 1) := by decide +kernel
theorem dX1_var_6 : decode cX1_var 6 = .ok (.getfield 16, 3) := by decide +kernel
theorem dX1_var_9 : decode cX1_var 9 = .ok (.if_icmp .ge 7, 3) := by decide +kernel
theorem dX1_var_12 : decode cX1_var 12 = .ok (.iconst 1, 1) := by decide +kernel
theorem dX1_var_13 : decode cX1_var 13 = .ok (.goto 4, 3) := by decide +kernel
theorem dX1_var_16 : decode cX1_var 16 = .ok (.iconst 0, 1) := by decide +kernel
theorem dX1_var_17 : decode cX1_var 17 = .ok (.ireturn, 1) := by decide +kernel
theorem dX1_bit_0 : decode cX1_bit 0 = .ok (.iconst 1, 1) := by decide +kernel
theorem dX1_bit_1 : decode cX1_bit 1 = .ok (.aload_n 0, 1) := by decide +kernel
theorem dX1_bit_2 : decode cX1_bit 2 = .ok (.getfield 16, 3) := by decide +kernel
theorem dX1_bit_5 : decode cX1_bit 5 = .ok (.iconst 1, 1) := by decide +kernel
theorem dX1_bit_6 : decode cX1_bit 6 = .ok (.isub, 1) := by decide +kernel
theorem dX1_bit_7 : decode cX1_bit 7 = .ok (.iload_n 1, 1) := by decide +kernel
theorem dX1_bit_8 : decode cX1_bit 8 = .ok (.isub, 1) := by decide +kernel
theorem dX1_bit_9 : decode cX1_bit 9 = .ok (.ishl, 1) := by decide +kernel
theorem dX1_bit_10 : decode cX1_bit 10 = .ok (.ireturn, 1) := by decide +kernel
theorem dX1_keep_0 : decode cX1_keep 0 = .ok (.iconst 0, 1) := by decide +kernel
theorem dX1_keep_1 : decode cX1_keep 1 = .ok (.istore_n 2, 1) := by decide +kernel
theorem dX1_keep_2 : decode cX1_keep 2 = .ok (.iload_n 2, 1) := by decide +kernel
theorem dX1_keep_3 : decode cX1_keep 3 = .ok (.aload_n 0, 1) := by decide +kernel
theorem dX1_keep_4 : decode cX1_keep 4 = .ok (.getfield 20, 3) := by decide +kernel
theorem dX1_keep_7 : decode cX1_keep 7 = .ok (.if_icmp .ge 27, 3) := by decide +kernel
theorem dX1_keep_10 : decode cX1_keep 10 = .ok (.aload_n 0, 1) := by decide +kernel
theorem dX1_keep_11 : decode cX1_keep 11 = .ok (.getfield 9, 3) := by decide +kernel
theorem dX1_keep_14 : decode cX1_keep 14 = .ok (.sipush 512, 3) := by decide +kernel
theorem dX1_keep_17 : decode cX1_keep 17 = .ok (.iload_n 1, 1) := by decide +kernel
theorem dX1_keep_18 : decode cX1_keep 18 = .ok (.imul, 1) := by decide +kernel
theorem dX1_keep_19 : decode cX1_keep 19 = .ok (.iload_n 2, 1) := by decide +kernel
theorem dX1_keep_20 : decode cX1_keep 20 = .ok (.iadd, 1) := by decide +kernel
theorem dX1_keep_21 : decode cX1_keep 21 = .ok (.aload_n 0, 1) := by decide +kernel
theorem dX1_keep_22 : decode cX1_keep 22 = .ok (.getfield 13, 3) := by decide +kernel
theorem dX1_keep_25 : decode cX1_keep 25 = .ok (.iload_n 2, 1) := by decide +kernel
theorem dX1_keep_26 : decode cX1_keep 26 = .ok (.baload, 1) := by decide +kernel
theorem dX1_keep_27 : decode cX1_keep 27 = .ok (.bastore, 1) := by decide +kernel
theorem dX1_keep_28 : decode cX1_keep 28 = .ok (.iinc 2 1, 3) := by decide +kernel
theorem dX1_keep_31 : decode cX1_keep 31 = .ok (.goto (-29), 3) := by decide +kernel
theorem dX1_keep_34 : decode cX1_keep 34 = .ok (.aload_n 0, 1) := by decide +kernel
theorem dX1_keep_35 : decode cX1_keep 35 = .ok (.iload_n 1, 1) := by decide +kernel
theorem dX1_keep_36 : decode cX1_keep 36 = .ok (.invokevirtual 23, 3) := by decide +kernel
theorem dX1_keep_39 : decode cX1_keep 39 = .ok (.ireturn, 1) := by decide +kernel
theorem dX1_load_0 : decode cX1_load 0 = .ok (.iload_n 1, 1) := by decide +kernel
theorem dX1_load_1 : decode cX1_load 1 = .ok (.invokestatic 27, 3) := by decide +kernel
theorem dX1_load_4 : decode cX1_load 4 = .ok (.ifCond .eq 17, 3) := by decide +kernel
theorem dX1_load_7 : decode cX1_load 7 = .ok (.iload_n 2, 1) := by decide +kernel
theorem dX1_load_8 : decode cX1_load 8 = .ok (.bipush (-2), 2) := by decide +kernel
theorem dX1_load_10 : decode cX1_load 10 = .ok (.if_icmp .lt 11, 3) := by decide +kernel
theorem dX1_load_13 : decode cX1_load 13 = .ok (.iload_n 2, 1) := by decide +kernel
theorem dX1_load_14 : decode cX1_load 14 = .ok (.aload_n 0, 1) := by decide +kernel
theorem dX1_load_15 : decode cX1_load 15 = .ok (.getfield 16, 3) := by decide +kernel
theorem dX1_load_18 : decode cX1_load 18 = .ok (.if_icmp .lt 5, 3) := by decide +kernel
theorem dX1_load_21 : decode cX1_load 21 = .ok (.iconst (-1), 1) := by decide +kernel
theorem dX1_load_22 : decode cX1_load 22 = .ok (.ireturn, 1) := by decide +kernel
theorem dX1_load_23 : decode cX1_load 23 = .ok (.iconst 0, 1) := by decide +kernel
theorem dX1_load_24 : decode cX1_load 24 = .ok (.istore_n 3, 1) := by decide +kernel
theorem dX1_load_25 : decode cX1_load 25 = .ok (.iload_n 3, 1) := by decide +kernel
theorem dX1_load_26 : decode cX1_load 26 = .ok (.aload_n 0, 1) := by decide +kernel
theorem dX1_load_27 : decode cX1_load 27 = .ok (.getfield 20, 3) := by decide +kernel
theorem dX1_load_30 : decode cX1_load 30 = .ok (.if_icmp .ge 39, 3) := by decide +kernel
theorem dX1_load_33 : decode cX1_load 33 = .ok (.aload_n 0, 1) := by decide +kernel
theorem dX1_load_34 : decode cX1_load 34 = .ok (.getfield 13, 3) := by decide +kernel
theorem dX1_load_37 : decode cX1_load 37 = .ok (.iload_n 3, 1) := by decide +kernel
theorem dX1_load_38 : decode cX1_load 38 = .ok (.iload_n 2, 1) := by decide +kernel
theorem dX1_load_39 : decode cX1_load 39 = .ok (.iconst (-1), 1) := by decide +kernel
theorem dX1_load_40 : decode cX1_load 40 = .ok (.if_icmp .eq 17, 3) := by decide +kernel
theorem dX1_load_43 : decode cX1_load 43 = .ok (.iload_n 2, 1) := by decide +kernel
theorem dX1_load_44 : decode cX1_load 44 = .ok (.ifCond .lt 17, 3) := by decide +kernel
theorem dX1_load_47 : decode cX1_load 47 = .ok (.iload_n 3, 1) := by decide +kernel
theorem dX1_load_48 : decode cX1_load 48 = .ok (.aload_n 0, 1) := by decide +kernel
theorem dX1_load_49 : decode cX1_load 49 = .ok (.iload_n 2, 1) := by decide +kernel
theorem dX1_load_50 : decode cX1_load 50 = .ok (.invokevirtual 31, 3) := by decide +kernel
theorem dX1_load_53 : decode cX1_load 53 = .ok (.iand, 1) := by decide +kernel
theorem dX1_load_54 : decode cX1_load 54 = .ok (.ifCond .eq 7, 3) := by decide +kernel
theorem dX1_load_57 : decode cX1_load 57 = .ok (.iconst 1, 1) := by decide +kernel
theorem dX1_load_58 : decode cX1_load 58 = .ok (.goto 4, 3) := by decide +kernel
theorem dX1_load_61 : decode cX1_load 61 = .ok (.iconst 0, 1) := by decide +kernel
theorem dX1_load_62 : decode cX1_load 62 = .ok (.bastore, 1) := by decide +kernel
theorem dX1_load_63 : decode cX1_load 63 = .ok (.iinc 3 1, 3) := by decide +kernel
theorem dX1_load_66 : decode cX1_load 66 = .ok (.goto (-41), 3) := by decide +kernel
theorem dX1_load_69 : decode cX1_load 69 = .ok (.aload_n 0, 1) := by decide +kernel
theorem dX1_load_70 : decode cX1_load 70 = .ok (.iload_n 1, 1) := by decide +kernel
theorem dX1_load_71 : decode cX1_load 71 = .ok (.invokevirtual 34, 3) := by decide +kernel
theorem dX1_load_74 : decode cX1_load 74 = .ok (.ireturn, 1) := by decide +kernel
theorem dX1_reckon_0 : decode cX1_reckon 0 = .ok (.iload_n 1, 1) := by decide +kernel
theorem dX1_reckon_1 : decode cX1_reckon 1 = .ok (.ifCond .lt 30, 3) := by decide +kernel
theorem dX1_reckon_4 : decode cX1_reckon 4 = .ok (.iload_n 1, 1) := by decide +kernel
theorem dX1_reckon_5 : decode cX1_reckon 5 = .ok (.iconst 4, 1) := by decide +kernel
theorem dX1_reckon_6 : decode cX1_reckon 6 = .ok (.if_icmp .gt 25, 3) := by decide +kernel
theorem dX1_reckon_9 : decode cX1_reckon 9 = .ok (.iload_n 2, 1) := by decide +kernel
theorem dX1_reckon_10 : decode cX1_reckon 10 = .ok (.invokestatic 27, 3) := by decide +kernel
theorem dX1_reckon_13 : decode cX1_reckon 13 = .ok (.ifCond .eq 18, 3) := by decide +kernel
theorem dX1_reckon_16 : decode cX1_reckon 16 = .ok (.iload_n 3, 1) := by decide +kernel
theorem dX1_reckon_17 : decode cX1_reckon 17 = .ok (.invokestatic 27, 3) := by decide +kernel
theorem dX1_reckon_20 : decode cX1_reckon 20 = .ok (.ifCond .eq 11, 3) := by decide +kernel
theorem dX1_reckon_23 : decode cX1_reckon 23 = .ok (.iload 4, 2) := by decide +kernel
theorem dX1_reckon_25 : decode cX1_reckon 25 = .ok (.invokestatic 27, 3) := by decide +kernel
theorem dX1_reckon_28 : decode cX1_reckon 28 = .ok (.ifCond .ne 5, 3) := by decide +kernel
theorem dX1_reckon_31 : decode cX1_reckon 31 = .ok (.iconst (-1), 1) := by decide +kernel
theorem dX1_reckon_32 : decode cX1_reckon 32 = .ok (.ireturn, 1) := by decide +kernel
theorem dX1_reckon_33 : decode cX1_reckon 33 = .ok (.iconst 0, 1) := by decide +kernel
theorem dX1_reckon_34 : decode cX1_reckon 34 = .ok (.istore 5, 2) := by decide +kernel
theorem dX1_reckon_36 : decode cX1_reckon 36 = .ok (.iload 5, 2) := by decide +kernel
theorem dX1_reckon_38 : decode cX1_reckon 38 = .ok (.aload_n 0, 1) := by decide +kernel
theorem dX1_reckon_39 : decode cX1_reckon 39 = .ok (.getfield 20, 3) := by decide +kernel
theorem dX1_reckon_42 : decode cX1_reckon 42 = .ok (.if_icmp .ge 150, 3) := by decide +kernel
theorem dX1_reckon_45 : decode cX1_reckon 45 = .ok (.aload_n 0, 1) := by decide +kernel
theorem dX1_reckon_46 : decode cX1_reckon 46 = .ok (.getfield 9, 3) := by decide +kernel
theorem dX1_reckon_49 : decode cX1_reckon 49 = .ok (.sipush 512, 3) := by decide +kernel
theorem dX1_reckon_52 : decode cX1_reckon 52 = .ok (.iload_n 3, 1) := by decide +kernel
theorem dX1_reckon_53 : decode cX1_reckon 53 = .ok (.imul, 1) := by decide +kernel
theorem dX1_reckon_54 : decode cX1_reckon 54 = .ok (.iload 5, 2) := by decide +kernel
theorem dX1_reckon_56 : decode cX1_reckon 56 = .ok (.iadd, 1) := by decide +kernel
theorem dX1_reckon_57 : decode cX1_reckon 57 = .ok (.baload, 1) := by decide +kernel
theorem dX1_reckon_58 : decode cX1_reckon 58 = .ok (.istore 6, 2) := by decide +kernel
theorem dX1_reckon_60 : decode cX1_reckon 60 = .ok (.aload_n 0, 1) := by decide +kernel
theorem dX1_reckon_61 : decode cX1_reckon 61 = .ok (.getfield 9, 3) := by decide +kernel
theorem dX1_reckon_64 : decode cX1_reckon 64 = .ok (.sipush 512, 3) := by decide +kernel
theorem dX1_reckon_67 : decode cX1_reckon 67 = .ok (.iload 4, 2) := by decide +kernel
theorem dX1_reckon_69 : decode cX1_reckon 69 = .ok (.imul, 1) := by decide +kernel
theorem dX1_reckon_70 : decode cX1_reckon 70 = .ok (.iload 5, 2) := by decide +kernel
theorem dX1_reckon_72 : decode cX1_reckon 72 = .ok (.iadd, 1) := by decide +kernel
theorem dX1_reckon_73 : decode cX1_reckon 73 = .ok (.baload, 1) := by decide +kernel
theorem dX1_reckon_74 : decode cX1_reckon 74 = .ok (.istore 7, 2) := by decide +kernel
theorem dX1_reckon_76 : decode cX1_reckon 76 = .ok (.aload_n 0, 1) := by decide +kernel
theorem dX1_reckon_77 : decode cX1_reckon 77 = .ok (.getfield 13, 3) := by decide +kernel
theorem dX1_reckon_80 : decode cX1_reckon 80 = .ok (.iload 5, 2) := by decide +kernel
theorem dX1_reckon_82 : decode cX1_reckon 82 = .ok (.iload_n 1, 1) := by decide +kernel
theorem dX1_reckon_83 : decode cX1_reckon 83 = .ok (.ifCond .ne 21, 3) := by decide +kernel
theorem dX1_reckon_86 : decode cX1_reckon 86 = .ok (.iload 6, 2) := by decide +kernel
theorem dX1_reckon_88 : decode cX1_reckon 88 = .ok (.ifCond .eq 12, 3) := by decide +kernel
theorem dX1_reckon_91 : decode cX1_reckon 91 = .ok (.iload 7, 2) := by decide +kernel
theorem dX1_reckon_93 : decode cX1_reckon 93 = .ok (.ifCond .eq 7, 3) := by decide +kernel
theorem dX1_reckon_96 : decode cX1_reckon 96 = .ok (.iconst 1, 1) := by decide +kernel
theorem dX1_reckon_97 : decode cX1_reckon 97 = .ok (.goto 88, 3) := by decide +kernel
theorem dX1_reckon_100 : decode cX1_reckon 100 = .ok (.iconst 0, 1) := by decide +kernel
theorem dX1_reckon_101 : decode cX1_reckon 101 = .ok (.goto 84, 3) := by decide +kernel
theorem dX1_reckon_104 : decode cX1_reckon 104 = .ok (.iload_n 1, 1) := by decide +kernel
theorem dX1_reckon_105 : decode cX1_reckon 105 = .ok (.iconst 1, 1) := by decide +kernel
theorem dX1_reckon_106 : decode cX1_reckon 106 = .ok (.if_icmp .ne 21, 3) := by decide +kernel
theorem dX1_reckon_109 : decode cX1_reckon 109 = .ok (.iload 6, 2) := by decide +kernel
theorem dX1_reckon_111 : decode cX1_reckon 111 = .ok (.ifCond .ne 8, 3) := by decide +kernel
theorem dX1_reckon_114 : decode cX1_reckon 114 = .ok (.iload 7, 2) := by decide +kernel
theorem dX1_reckon_116 : decode cX1_reckon 116 = .ok (.ifCond .eq 7, 3) := by decide +kernel
theorem dX1_reckon_119 : decode cX1_reckon 119 = .ok (.iconst 1, 1) := by decide +kernel
theorem dX1_reckon_120 : decode cX1_reckon 120 = .ok (.goto 65, 3) := by decide +kernel
theorem dX1_reckon_123 : decode cX1_reckon 123 = .ok (.iconst 0, 1) := by decide +kernel
theorem dX1_reckon_124 : decode cX1_reckon 124 = .ok (.goto 61, 3) := by decide +kernel
theorem dX1_reckon_127 : decode cX1_reckon 127 = .ok (.iload_n 1, 1) := by decide +kernel
theorem dX1_reckon_128 : decode cX1_reckon 128 = .ok (.iconst 2, 1) := by decide +kernel
theorem dX1_reckon_129 : decode cX1_reckon 129 = .ok (.if_icmp .ne 18, 3) := by decide +kernel
theorem dX1_reckon_132 : decode cX1_reckon 132 = .ok (.iload 6, 2) := by decide +kernel
theorem dX1_reckon_134 : decode cX1_reckon 134 = .ok (.iload 7, 2) := by decide +kernel
theorem dX1_reckon_136 : decode cX1_reckon 136 = .ok (.if_icmp .eq 7, 3) := by decide +kernel
theorem dX1_reckon_139 : decode cX1_reckon 139 = .ok (.iconst 1, 1) := by decide +kernel
theorem dX1_reckon_140 : decode cX1_reckon 140 = .ok (.goto 45, 3) := by decide +kernel
theorem dX1_reckon_143 : decode cX1_reckon 143 = .ok (.iconst 0, 1) := by decide +kernel
theorem dX1_reckon_144 : decode cX1_reckon 144 = .ok (.goto 41, 3) := by decide +kernel
theorem dX1_reckon_147 : decode cX1_reckon 147 = .ok (.iload_n 1, 1) := by decide +kernel
theorem dX1_reckon_148 : decode cX1_reckon 148 = .ok (.iconst 3, 1) := by decide +kernel
theorem dX1_reckon_149 : decode cX1_reckon 149 = .ok (.if_icmp .ne 21, 3) := by decide +kernel
theorem dX1_reckon_152 : decode cX1_reckon 152 = .ok (.iload 6, 2) := by decide +kernel
theorem dX1_reckon_154 : decode cX1_reckon 154 = .ok (.ifCond .eq 12, 3) := by decide +kernel
theorem dX1_reckon_157 : decode cX1_reckon 157 = .ok (.iload 7, 2) := by decide +kernel
theorem dX1_reckon_159 : decode cX1_reckon 159 = .ok (.ifCond .ne 7, 3) := by decide +kernel
theorem dX1_reckon_162 : decode cX1_reckon 162 = .ok (.iconst 1, 1) := by decide +kernel
theorem dX1_reckon_163 : decode cX1_reckon 163 = .ok (.goto 22, 3) := by decide +kernel
theorem dX1_reckon_166 : decode cX1_reckon 166 = .ok (.iconst 0, 1) := by decide +kernel
theorem dX1_reckon_167 : decode cX1_reckon 167 = .ok (.goto 18, 3) := by decide +kernel
theorem dX1_reckon_170 : decode cX1_reckon 170 = .ok (.iload 6, 2) := by decide +kernel
theorem dX1_reckon_172 : decode cX1_reckon 172 = .ok (.ifCond .eq 8, 3) := by decide +kernel
theorem dX1_reckon_175 : decode cX1_reckon 175 = .ok (.iload 7, 2) := by decide +kernel
theorem dX1_reckon_177 : decode cX1_reckon 177 = .ok (.ifCond .eq 7, 3) := by decide +kernel
theorem dX1_reckon_180 : decode cX1_reckon 180 = .ok (.iconst 1, 1) := by decide +kernel
theorem dX1_reckon_181 : decode cX1_reckon 181 = .ok (.goto 4, 3) := by decide +kernel
theorem dX1_reckon_184 : decode cX1_reckon 184 = .ok (.iconst 0, 1) := by decide +kernel
theorem dX1_reckon_185 : decode cX1_reckon 185 = .ok (.bastore, 1) := by decide +kernel
theorem dX1_reckon_186 : decode cX1_reckon 186 = .ok (.iinc 5 1, 3) := by decide +kernel
theorem dX1_reckon_189 : decode cX1_reckon 189 = .ok (.goto (-153), 3) := by decide +kernel
theorem dX1_reckon_192 : decode cX1_reckon 192 = .ok (.aload_n 0, 1) := by decide +kernel
theorem dX1_reckon_193 : decode cX1_reckon 193 = .ok (.iload_n 2, 1) := by decide +kernel
theorem dX1_reckon_194 : decode cX1_reckon 194 = .ok (.invokevirtual 34, 3) := by decide +kernel
theorem dX1_reckon_197 : decode cX1_reckon 197 = .ok (.ireturn, 1) := by decide +kernel
theorem dX1_not_0 : decode cX1_not 0 = .ok (.iload_n 1, 1) := by decide +kernel
theorem dX1_not_1 : decode cX1_not 1 = .ok (.invokestatic 27, 3) := by decide +kernel
theorem dX1_not_4 : decode cX1_not 4 = .ok (.ifCond .eq 10, 3) := by decide +kernel
theorem dX1_not_7 : decode cX1_not 7 = .ok (.iload_n 2, 1) := by decide +kernel
theorem dX1_not_8 : decode cX1_not 8 = .ok (.invokestatic 27, 3) := by decide +kernel
theorem dX1_not_11 : decode cX1_not 11 = .ok (.ifCond .ne 5, 3) := by decide +kernel
theorem dX1_not_14 : decode cX1_not 14 = .ok (.iconst (-1), 1) := by decide +kernel
theorem dX1_not_15 : decode cX1_not 15 = .ok (.ireturn, 1) := by decide +kernel
theorem dX1_not_16 : decode cX1_not 16 = .ok (.iconst 0, 1) := by decide +kernel
theorem dX1_not_17 : decode cX1_not 17 = .ok (.istore_n 3, 1) := by decide +kernel
theorem dX1_not_18 : decode cX1_not 18 = .ok (.iload_n 3, 1) := by decide +kernel
theorem dX1_not_19 : decode cX1_not 19 = .ok (.aload_n 0, 1) := by decide +kernel
theorem dX1_not_20 : decode cX1_not 20 = .ok (.getfield 20, 3) := by decide +kernel
theorem dX1_not_23 : decode cX1_not 23 = .ok (.if_icmp .ge 35, 3) := by decide +kernel
theorem dX1_not_26 : decode cX1_not 26 = .ok (.aload_n 0, 1) := by decide +kernel
theorem dX1_not_27 : decode cX1_not 27 = .ok (.getfield 13, 3) := by decide +kernel
theorem dX1_not_30 : decode cX1_not 30 = .ok (.iload_n 3, 1) := by decide +kernel
theorem dX1_not_31 : decode cX1_not 31 = .ok (.aload_n 0, 1) := by decide +kernel
theorem dX1_not_32 : decode cX1_not 32 = .ok (.getfield 9, 3) := by decide +kernel
theorem dX1_not_35 : decode cX1_not 35 = .ok (.sipush 512, 3) := by decide +kernel
theorem dX1_not_38 : decode cX1_not 38 = .ok (.iload_n 2, 1) := by decide +kernel
theorem dX1_not_39 : decode cX1_not 39 = .ok (.imul, 1) := by decide +kernel
theorem dX1_not_40 : decode cX1_not 40 = .ok (.iload_n 3, 1) := by decide +kernel
theorem dX1_not_41 : decode cX1_not 41 = .ok (.iadd, 1) := by decide +kernel
theorem dX1_not_42 : decode cX1_not 42 = .ok (.baload, 1) := by decide +kernel
theorem dX1_not_43 : decode cX1_not 43 = .ok (.ifCond .ne 7, 3) := by decide +kernel
theorem dX1_not_46 : decode cX1_not 46 = .ok (.iconst 1, 1) := by decide +kernel
theorem dX1_not_47 : decode cX1_not 47 = .ok (.goto 4, 3) := by decide +kernel
theorem dX1_not_50 : decode cX1_not 50 = .ok (.iconst 0, 1) := by decide +kernel
theorem dX1_not_51 : decode cX1_not 51 = .ok (.bastore, 1) := by decide +kernel
theorem dX1_not_52 : decode cX1_not 52 = .ok (.iinc 3 1, 3) := by decide +kernel
theorem dX1_not_55 : decode cX1_not 55 = .ok (.goto (-37), 3) := by decide +kernel
theorem dX1_not_58 : decode cX1_not 58 = .ok (.aload_n 0, 1) := by decide +kernel
theorem dX1_not_59 : decode cX1_not 59 = .ok (.iload_n 1, 1) := by decide +kernel
theorem dX1_not_60 : decode cX1_not 60 = .ok (.invokevirtual 34, 3) := by decide +kernel
theorem dX1_not_63 : decode cX1_not 63 = .ok (.ireturn, 1) := by decide +kernel
theorem dX1_with_0 : decode cX1_with 0 = .ok (.iload_n 1, 1) := by decide +kernel
theorem dX1_with_1 : decode cX1_with 1 = .ok (.invokestatic 27, 3) := by decide +kernel
theorem dX1_with_4 : decode cX1_with 4 = .ok (.ifCond .eq 18, 3) := by decide +kernel
theorem dX1_with_7 : decode cX1_with 7 = .ok (.iload_n 2, 1) := by decide +kernel
theorem dX1_with_8 : decode cX1_with 8 = .ok (.invokestatic 27, 3) := by decide +kernel
theorem dX1_with_11 : decode cX1_with 11 = .ok (.ifCond .eq 11, 3) := by decide +kernel
theorem dX1_with_14 : decode cX1_with 14 = .ok (.aload_n 0, 1) := by decide +kernel
theorem dX1_with_15 : decode cX1_with 15 = .ok (.iload_n 3, 1) := by decide +kernel
theorem dX1_with_16 : decode cX1_with 16 = .ok (.invokevirtual 37, 3) := by decide +kernel
theorem dX1_with_19 : decode cX1_with 19 = .ok (.ifCond .ne 5, 3) := by decide +kernel
theorem dX1_with_22 : decode cX1_with 22 = .ok (.iconst (-1), 1) := by decide +kernel
theorem dX1_with_23 : decode cX1_with 23 = .ok (.ireturn, 1) := by decide +kernel
theorem dX1_with_24 : decode cX1_with 24 = .ok (.iconst 0, 1) := by decide +kernel
theorem dX1_with_25 : decode cX1_with 25 = .ok (.istore 5, 2) := by decide +kernel
theorem dX1_with_27 : decode cX1_with 27 = .ok (.iload 5, 2) := by decide +kernel
theorem dX1_with_29 : decode cX1_with 29 = .ok (.aload_n 0, 1) := by decide +kernel
theorem dX1_with_30 : decode cX1_with 30 = .ok (.getfield 20, 3) := by decide +kernel
theorem dX1_with_33 : decode cX1_with 33 = .ok (.if_icmp .ge 53, 3) := by decide +kernel
theorem dX1_with_36 : decode cX1_with 36 = .ok (.aload_n 0, 1) := by decide +kernel
theorem dX1_with_37 : decode cX1_with 37 = .ok (.getfield 13, 3) := by decide +kernel
theorem dX1_with_40 : decode cX1_with 40 = .ok (.iload 5, 2) := by decide +kernel
theorem dX1_with_42 : decode cX1_with 42 = .ok (.aload_n 0, 1) := by decide +kernel
theorem dX1_with_43 : decode cX1_with 43 = .ok (.getfield 9, 3) := by decide +kernel
theorem dX1_with_46 : decode cX1_with 46 = .ok (.sipush 512, 3) := by decide +kernel
theorem dX1_with_49 : decode cX1_with 49 = .ok (.iload_n 2, 1) := by decide +kernel
theorem dX1_with_50 : decode cX1_with 50 = .ok (.imul, 1) := by decide +kernel
theorem dX1_with_51 : decode cX1_with 51 = .ok (.iload 4, 2) := by decide +kernel
theorem dX1_with_53 : decode cX1_with 53 = .ok (.ifCond .eq 14, 3) := by decide +kernel
theorem dX1_with_56 : decode cX1_with 56 = .ok (.iload 5, 2) := by decide +kernel
theorem dX1_with_58 : decode cX1_with 58 = .ok (.aload_n 0, 1) := by decide +kernel
theorem dX1_with_59 : decode cX1_with 59 = .ok (.iload_n 3, 1) := by decide +kernel
theorem dX1_with_60 : decode cX1_with 60 = .ok (.invokevirtual 31, 3) := by decide +kernel
theorem dX1_with_63 : decode cX1_with 63 = .ok (.ior, 1) := by decide +kernel
theorem dX1_with_64 : decode cX1_with 64 = .ok (.goto 13, 3) := by decide +kernel
theorem dX1_with_67 : decode cX1_with 67 = .ok (.iload 5, 2) := by decide +kernel
theorem dX1_with_69 : decode cX1_with 69 = .ok (.aload_n 0, 1) := by decide +kernel
theorem dX1_with_70 : decode cX1_with 70 = .ok (.iload_n 3, 1) := by decide +kernel
theorem dX1_with_71 : decode cX1_with 71 = .ok (.invokevirtual 31, 3) := by decide +kernel
theorem dX1_with_74 : decode cX1_with 74 = .ok (.iconst (-1), 1) := by decide +kernel
theorem dX1_with_75 : decode cX1_with 75 = .ok (.ixor, 1) := by decide +kernel
theorem dX1_with_76 : decode cX1_with 76 = .ok (.iand, 1) := by decide +kernel
theorem dX1_with_77 : decode cX1_with 77 = .ok (.iadd, 1) := by decide +kernel
theorem dX1_with_78 : decode cX1_with 78 = .ok (.baload, 1) := by decide +kernel
theorem dX1_with_79 : decode cX1_with 79 = .ok (.bastore, 1) := by decide +kernel
theorem dX1_with_80 : decode cX1_with 80 = .ok (.iinc 5 1, 3) := by decide +kernel
theorem dX1_with_83 : decode cX1_with 83 = .ok (.goto (-56), 3) := by decide +kernel
theorem dX1_with_86 : decode cX1_with 86 = .ok (.aload_n 0, 1) := by decide +kernel
theorem dX1_with_87 : decode cX1_with 87 = .ok (.iload_n 1, 1) := by decide +kernel
theorem dX1_with_88 : decode cX1_with 88 = .ok (.invokevirtual 34, 3) := by decide +kernel
theorem dX1_with_91 : decode cX1_with 91 = .ok (.ireturn, 1) := by decide +kernel
theorem dX1_bind_0 : decode cX1_bind 0 = .ok (.iload_n 1, 1) := by decide +kernel
theorem dX1_bind_1 : decode cX1_bind 1 = .ok (.invokestatic 27, 3) := by decide +kernel
theorem dX1_bind_4 : decode cX1_bind 4 = .ok (.ifCond .eq 18, 3) := by decide +kernel
theorem dX1_bind_7 : decode cX1_bind 7 = .ok (.iload_n 2, 1) := by decide +kernel
theorem dX1_bind_8 : decode cX1_bind 8 = .ok (.invokestatic 27, 3) := by decide +kernel
theorem dX1_bind_11 : decode cX1_bind 11 = .ok (.ifCond .eq 11, 3) := by decide +kernel
theorem dX1_bind_14 : decode cX1_bind 14 = .ok (.aload_n 0, 1) := by decide +kernel
theorem dX1_bind_15 : decode cX1_bind 15 = .ok (.iload_n 3, 1) := by decide +kernel
theorem dX1_bind_16 : decode cX1_bind 16 = .ok (.invokevirtual 37, 3) := by decide +kernel
theorem dX1_bind_19 : decode cX1_bind 19 = .ok (.ifCond .ne 5, 3) := by decide +kernel
theorem dX1_bind_22 : decode cX1_bind 22 = .ok (.iconst (-1), 1) := by decide +kernel
theorem dX1_bind_23 : decode cX1_bind 23 = .ok (.ireturn, 1) := by decide +kernel
theorem dX1_bind_24 : decode cX1_bind 24 = .ok (.iconst 0, 1) := by decide +kernel
theorem dX1_bind_25 : decode cX1_bind 25 = .ok (.istore 5, 2) := by decide +kernel
theorem dX1_bind_27 : decode cX1_bind 27 = .ok (.iload 5, 2) := by decide +kernel
theorem dX1_bind_29 : decode cX1_bind 29 = .ok (.aload_n 0, 1) := by decide +kernel
theorem dX1_bind_30 : decode cX1_bind 30 = .ok (.getfield 20, 3) := by decide +kernel
theorem dX1_bind_33 : decode cX1_bind 33 = .ok (.if_icmp .ge 98, 3) := by decide +kernel
theorem dX1_bind_36 : decode cX1_bind 36 = .ok (.aload_n 0, 1) := by decide +kernel
theorem dX1_bind_37 : decode cX1_bind 37 = .ok (.getfield 9, 3) := by decide +kernel
theorem dX1_bind_40 : decode cX1_bind 40 = .ok (.sipush 512, 3) := by decide +kernel
theorem dX1_bind_43 : decode cX1_bind 43 = .ok (.iload_n 2, 1) := by decide +kernel
theorem dX1_bind_44 : decode cX1_bind 44 = .ok (.imul, 1) := by decide +kernel
theorem dX1_bind_45 : decode cX1_bind 45 = .ok (.iload 5, 2) := by decide +kernel
theorem dX1_bind_47 : decode cX1_bind 47 = .ok (.aload_n 0, 1) := by decide +kernel
theorem dX1_bind_48 : decode cX1_bind 48 = .ok (.iload_n 3, 1) := by decide +kernel
theorem dX1_bind_49 : decode cX1_bind 49 = .ok (.invokevirtual 31, 3) := by decide +kernel
theorem dX1_bind_52 : decode cX1_bind 52 = .ok (.ior, 1) := by decide +kernel
theorem dX1_bind_53 : decode cX1_bind 53 = .ok (.iadd, 1) := by decide +kernel
theorem dX1_bind_54 : decode cX1_bind 54 = .ok (.baload, 1) := by decide +kernel
theorem dX1_bind_55 : decode cX1_bind 55 = .ok (.istore 6, 2) := by decide +kernel
theorem dX1_bind_57 : decode cX1_bind 57 = .ok (.aload_n 0, 1) := by decide +kernel
theorem dX1_bind_58 : decode cX1_bind 58 = .ok (.getfield 9, 3) := by decide +kernel
theorem dX1_bind_61 : decode cX1_bind 61 = .ok (.sipush 512, 3) := by decide +kernel
theorem dX1_bind_64 : decode cX1_bind 64 = .ok (.iload_n 2, 1) := by decide +kernel
theorem dX1_bind_65 : decode cX1_bind 65 = .ok (.imul, 1) := by decide +kernel
theorem dX1_bind_66 : decode cX1_bind 66 = .ok (.iload 5, 2) := by decide +kernel
theorem dX1_bind_68 : decode cX1_bind 68 = .ok (.aload_n 0, 1) := by decide +kernel
theorem dX1_bind_69 : decode cX1_bind 69 = .ok (.iload_n 3, 1) := by decide +kernel
theorem dX1_bind_70 : decode cX1_bind 70 = .ok (.invokevirtual 31, 3) := by decide +kernel
theorem dX1_bind_73 : decode cX1_bind 73 = .ok (.iconst (-1), 1) := by decide +kernel
theorem dX1_bind_74 : decode cX1_bind 74 = .ok (.ixor, 1) := by decide +kernel
theorem dX1_bind_75 : decode cX1_bind 75 = .ok (.iand, 1) := by decide +kernel
theorem dX1_bind_76 : decode cX1_bind 76 = .ok (.iadd, 1) := by decide +kernel
theorem dX1_bind_77 : decode cX1_bind 77 = .ok (.baload, 1) := by decide +kernel
theorem dX1_bind_78 : decode cX1_bind 78 = .ok (.istore 7, 2) := by decide +kernel
theorem dX1_bind_80 : decode cX1_bind 80 = .ok (.aload_n 0, 1) := by decide +kernel
theorem dX1_bind_81 : decode cX1_bind 81 = .ok (.getfield 13, 3) := by decide +kernel
theorem dX1_bind_84 : decode cX1_bind 84 = .ok (.iload 5, 2) := by decide +kernel
theorem dX1_bind_86 : decode cX1_bind 86 = .ok (.iload 4, 2) := by decide +kernel
theorem dX1_bind_88 : decode cX1_bind 88 = .ok (.ifCond .eq 21, 3) := by decide +kernel
theorem dX1_bind_91 : decode cX1_bind 91 = .ok (.iload 6, 2) := by decide +kernel
theorem dX1_bind_93 : decode cX1_bind 93 = .ok (.ifCond .eq 12, 3) := by decide +kernel
theorem dX1_bind_96 : decode cX1_bind 96 = .ok (.iload 7, 2) := by decide +kernel
theorem dX1_bind_98 : decode cX1_bind 98 = .ok (.ifCond .eq 7, 3) := by decide +kernel
theorem dX1_bind_101 : decode cX1_bind 101 = .ok (.iconst 1, 1) := by decide +kernel
theorem dX1_bind_102 : decode cX1_bind 102 = .ok (.goto 22, 3) := by decide +kernel
theorem dX1_bind_105 : decode cX1_bind 105 = .ok (.iconst 0, 1) := by decide +kernel
theorem dX1_bind_106 : decode cX1_bind 106 = .ok (.goto 18, 3) := by decide +kernel
theorem dX1_bind_109 : decode cX1_bind 109 = .ok (.iload 6, 2) := by decide +kernel
theorem dX1_bind_111 : decode cX1_bind 111 = .ok (.ifCond .ne 8, 3) := by decide +kernel
theorem dX1_bind_114 : decode cX1_bind 114 = .ok (.iload 7, 2) := by decide +kernel
theorem dX1_bind_116 : decode cX1_bind 116 = .ok (.ifCond .eq 7, 3) := by decide +kernel
theorem dX1_bind_119 : decode cX1_bind 119 = .ok (.iconst 1, 1) := by decide +kernel
theorem dX1_bind_120 : decode cX1_bind 120 = .ok (.goto 4, 3) := by decide +kernel
theorem dX1_bind_123 : decode cX1_bind 123 = .ok (.iconst 0, 1) := by decide +kernel
theorem dX1_bind_124 : decode cX1_bind 124 = .ok (.bastore, 1) := by decide +kernel
theorem dX1_bind_125 : decode cX1_bind 125 = .ok (.iinc 5 1, 3) := by decide +kernel
theorem dX1_bind_128 : decode cX1_bind 128 = .ok (.goto (-101), 3) := by decide +kernel
theorem dX1_bind_131 : decode cX1_bind 131 = .ok (.aload_n 0, 1) := by decide +kernel
theorem dX1_bind_132 : decode cX1_bind 132 = .ok (.iload_n 1, 1) := by decide +kernel
theorem dX1_bind_133 : decode cX1_bind 133 = .ok (.invokevirtual 34, 3) := by decide +kernel
theorem dX1_bind_136 : decode cX1_bind 136 = .ok (.ireturn, 1) := by decide +kernel
theorem dX1_put_0 : decode cX1_put 0 = .ok (.iload_n 1, 1) := by decide +kernel
theorem dX1_put_1 : decode cX1_put 1 = .ok (.invokestatic 27, 3) := by decide +kernel
theorem dX1_put_4 : decode cX1_put 4 = .ok (.ifCond .eq 26, 3) := by decide +kernel
theorem dX1_put_7 : decode cX1_put 7 = .ok (.iload_n 2, 1) := by decide +kernel
theorem dX1_put_8 : decode cX1_put 8 = .ok (.invokestatic 27, 3) := by decide +kernel
theorem dX1_put_11 : decode cX1_put 11 = .ok (.ifCond .eq 19, 3) := by decide +kernel
theorem dX1_put_14 : decode cX1_put 14 = .ok (.iload 4, 2) := by decide +kernel
theorem dX1_put_16 : decode cX1_put 16 = .ok (.invokestatic 27, 3) := by decide +kernel
theorem dX1_put_19 : decode cX1_put 19 = .ok (.ifCond .eq 11, 3) := by decide +kernel
theorem dX1_put_22 : decode cX1_put 22 = .ok (.aload_n 0, 1) := by decide +kernel
theorem dX1_put_23 : decode cX1_put 23 = .ok (.iload_n 3, 1) := by decide +kernel
theorem dX1_put_24 : decode cX1_put 24 = .ok (.invokevirtual 37, 3) := by decide +kernel
theorem dX1_put_27 : decode cX1_put 27 = .ok (.ifCond .ne 5, 3) := by decide +kernel
theorem dX1_put_30 : decode cX1_put 30 = .ok (.iconst (-1), 1) := by decide +kernel
theorem dX1_put_31 : decode cX1_put 31 = .ok (.ireturn, 1) := by decide +kernel
theorem dX1_put_32 : decode cX1_put 32 = .ok (.iconst 0, 1) := by decide +kernel
theorem dX1_put_33 : decode cX1_put 33 = .ok (.istore 5, 2) := by decide +kernel
theorem dX1_put_35 : decode cX1_put 35 = .ok (.iload 5, 2) := by decide +kernel
theorem dX1_put_37 : decode cX1_put 37 = .ok (.aload_n 0, 1) := by decide +kernel
theorem dX1_put_38 : decode cX1_put 38 = .ok (.getfield 20, 3) := by decide +kernel
theorem dX1_put_41 : decode cX1_put 41 = .ok (.if_icmp .ge 65, 3) := by decide +kernel
theorem dX1_put_44 : decode cX1_put 44 = .ok (.aload_n 0, 1) := by decide +kernel
theorem dX1_put_45 : decode cX1_put 45 = .ok (.getfield 13, 3) := by decide +kernel
theorem dX1_put_48 : decode cX1_put 48 = .ok (.iload 5, 2) := by decide +kernel
theorem dX1_put_50 : decode cX1_put 50 = .ok (.aload_n 0, 1) := by decide +kernel
theorem dX1_put_51 : decode cX1_put 51 = .ok (.getfield 9, 3) := by decide +kernel
theorem dX1_put_54 : decode cX1_put 54 = .ok (.sipush 512, 3) := by decide +kernel
theorem dX1_put_57 : decode cX1_put 57 = .ok (.iload_n 2, 1) := by decide +kernel
theorem dX1_put_58 : decode cX1_put 58 = .ok (.imul, 1) := by decide +kernel
theorem dX1_put_59 : decode cX1_put 59 = .ok (.aload_n 0, 1) := by decide +kernel
theorem dX1_put_60 : decode cX1_put 60 = .ok (.getfield 9, 3) := by decide +kernel
theorem dX1_put_63 : decode cX1_put 63 = .ok (.sipush 512, 3) := by decide +kernel
theorem dX1_put_66 : decode cX1_put 66 = .ok (.iload 4, 2) := by decide +kernel
theorem dX1_put_68 : decode cX1_put 68 = .ok (.imul, 1) := by decide +kernel
theorem dX1_put_69 : decode cX1_put 69 = .ok (.iload 5, 2) := by decide +kernel
theorem dX1_put_71 : decode cX1_put 71 = .ok (.iadd, 1) := by decide +kernel
theorem dX1_put_72 : decode cX1_put 72 = .ok (.baload, 1) := by decide +kernel
theorem dX1_put_73 : decode cX1_put 73 = .ok (.ifCond .eq 14, 3) := by decide +kernel
theorem dX1_put_76 : decode cX1_put 76 = .ok (.iload 5, 2) := by decide +kernel
theorem dX1_put_78 : decode cX1_put 78 = .ok (.aload_n 0, 1) := by decide +kernel
theorem dX1_put_79 : decode cX1_put 79 = .ok (.iload_n 3, 1) := by decide +kernel
theorem dX1_put_80 : decode cX1_put 80 = .ok (.invokevirtual 31, 3) := by decide +kernel
theorem dX1_put_83 : decode cX1_put 83 = .ok (.ior, 1) := by decide +kernel
theorem dX1_put_84 : decode cX1_put 84 = .ok (.goto 13, 3) := by decide +kernel
theorem dX1_put_87 : decode cX1_put 87 = .ok (.iload 5, 2) := by decide +kernel
theorem dX1_put_89 : decode cX1_put 89 = .ok (.aload_n 0, 1) := by decide +kernel
theorem dX1_put_90 : decode cX1_put 90 = .ok (.iload_n 3, 1) := by decide +kernel
theorem dX1_put_91 : decode cX1_put 91 = .ok (.invokevirtual 31, 3) := by decide +kernel
theorem dX1_put_94 : decode cX1_put 94 = .ok (.iconst (-1), 1) := by decide +kernel
theorem dX1_put_95 : decode cX1_put 95 = .ok (.ixor, 1) := by decide +kernel
theorem dX1_put_96 : decode cX1_put 96 = .ok (.iand, 1) := by decide +kernel
theorem dX1_put_97 : decode cX1_put 97 = .ok (.iadd, 1) := by decide +kernel
theorem dX1_put_98 : decode cX1_put 98 = .ok (.baload, 1) := by decide +kernel
theorem dX1_put_99 : decode cX1_put 99 = .ok (.bastore, 1) := by decide +kernel
theorem dX1_put_100 : decode cX1_put 100 = .ok (.iinc 5 1, 3) := by decide +kernel
theorem dX1_put_103 : decode cX1_put 103 = .ok (.goto (-68), 3) := by decide +kernel
theorem dX1_put_106 : decode cX1_put 106 = .ok (.aload_n 0, 1) := by decide +kernel
theorem dX1_put_107 : decode cX1_put 107 = .ok (.iload_n 1, 1) := by decide +kernel
theorem dX1_put_108 : decode cX1_put 108 = .ok (.invokevirtual 34, 3) := by decide +kernel
theorem dX1_put_111 : decode cX1_put 111 = .ok (.ireturn, 1) := by decide +kernel
theorem dX1_many_0 : decode cX1_many 0 = .ok (.iload_n 1, 1) := by decide +kernel
theorem dX1_many_1 : decode cX1_many 1 = .ok (.invokestatic 27, 3) := by decide +kernel
theorem dX1_many_4 : decode cX1_many 4 = .ok (.ifCond .ne 5, 3) := by decide +kernel
theorem dX1_many_7 : decode cX1_many 7 = .ok (.iconst (-1), 1) := by decide +kernel
theorem dX1_many_8 : decode cX1_many 8 = .ok (.ireturn, 1) := by decide +kernel
theorem dX1_many_9 : decode cX1_many 9 = .ok (.iconst 0, 1) := by decide +kernel
theorem dX1_many_10 : decode cX1_many 10 = .ok (.istore_n 2, 1) := by decide +kernel
theorem dX1_many_11 : decode cX1_many 11 = .ok (.iconst 0, 1) := by decide +kernel
theorem dX1_many_12 : decode cX1_many 12 = .ok (.istore_n 3, 1) := by decide +kernel
theorem dX1_many_13 : decode cX1_many 13 = .ok (.iload_n 3, 1) := by decide +kernel
theorem dX1_many_14 : decode cX1_many 14 = .ok (.aload_n 0, 1) := by decide +kernel
theorem dX1_many_15 : decode cX1_many 15 = .ok (.getfield 20, 3) := by decide +kernel
theorem dX1_many_18 : decode cX1_many 18 = .ok (.if_icmp .ge 32, 3) := by decide +kernel
theorem dX1_many_21 : decode cX1_many 21 = .ok (.iload_n 2, 1) := by decide +kernel
theorem dX1_many_22 : decode cX1_many 22 = .ok (.aload_n 0, 1) := by decide +kernel
theorem dX1_many_23 : decode cX1_many 23 = .ok (.getfield 9, 3) := by decide +kernel
theorem dX1_many_26 : decode cX1_many 26 = .ok (.sipush 512, 3) := by decide +kernel
theorem dX1_many_29 : decode cX1_many 29 = .ok (.iload_n 1, 1) := by decide +kernel
theorem dX1_many_30 : decode cX1_many 30 = .ok (.imul, 1) := by decide +kernel
theorem dX1_many_31 : decode cX1_many 31 = .ok (.iload_n 3, 1) := by decide +kernel
theorem dX1_many_32 : decode cX1_many 32 = .ok (.iadd, 1) := by decide +kernel
theorem dX1_many_33 : decode cX1_many 33 = .ok (.baload, 1) := by decide +kernel
theorem dX1_many_34 : decode cX1_many 34 = .ok (.ifCond .eq 7, 3) := by decide +kernel
theorem dX1_many_37 : decode cX1_many 37 = .ok (.iconst 1, 1) := by decide +kernel
theorem dX1_many_38 : decode cX1_many 38 = .ok (.goto 4, 3) := by decide +kernel
theorem dX1_many_41 : decode cX1_many 41 = .ok (.iconst 0, 1) := by decide +kernel
theorem dX1_many_42 : decode cX1_many 42 = .ok (.iadd, 1) := by decide +kernel
theorem dX1_many_43 : decode cX1_many 43 = .ok (.istore_n 2, 1) := by decide +kernel
theorem dX1_many_44 : decode cX1_many 44 = .ok (.iinc 3 1, 3) := by decide +kernel
theorem dX1_many_47 : decode cX1_many 47 = .ok (.goto (-34), 3) := by decide +kernel
theorem dX1_many_50 : decode cX1_many 50 = .ok (.iload_n 2, 1) := by decide +kernel
theorem dX1_many_51 : decode cX1_many 51 = .ok (.ireturn, 1) := by decide +kernel
theorem dX1_nth_0 : decode cX1_nth 0 = .ok (.iload_n 1, 1) := by decide +kernel
theorem dX1_nth_1 : decode cX1_nth 1 = .ok (.invokestatic 27, 3) := by decide +kernel
theorem dX1_nth_4 : decode cX1_nth 4 = .ok (.ifCond .ne 5, 3) := by decide +kernel
theorem dX1_nth_7 : decode cX1_nth 7 = .ok (.iconst (-1), 1) := by decide +kernel
theorem dX1_nth_8 : decode cX1_nth 8 = .ok (.ireturn, 1) := by decide +kernel
theorem dX1_nth_9 : decode cX1_nth 9 = .ok (.iconst 0, 1) := by decide +kernel
theorem dX1_nth_10 : decode cX1_nth 10 = .ok (.istore_n 3, 1) := by decide +kernel
theorem dX1_nth_11 : decode cX1_nth 11 = .ok (.iconst 0, 1) := by decide +kernel
theorem dX1_nth_12 : decode cX1_nth 12 = .ok (.istore 4, 2) := by decide +kernel
theorem dX1_nth_14 : decode cX1_nth 14 = .ok (.iload 4, 2) := by decide +kernel
theorem dX1_nth_16 : decode cX1_nth 16 = .ok (.aload_n 0, 1) := by decide +kernel
theorem dX1_nth_17 : decode cX1_nth 17 = .ok (.getfield 20, 3) := by decide +kernel
theorem dX1_nth_20 : decode cX1_nth 20 = .ok (.if_icmp .ge 39, 3) := by decide +kernel
theorem dX1_nth_23 : decode cX1_nth 23 = .ok (.aload_n 0, 1) := by decide +kernel
theorem dX1_nth_24 : decode cX1_nth 24 = .ok (.getfield 9, 3) := by decide +kernel
theorem dX1_nth_27 : decode cX1_nth 27 = .ok (.sipush 512, 3) := by decide +kernel
theorem dX1_nth_30 : decode cX1_nth 30 = .ok (.iload_n 1, 1) := by decide +kernel
theorem dX1_nth_31 : decode cX1_nth 31 = .ok (.imul, 1) := by decide +kernel
theorem dX1_nth_32 : decode cX1_nth 32 = .ok (.iload 4, 2) := by decide +kernel
theorem dX1_nth_34 : decode cX1_nth 34 = .ok (.iadd, 1) := by decide +kernel
theorem dX1_nth_35 : decode cX1_nth 35 = .ok (.baload, 1) := by decide +kernel
theorem dX1_nth_36 : decode cX1_nth 36 = .ok (.ifCond .ne 6, 3) := by decide +kernel
theorem dX1_nth_39 : decode cX1_nth 39 = .ok (.goto 14, 3) := by decide +kernel
theorem dX1_nth_42 : decode cX1_nth 42 = .ok (.iload_n 3, 1) := by decide +kernel
theorem dX1_nth_43 : decode cX1_nth 43 = .ok (.iload_n 2, 1) := by decide +kernel
theorem dX1_nth_44 : decode cX1_nth 44 = .ok (.if_icmp .ne 6, 3) := by decide +kernel
theorem dX1_nth_47 : decode cX1_nth 47 = .ok (.iload 4, 2) := by decide +kernel
theorem dX1_nth_49 : decode cX1_nth 49 = .ok (.ireturn, 1) := by decide +kernel
theorem dX1_nth_50 : decode cX1_nth 50 = .ok (.iinc 3 1, 3) := by decide +kernel
theorem dX1_nth_53 : decode cX1_nth 53 = .ok (.iinc 4 1, 3) := by decide +kernel
theorem dX1_nth_56 : decode cX1_nth 56 = .ok (.goto (-42), 3) := by decide +kernel
theorem dX1_nth_59 : decode cX1_nth 59 = .ok (.bipush (-2), 2) := by decide +kernel
theorem dX1_nth_61 : decode cX1_nth 61 = .ok (.ireturn, 1) := by decide +kernel
theorem dX1_value_0 : decode cX1_value 0 = .ok (.iload_n 1, 1) := by decide +kernel
theorem dX1_value_1 : decode cX1_value 1 = .ok (.invokestatic 27, 3) := by decide +kernel
theorem dX1_value_4 : decode cX1_value 4 = .ok (.ifCond .eq 15, 3) := by decide +kernel
theorem dX1_value_7 : decode cX1_value 7 = .ok (.iload_n 2, 1) := by decide +kernel
theorem dX1_value_8 : decode cX1_value 8 = .ok (.ifCond .lt 11, 3) := by decide +kernel
theorem dX1_value_11 : decode cX1_value 11 = .ok (.iload_n 2, 1) := by decide +kernel
theorem dX1_value_12 : decode cX1_value 12 = .ok (.aload_n 0, 1) := by decide +kernel
theorem dX1_value_13 : decode cX1_value 13 = .ok (.getfield 20, 3) := by decide +kernel
theorem dX1_value_16 : decode cX1_value 16 = .ok (.if_icmp .lt 5, 3) := by decide +kernel
theorem dX1_value_19 : decode cX1_value 19 = .ok (.iconst (-1), 1) := by decide +kernel
theorem dX1_value_20 : decode cX1_value 20 = .ok (.ireturn, 1) := by decide +kernel
theorem dX1_value_21 : decode cX1_value 21 = .ok (.aload_n 0, 1) := by decide +kernel
theorem dX1_value_22 : decode cX1_value 22 = .ok (.getfield 9, 3) := by decide +kernel
theorem dX1_value_25 : decode cX1_value 25 = .ok (.sipush 512, 3) := by decide +kernel
theorem dX1_value_28 : decode cX1_value 28 = .ok (.iload_n 1, 1) := by decide +kernel
theorem dX1_value_29 : decode cX1_value 29 = .ok (.imul, 1) := by decide +kernel
theorem dX1_value_30 : decode cX1_value 30 = .ok (.iload_n 2, 1) := by decide +kernel
theorem dX1_value_31 : decode cX1_value 31 = .ok (.iadd, 1) := by decide +kernel
theorem dX1_value_32 : decode cX1_value 32 = .ok (.baload, 1) := by decide +kernel
theorem dX1_value_33 : decode cX1_value 33 = .ok (.ifCond .eq 7, 3) := by decide +kernel
theorem dX1_value_36 : decode cX1_value 36 = .ok (.iconst 1, 1) := by decide +kernel
theorem dX1_value_37 : decode cX1_value 37 = .ok (.goto 4, 3) := by decide +kernel
theorem dX1_value_40 : decode cX1_value 40 = .ok (.iconst 0, 1) := by decide +kernel
theorem dX1_value_41 : decode cX1_value 41 = .ok (.ireturn, 1) := by decide +kernel
theorem dX1_same_0 : decode cX1_same 0 = .ok (.iload_n 1, 1) := by decide +kernel
theorem dX1_same_1 : decode cX1_same 1 = .ok (.invokestatic 27, 3) := by decide +kernel
theorem dX1_same_4 : decode cX1_same 4 = .ok (.ifCond .eq 10, 3) := by decide +kernel
theorem dX1_same_7 : decode cX1_same 7 = .ok (.iload_n 2, 1) := by decide +kernel
theorem dX1_same_8 : decode cX1_same 8 = .ok (.invokestatic 27, 3) := by decide +kernel
theorem dX1_same_11 : decode cX1_same 11 = .ok (.ifCond .ne 5, 3) := by decide +kernel
theorem dX1_same_14 : decode cX1_same 14 = .ok (.iconst 0, 1) := by decide +kernel
theorem dX1_same_15 : decode cX1_same 15 = .ok (.ireturn, 1) := by decide +kernel
theorem dX1_same_16 : decode cX1_same 16 = .ok (.iconst 0, 1) := by decide +kernel
theorem dX1_same_17 : decode cX1_same 17 = .ok (.istore_n 3, 1) := by decide +kernel
theorem dX1_same_18 : decode cX1_same 18 = .ok (.iload_n 3, 1) := by decide +kernel
theorem dX1_same_19 : decode cX1_same 19 = .ok (.aload_n 0, 1) := by decide +kernel
theorem dX1_same_20 : decode cX1_same 20 = .ok (.getfield 20, 3) := by decide +kernel
theorem dX1_same_23 : decode cX1_same 23 = .ok (.if_icmp .ge 38, 3) := by decide +kernel
theorem dX1_same_26 : decode cX1_same 26 = .ok (.aload_n 0, 1) := by decide +kernel
theorem dX1_same_27 : decode cX1_same 27 = .ok (.getfield 9, 3) := by decide +kernel
theorem dX1_same_30 : decode cX1_same 30 = .ok (.sipush 512, 3) := by decide +kernel
theorem dX1_same_33 : decode cX1_same 33 = .ok (.iload_n 1, 1) := by decide +kernel
theorem dX1_same_34 : decode cX1_same 34 = .ok (.imul, 1) := by decide +kernel
theorem dX1_same_35 : decode cX1_same 35 = .ok (.iload_n 3, 1) := by decide +kernel
theorem dX1_same_36 : decode cX1_same 36 = .ok (.iadd, 1) := by decide +kernel
theorem dX1_same_37 : decode cX1_same 37 = .ok (.baload, 1) := by decide +kernel
theorem dX1_same_38 : decode cX1_same 38 = .ok (.aload_n 0, 1) := by decide +kernel
theorem dX1_same_39 : decode cX1_same 39 = .ok (.getfield 9, 3) := by decide +kernel
theorem dX1_same_42 : decode cX1_same 42 = .ok (.sipush 512, 3) := by decide +kernel
theorem dX1_same_45 : decode cX1_same 45 = .ok (.iload_n 2, 1) := by decide +kernel
theorem dX1_same_46 : decode cX1_same 46 = .ok (.imul, 1) := by decide +kernel
theorem dX1_same_47 : decode cX1_same 47 = .ok (.iload_n 3, 1) := by decide +kernel
theorem dX1_same_48 : decode cX1_same 48 = .ok (.iadd, 1) := by decide +kernel
theorem dX1_same_49 : decode cX1_same 49 = .ok (.baload, 1) := by decide +kernel
theorem dX1_same_50 : decode cX1_same 50 = .ok (.if_icmp .eq 5, 3) := by decide +kernel
theorem dX1_same_53 : decode cX1_same 53 = .ok (.iconst 0, 1) := by decide +kernel
theorem dX1_same_54 : decode cX1_same 54 = .ok (.ireturn, 1) := by decide +kernel
theorem dX1_same_55 : decode cX1_same 55 = .ok (.iinc 3 1, 3) := by decide +kernel
theorem dX1_same_58 : decode cX1_same 58 = .ok (.goto (-40), 3) := by decide +kernel
theorem dX1_same_61 : decode cX1_same 61 = .ok (.iconst 1, 1) := by decide +kernel
theorem dX1_same_62 : decode cX1_same 62 = .ok (.ireturn, 1) := by decide +kernel
theorem dX1_alike_0 : decode cX1_alike 0 = .ok (.iconst 0, 1) := by decide +kernel
theorem dX1_alike_1 : decode cX1_alike 1 = .ok (.istore 5, 2) := by decide +kernel
theorem dX1_alike_3 : decode cX1_alike 3 = .ok (.iload 5, 2) := by decide +kernel
theorem dX1_alike_5 : decode cX1_alike 5 = .ok (.iload 4, 2) := by decide +kernel
theorem dX1_alike_7 : decode cX1_alike 7 = .ok (.if_icmp .ge 44, 3) := by decide +kernel
theorem dX1_alike_10 : decode cX1_alike 10 = .ok (.aload_n 0, 1) := by decide +kernel
theorem dX1_alike_11 : decode cX1_alike 11 = .ok (.getfield 9, 3) := by decide +kernel
theorem dX1_alike_14 : decode cX1_alike 14 = .ok (.sipush 512, 3) := by decide +kernel
theorem dX1_alike_17 : decode cX1_alike 17 = .ok (.iload_n 1, 1) := by decide +kernel
theorem dX1_alike_18 : decode cX1_alike 18 = .ok (.imul, 1) := by decide +kernel
theorem dX1_alike_19 : decode cX1_alike 19 = .ok (.iload_n 2, 1) := by decide +kernel
theorem dX1_alike_20 : decode cX1_alike 20 = .ok (.iadd, 1) := by decide +kernel
theorem dX1_alike_21 : decode cX1_alike 21 = .ok (.iload 5, 2) := by decide +kernel
theorem dX1_alike_23 : decode cX1_alike 23 = .ok (.iadd, 1) := by decide +kernel
theorem dX1_alike_24 : decode cX1_alike 24 = .ok (.baload, 1) := by decide +kernel
theorem dX1_alike_25 : decode cX1_alike 25 = .ok (.aload_n 0, 1) := by decide +kernel
theorem dX1_alike_26 : decode cX1_alike 26 = .ok (.getfield 9, 3) := by decide +kernel
theorem dX1_alike_29 : decode cX1_alike 29 = .ok (.sipush 512, 3) := by decide +kernel
theorem dX1_alike_32 : decode cX1_alike 32 = .ok (.iload_n 1, 1) := by decide +kernel
theorem dX1_alike_33 : decode cX1_alike 33 = .ok (.imul, 1) := by decide +kernel
theorem dX1_alike_34 : decode cX1_alike 34 = .ok (.iload_n 3, 1) := by decide +kernel
theorem dX1_alike_35 : decode cX1_alike 35 = .ok (.iadd, 1) := by decide +kernel
theorem dX1_alike_36 : decode cX1_alike 36 = .ok (.iload 5, 2) := by decide +kernel
theorem dX1_alike_38 : decode cX1_alike 38 = .ok (.iadd, 1) := by decide +kernel
theorem dX1_alike_39 : decode cX1_alike 39 = .ok (.baload, 1) := by decide +kernel
theorem dX1_alike_40 : decode cX1_alike 40 = .ok (.if_icmp .eq 5, 3) := by decide +kernel
theorem dX1_alike_43 : decode cX1_alike 43 = .ok (.iconst 0, 1) := by decide +kernel
theorem dX1_alike_44 : decode cX1_alike 44 = .ok (.ireturn, 1) := by decide +kernel
theorem dX1_alike_45 : decode cX1_alike 45 = .ok (.iinc 5 1, 3) := by decide +kernel
theorem dX1_alike_48 : decode cX1_alike 48 = .ok (.goto (-45), 3) := by decide +kernel
theorem dX1_alike_51 : decode cX1_alike 51 = .ok (.iconst 1, 1) := by decide +kernel
theorem dX1_alike_52 : decode cX1_alike 52 = .ok (.ireturn, 1) := by decide +kernel
theorem dX1_size_0 : decode cX1_size 0 = .ok (.iload_n 1, 1) := by decide +kernel
theorem dX1_size_1 : decode cX1_size 1 = .ok (.invokestatic 27, 3) := by decide +kernel
theorem dX1_size_4 : decode cX1_size 4 = .ok (.ifCond .ne 5, 3) := by decide +kernel
theorem dX1_size_7 : decode cX1_size 7 = .ok (.iconst (-1), 1) := by decide +kernel
theorem dX1_size_8 : decode cX1_size 8 = .ok (.ireturn, 1) := by decide +kernel
theorem dX1_size_9 : decode cX1_size 9 = .ok (.iconst 0, 1) := by decide +kernel
theorem dX1_size_10 : decode cX1_size 10 = .ok (.istore_n 2, 1) := by decide +kernel
theorem dX1_size_11 : decode cX1_size 11 = .ok (.iconst 0, 1) := by decide +kernel
theorem dX1_size_12 : decode cX1_size 12 = .ok (.istore_n 3, 1) := by decide +kernel
theorem dX1_size_13 : decode cX1_size 13 = .ok (.iload_n 3, 1) := by decide +kernel
theorem dX1_size_14 : decode cX1_size 14 = .ok (.aload_n 0, 1) := by decide +kernel
theorem dX1_size_15 : decode cX1_size 15 = .ok (.getfield 16, 3) := by decide +kernel
theorem dX1_size_18 : decode cX1_size 18 = .ok (.if_icmp .ge 121, 3) := by decide +kernel
theorem dX1_size_21 : decode cX1_size 21 = .ok (.aload_n 0, 1) := by decide +kernel
theorem dX1_size_22 : decode cX1_size 22 = .ok (.getfield 20, 3) := by decide +kernel
theorem dX1_size_25 : decode cX1_size 25 = .ok (.iload_n 3, 1) := by decide +kernel
theorem dX1_size_26 : decode cX1_size 26 = .ok (.ishr, 1) := by decide +kernel
theorem dX1_size_27 : decode cX1_size 27 = .ok (.istore 4, 2) := by decide +kernel
theorem dX1_size_29 : decode cX1_size 29 = .ok (.iconst 0, 1) := by decide +kernel
theorem dX1_size_30 : decode cX1_size 30 = .ok (.istore 5, 2) := by decide +kernel
theorem dX1_size_32 : decode cX1_size 32 = .ok (.iload 5, 2) := by decide +kernel
theorem dX1_size_34 : decode cX1_size 34 = .ok (.aload_n 0, 1) := by decide +kernel
theorem dX1_size_35 : decode cX1_size 35 = .ok (.getfield 20, 3) := by decide +kernel
theorem dX1_size_38 : decode cX1_size 38 = .ok (.if_icmp .ge 95, 3) := by decide +kernel
theorem dX1_size_41 : decode cX1_size 41 = .ok (.aload_n 0, 1) := by decide +kernel
theorem dX1_size_42 : decode cX1_size 42 = .ok (.iload_n 1, 1) := by decide +kernel
theorem dX1_size_43 : decode cX1_size 43 = .ok (.iload 5, 2) := by decide +kernel
theorem dX1_size_45 : decode cX1_size 45 = .ok (.iload 5, 2) := by decide +kernel
theorem dX1_size_47 : decode cX1_size 47 = .ok (.iload 4, 2) := by decide +kernel
theorem dX1_size_49 : decode cX1_size 49 = .ok (.iconst 2, 1) := by decide +kernel
theorem dX1_size_50 : decode cX1_size 50 = .ok (.idiv, 1) := by decide +kernel
theorem dX1_size_51 : decode cX1_size 51 = .ok (.iadd, 1) := by decide +kernel
theorem dX1_size_52 : decode cX1_size 52 = .ok (.iload 4, 2) := by decide +kernel
theorem dX1_size_54 : decode cX1_size 54 = .ok (.iconst 2, 1) := by decide +kernel
theorem dX1_size_55 : decode cX1_size 55 = .ok (.idiv, 1) := by decide +kernel
theorem dX1_size_56 : decode cX1_size 56 = .ok (.invokevirtual 40, 3) := by decide +kernel
theorem dX1_size_59 : decode cX1_size 59 = .ok (.ifCond .ne 7, 3) := by decide +kernel
theorem dX1_size_62 : decode cX1_size 62 = .ok (.iconst 1, 1) := by decide +kernel
theorem dX1_size_63 : decode cX1_size 63 = .ok (.goto 4, 3) := by decide +kernel
theorem dX1_size_66 : decode cX1_size 66 = .ok (.iconst 0, 1) := by decide +kernel
theorem dX1_size_67 : decode cX1_size 67 = .ok (.istore 6, 2) := by decide +kernel
theorem dX1_size_69 : decode cX1_size 69 = .ok (.iconst 0, 1) := by decide +kernel
theorem dX1_size_70 : decode cX1_size 70 = .ok (.istore 7, 2) := by decide +kernel
theorem dX1_size_72 : decode cX1_size 72 = .ok (.iload 7, 2) := by decide +kernel
theorem dX1_size_74 : decode cX1_size 74 = .ok (.iload 5, 2) := by decide +kernel
theorem dX1_size_76 : decode cX1_size 76 = .ok (.if_icmp .ge 39, 3) := by decide +kernel
theorem dX1_size_79 : decode cX1_size 79 = .ok (.iload 6, 2) := by decide +kernel
theorem dX1_size_81 : decode cX1_size 81 = .ok (.ifCond .eq 34, 3) := by decide +kernel
theorem dX1_size_84 : decode cX1_size 84 = .ok (.aload_n 0, 1) := by decide +kernel
theorem dX1_size_85 : decode cX1_size 85 = .ok (.iload_n 1, 1) := by decide +kernel
theorem dX1_size_86 : decode cX1_size 86 = .ok (.iload 5, 2) := by decide +kernel
theorem dX1_size_88 : decode cX1_size 88 = .ok (.iload 7, 2) := by decide +kernel
theorem dX1_size_90 : decode cX1_size 90 = .ok (.iload 4, 2) := by decide +kernel
theorem dX1_size_92 : decode cX1_size 92 = .ok (.invokevirtual 40, 3) := by decide +kernel
theorem dX1_size_95 : decode cX1_size 95 = .ok (.ifCond .ne 7, 3) := by decide +kernel
theorem dX1_size_98 : decode cX1_size 98 = .ok (.iconst 1, 1) := by decide +kernel
theorem dX1_size_99 : decode cX1_size 99 = .ok (.goto 4, 3) := by decide +kernel
theorem dX1_size_102 : decode cX1_size 102 = .ok (.iconst 0, 1) := by decide +kernel
theorem dX1_size_103 : decode cX1_size 103 = .ok (.istore 6, 2) := by decide +kernel
theorem dX1_size_105 : decode cX1_size 105 = .ok (.iload 7, 2) := by decide +kernel
theorem dX1_size_107 : decode cX1_size 107 = .ok (.iload 4, 2) := by decide +kernel
theorem dX1_size_109 : decode cX1_size 109 = .ok (.iadd, 1) := by decide +kernel
theorem dX1_size_110 : decode cX1_size 110 = .ok (.istore 7, 2) := by decide +kernel
theorem dX1_size_112 : decode cX1_size 112 = .ok (.goto (-40), 3) := by decide +kernel
theorem dX1_size_115 : decode cX1_size 115 = .ok (.iload 6, 2) := by decide +kernel
theorem dX1_size_117 : decode cX1_size 117 = .ok (.ifCond .eq 6, 3) := by decide +kernel
theorem dX1_size_120 : decode cX1_size 120 = .ok (.iinc 2 1, 3) := by decide +kernel
theorem dX1_size_123 : decode cX1_size 123 = .ok (.iload 5, 2) := by decide +kernel
theorem dX1_size_125 : decode cX1_size 125 = .ok (.iload 4, 2) := by decide +kernel
theorem dX1_size_127 : decode cX1_size 127 = .ok (.iadd, 1) := by decide +kernel
theorem dX1_size_128 : decode cX1_size 128 = .ok (.istore 5, 2) := by decide +kernel
theorem dX1_size_130 : decode cX1_size 130 = .ok (.goto (-98), 3) := by decide +kernel
theorem dX1_size_133 : decode cX1_size 133 = .ok (.iinc 3 1, 3) := by decide +kernel
theorem dX1_size_136 : decode cX1_size 136 = .ok (.goto (-123), 3) := by decide +kernel
theorem dX1_size_139 : decode cX1_size 139 = .ok (.iload_n 2, 1) := by decide +kernel
theorem dX1_size_140 : decode cX1_size 140 = .ok (.ireturn, 1) := by decide +kernel
theorem dX1_matters_0 : decode cX1_matters 0 = .ok (.iload_n 1, 1) := by decide +kernel
theorem dX1_matters_1 : decode cX1_matters 1 = .ok (.invokestatic 27, 3) := by decide +kernel
theorem dX1_matters_4 : decode cX1_matters 4 = .ok (.ifCond .ne 5, 3) := by decide +kernel
theorem dX1_matters_7 : decode cX1_matters 7 = .ok (.iconst (-1), 1) := by decide +kernel
theorem dX1_matters_8 : decode cX1_matters 8 = .ok (.ireturn, 1) := by decide +kernel
theorem dX1_matters_9 : decode cX1_matters 9 = .ok (.iconst 0, 1) := by decide +kernel
theorem dX1_matters_10 : decode cX1_matters 10 = .ok (.istore_n 2, 1) := by decide +kernel
theorem dX1_matters_11 : decode cX1_matters 11 = .ok (.iconst 0, 1) := by decide +kernel
theorem dX1_matters_12 : decode cX1_matters 12 = .ok (.istore_n 3, 1) := by decide +kernel
theorem dX1_matters_13 : decode cX1_matters 13 = .ok (.iload_n 3, 1) := by decide +kernel
theorem dX1_matters_14 : decode cX1_matters 14 = .ok (.aload_n 0, 1) := by decide +kernel
theorem dX1_matters_15 : decode cX1_matters 15 = .ok (.getfield 16, 3) := by decide +kernel
theorem dX1_matters_18 : decode cX1_matters 18 = .ok (.if_icmp .ge 68, 3) := by decide +kernel
theorem dX1_matters_21 : decode cX1_matters 21 = .ok (.iconst 0, 1) := by decide +kernel
theorem dX1_matters_22 : decode cX1_matters 22 = .ok (.istore 4, 2) := by decide +kernel
theorem dX1_matters_24 : decode cX1_matters 24 = .ok (.iload 4, 2) := by decide +kernel
theorem dX1_matters_26 : decode cX1_matters 26 = .ok (.aload_n 0, 1) := by decide +kernel
theorem dX1_matters_27 : decode cX1_matters 27 = .ok (.getfield 20, 3) := by decide +kernel
theorem dX1_matters_30 : decode cX1_matters 30 = .ok (.if_icmp .ge 50, 3) := by decide +kernel
theorem dX1_matters_33 : decode cX1_matters 33 = .ok (.aload_n 0, 1) := by decide +kernel
theorem dX1_matters_34 : decode cX1_matters 34 = .ok (.getfield 9, 3) := by decide +kernel
theorem dX1_matters_37 : decode cX1_matters 37 = .ok (.sipush 512, 3) := by decide +kernel
theorem dX1_matters_40 : decode cX1_matters 40 = .ok (.iload_n 1, 1) := by decide +kernel
theorem dX1_matters_41 : decode cX1_matters 41 = .ok (.imul, 1) := by decide +kernel
theorem dX1_matters_42 : decode cX1_matters 42 = .ok (.iload 4, 2) := by decide +kernel
theorem dX1_matters_44 : decode cX1_matters 44 = .ok (.iadd, 1) := by decide +kernel
theorem dX1_matters_45 : decode cX1_matters 45 = .ok (.baload, 1) := by decide +kernel
theorem dX1_matters_46 : decode cX1_matters 46 = .ok (.aload_n 0, 1) := by decide +kernel
theorem dX1_matters_47 : decode cX1_matters 47 = .ok (.getfield 9, 3) := by decide +kernel
theorem dX1_matters_50 : decode cX1_matters 50 = .ok (.sipush 512, 3) := by decide +kernel
theorem dX1_matters_53 : decode cX1_matters 53 = .ok (.iload_n 1, 1) := by decide +kernel
theorem dX1_matters_54 : decode cX1_matters 54 = .ok (.imul, 1) := by decide +kernel
theorem dX1_matters_55 : decode cX1_matters 55 = .ok (.iload 4, 2) := by decide +kernel
theorem dX1_matters_57 : decode cX1_matters 57 = .ok (.aload_n 0, 1) := by decide +kernel
theorem dX1_matters_58 : decode cX1_matters 58 = .ok (.iload_n 3, 1) := by decide +kernel
theorem dX1_matters_59 : decode cX1_matters 59 = .ok (.invokevirtual 31, 3) := by decide +kernel
theorem dX1_matters_62 : decode cX1_matters 62 = .ok (.ixor, 1) := by decide +kernel
theorem dX1_matters_63 : decode cX1_matters 63 = .ok (.iadd, 1) := by decide +kernel
theorem dX1_matters_64 : decode cX1_matters 64 = .ok (.baload, 1) := by decide +kernel
theorem dX1_matters_65 : decode cX1_matters 65 = .ok (.if_icmp .eq 9, 3) := by decide +kernel
theorem dX1_matters_68 : decode cX1_matters 68 = .ok (.iload_n 2, 1) := by decide +kernel
theorem dX1_matters_69 : decode cX1_matters 69 = .ok (.iconst 1, 1) := by decide +kernel
theorem dX1_matters_70 : decode cX1_matters 70 = .ok (.iload_n 3, 1) := by decide +kernel
theorem dX1_matters_71 : decode cX1_matters 71 = .ok (.ishl, 1) := by decide +kernel
theorem dX1_matters_72 : decode cX1_matters 72 = .ok (.ior, 1) := by decide +kernel
theorem dX1_matters_73 : decode cX1_matters 73 = .ok (.istore_n 2, 1) := by decide +kernel
theorem dX1_matters_74 : decode cX1_matters 74 = .ok (.iinc 4 1, 3) := by decide +kernel
theorem dX1_matters_77 : decode cX1_matters 77 = .ok (.goto (-53), 3) := by decide +kernel
theorem dX1_matters_80 : decode cX1_matters 80 = .ok (.iinc 3 1, 3) := by decide +kernel
theorem dX1_matters_83 : decode cX1_matters 83 = .ok (.goto (-70), 3) := by decide +kernel
theorem dX1_matters_86 : decode cX1_matters 86 = .ok (.iload_n 2, 1) := by decide +kernel
theorem dX1_matters_87 : decode cX1_matters 87 = .ok (.ireturn, 1) := by decide +kernel
