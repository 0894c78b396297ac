theorem d_Mod_init_0 : decode b_Mod_init 0 = .ok (.aload_n 0, 1) := by decide +kernel
theorem d_Mod_init_1 : decode b_Mod_init 1 = .ok (.invokespecial 1, 3) := by decide +kernel
theorem d_Mod_init_4 : decode b_Mod_init 4 = .ok (.aload_n 0, 1) := by decide +kernel
theorem d_Mod_init_5 : decode b_Mod_init 5 = .ok (.bipush 16, 2) := by decide +kernel
theorem d_Mod_init_7 : decode b_Mod_init 7 = .ok (.newarray .int, 2) := by decide +kernel
theorem d_Mod_init_9 : decode b_Mod_init 9 = .ok (.putfield 7, 3) := by decide +kernel
theorem d_Mod_init_12 : decode b_Mod_init 12 = .ok (.aload_n 0, 1) := by decide +kernel
theorem d_Mod_init_13 : decode b_Mod_init 13 = .ok (.bipush 16, 2) := by decide +kernel
theorem d_Mod_init_15 : decode b_Mod_init 15 = .ok (.newarray .int, 2) := by decide +kernel
theorem d_Mod_init_17 : decode b_Mod_init 17 = .ok (.putfield 13, 3) := by decide +kernel
theorem d_Mod_init_20 : decode b_Mod_init 20 = .ok (.aload_n 0, 1) := by decide +kernel
theorem d_Mod_init_21 : decode b_Mod_init 21 = .ok (.bipush 16, 2) := by decide +kernel
theorem d_Mod_init_23 : decode b_Mod_init 23 = .ok (.newarray .int, 2) := by decide +kernel
theorem d_Mod_init_25 : decode b_Mod_init 25 = .ok (.putfield 16, 3) := by decide +kernel
theorem d_Mod_init_28 : decode b_Mod_init 28 = .ok (.aload_n 0, 1) := by decide +kernel
theorem d_Mod_init_29 : decode b_Mod_init 29 = .ok (.bipush 16, 2) := by decide +kernel
theorem d_Mod_init_31 : decode b_Mod_init 31 = .ok (.newarray .int, 2) := by decide +kernel
theorem d_Mod_init_33 : decode b_Mod_init 33 = .ok (.putfield 19, 3) := by decide +kernel
theorem d_Mod_init_36 : decode b_Mod_init 36 = .ok (.aload_n 0, 1) := by decide +kernel
theorem d_Mod_init_37 : decode b_Mod_init 37 = .ok (.bipush 16, 2) := by decide +kernel
theorem d_Mod_init_39 : decode b_Mod_init 39 = .ok (.newarray .int, 2) := by decide +kernel
theorem d_Mod_init_41 : decode b_Mod_init 41 = .ok (.putfield 22, 3) := by decide +kernel
theorem d_Mod_init_44 : decode b_Mod_init 44 = .ok (.aload_n 0, 1) := by decide +kernel
theorem d_Mod_init_45 : decode b_Mod_init 45 = .ok (.sipush 528, 3) := by decide +kernel
theorem d_Mod_init_48 : decode b_Mod_init 48 = .ok (.newarray .int, 2) := by decide +kernel
theorem d_Mod_init_50 : decode b_Mod_init 50 = .ok (.putfield 25, 3) := by decide +kernel
theorem d_Mod_init_53 : decode b_Mod_init 53 = .ok (.aload_n 0, 1) := by decide +kernel
theorem d_Mod_init_54 : decode b_Mod_init 54 = .ok (.sipush 528, 3) := by decide +kernel
theorem d_Mod_init_57 : decode b_Mod_init 57 = .ok (.newarray .int, 2) := by decide +kernel
theorem d_Mod_init_59 : decode b_Mod_init 59 = .ok (.putfield 28, 3) := by decide +kernel
theorem d_Mod_init_62 : decode b_Mod_init 62 = .ok (.return_, 1) := by decide +kernel
theorem d_Mod_thrown_0 : decode b_Mod_thrown 0 = .ok (.aload_n 0, 1) := by decide +kernel
theorem d_Mod_thrown_1 : decode b_Mod_thrown 1 = .ok (.getfield 31, 3) := by decide +kernel
theorem d_Mod_thrown_4 : decode b_Mod_thrown 4 = .ok (.ireturn, 1) := by decide +kernel
theorem d_Mod_fail_0 : decode b_Mod_fail 0 = .ok (.aload_n 0, 1) := by decide +kernel
theorem d_Mod_fail_1 : decode b_Mod_fail 1 = .ok (.iload_n 1, 1) := by decide +kernel
theorem d_Mod_fail_2 : decode b_Mod_fail 2 = .ok (.putfield 31, 3) := by decide +kernel
theorem d_Mod_fail_5 : decode b_Mod_fail 5 = .ok (.iconst 0, 1) := by decide +kernel
theorem d_Mod_fail_6 : decode b_Mod_fail 6 = .ok (.ireturn, 1) := by decide +kernel
theorem d_Mod_area_0 : decode b_Mod_area 0 = .ok (.iload_n 1, 1) := by decide +kernel
theorem d_Mod_area_1 : decode b_Mod_area 1 = .ok (.ifCond .lt 37, 3) := by decide +kernel
theorem d_Mod_area_4 : decode b_Mod_area 4 = .ok (.iload_n 2, 1) := by decide +kernel
theorem d_Mod_area_5 : decode b_Mod_area 5 = .ok (.ifCond .lt 33, 3) := by decide +kernel
theorem d_Mod_area_8 : decode b_Mod_area 8 = .ok (.iload_n 1, 1) := by decide +kernel
theorem d_Mod_area_9 : decode b_Mod_area 9 = .ok (.iload_n 3, 1) := by decide +kernel
theorem d_Mod_area_10 : decode b_Mod_area 10 = .ok (.if_icmp .ge 28, 3) := by decide +kernel
theorem d_Mod_area_13 : decode b_Mod_area 13 = .ok (.iload_n 2, 1) := by decide +kernel
theorem d_Mod_area_14 : decode b_Mod_area 14 = .ok (.iload 4, 2) := by decide +kernel
theorem d_Mod_area_16 : decode b_Mod_area 16 = .ok (.if_icmp .ge 22, 3) := by decide +kernel
theorem d_Mod_area_19 : decode b_Mod_area 19 = .ok (.iload_n 3, 1) := by decide +kernel
theorem d_Mod_area_20 : decode b_Mod_area 20 = .ok (.sipush 32767, 3) := by decide +kernel
theorem d_Mod_area_23 : decode b_Mod_area 23 = .ok (.if_icmp .gt 15, 3) := by decide +kernel
theorem d_Mod_area_26 : decode b_Mod_area 26 = .ok (.iload 4, 2) := by decide +kernel
theorem d_Mod_area_28 : decode b_Mod_area 28 = .ok (.sipush 32767, 3) := by decide +kernel
theorem d_Mod_area_31 : decode b_Mod_area 31 = .ok (.if_icmp .gt 7, 3) := by decide +kernel
theorem d_Mod_area_34 : decode b_Mod_area 34 = .ok (.iconst 1, 1) := by decide +kernel
theorem d_Mod_area_35 : decode b_Mod_area 35 = .ok (.goto 4, 3) := by decide +kernel
theorem d_Mod_area_38 : decode b_Mod_area 38 = .ok (.iconst 0, 1) := by decide +kernel
theorem d_Mod_area_39 : decode b_Mod_area 39 = .ok (.istore 5, 2) := by decide +kernel
theorem d_Mod_area_41 : decode b_Mod_area 41 = .ok (.aload_n 0, 1) := by decide +kernel
theorem d_Mod_area_42 : decode b_Mod_area 42 = .ok (.iload 5, 2) := by decide +kernel
theorem d_Mod_area_44 : decode b_Mod_area 44 = .ok (.ifCond .eq 7, 3) := by decide +kernel
theorem d_Mod_area_47 : decode b_Mod_area 47 = .ok (.iconst 0, 1) := by decide +kernel
theorem d_Mod_area_48 : decode b_Mod_area 48 = .ok (.goto 4, 3) := by decide +kernel
theorem d_Mod_area_51 : decode b_Mod_area 51 = .ok (.iconst 1, 1) := by decide +kernel
theorem d_Mod_area_52 : decode b_Mod_area 52 = .ok (.putfield 31, 3) := by decide +kernel
theorem d_Mod_area_55 : decode b_Mod_area 55 = .ok (.iload 5, 2) := by decide +kernel
theorem d_Mod_area_57 : decode b_Mod_area 57 = .ok (.ifCond .ne 4, 3) := by decide +kernel
theorem d_Mod_area_60 : decode b_Mod_area 60 = .ok (.return_, 1) := by decide +kernel
theorem d_Mod_area_61 : decode b_Mod_area 61 = .ok (.aload_n 0, 1) := by decide +kernel
theorem d_Mod_area_62 : decode b_Mod_area 62 = .ok (.iconst 1, 1) := by decide +kernel
theorem d_Mod_area_63 : decode b_Mod_area 63 = .ok (.putfield 35, 3) := by decide +kernel
theorem d_Mod_area_66 : decode b_Mod_area 66 = .ok (.aload_n 0, 1) := by decide +kernel
theorem d_Mod_area_67 : decode b_Mod_area 67 = .ok (.iload_n 1, 1) := by decide +kernel
theorem d_Mod_area_68 : decode b_Mod_area 68 = .ok (.putfield 39, 3) := by decide +kernel
theorem d_Mod_area_71 : decode b_Mod_area 71 = .ok (.aload_n 0, 1) := by decide +kernel
theorem d_Mod_area_72 : decode b_Mod_area 72 = .ok (.iload_n 2, 1) := by decide +kernel
theorem d_Mod_area_73 : decode b_Mod_area 73 = .ok (.putfield 42, 3) := by decide +kernel
theorem d_Mod_area_76 : decode b_Mod_area 76 = .ok (.aload_n 0, 1) := by decide +kernel
theorem d_Mod_area_77 : decode b_Mod_area 77 = .ok (.iload_n 3, 1) := by decide +kernel
theorem d_Mod_area_78 : decode b_Mod_area 78 = .ok (.putfield 45, 3) := by decide +kernel
theorem d_Mod_area_81 : decode b_Mod_area 81 = .ok (.aload_n 0, 1) := by decide +kernel
theorem d_Mod_area_82 : decode b_Mod_area 82 = .ok (.iload 4, 2) := by decide +kernel
theorem d_Mod_area_84 : decode b_Mod_area 84 = .ok (.putfield 48, 3) := by decide +kernel
theorem d_Mod_area_87 : decode b_Mod_area 87 = .ok (.aload_n 0, 1) := by decide +kernel
theorem d_Mod_area_88 : decode b_Mod_area 88 = .ok (.iconst 0, 1) := by decide +kernel
theorem d_Mod_area_89 : decode b_Mod_area 89 = .ok (.putfield 51, 3) := by decide +kernel
theorem d_Mod_area_92 : decode b_Mod_area 92 = .ok (.aload_n 0, 1) := by decide +kernel
theorem d_Mod_area_93 : decode b_Mod_area 93 = .ok (.iconst 0, 1) := by decide +kernel
theorem d_Mod_area_94 : decode b_Mod_area 94 = .ok (.putfield 54, 3) := by decide +kernel
theorem d_Mod_area_97 : decode b_Mod_area 97 = .ok (.aload_n 0, 1) := by decide +kernel
theorem d_Mod_area_98 : decode b_Mod_area 98 = .ok (.iload_n 3, 1) := by decide +kernel
theorem d_Mod_area_99 : decode b_Mod_area 99 = .ok (.putfield 57, 3) := by decide +kernel
theorem d_Mod_area_102 : decode b_Mod_area 102 = .ok (.aload_n 0, 1) := by decide +kernel
theorem d_Mod_area_103 : decode b_Mod_area 103 = .ok (.iload 4, 2) := by decide +kernel
theorem d_Mod_area_105 : decode b_Mod_area 105 = .ok (.putfield 60, 3) := by decide +kernel
theorem d_Mod_area_108 : decode b_Mod_area 108 = .ok (.aload_n 0, 1) := by decide +kernel
theorem d_Mod_area_109 : decode b_Mod_area 109 = .ok (.iconst 1, 1) := by decide +kernel
theorem d_Mod_area_110 : decode b_Mod_area 110 = .ok (.putfield 63, 3) := by decide +kernel
theorem d_Mod_area_113 : decode b_Mod_area 113 = .ok (.aload_n 0, 1) := by decide +kernel
theorem d_Mod_area_114 : decode b_Mod_area 114 = .ok (.iconst 1, 1) := by decide +kernel
theorem d_Mod_area_115 : decode b_Mod_area 115 = .ok (.putfield 66, 3) := by decide +kernel
theorem d_Mod_area_118 : decode b_Mod_area 118 = .ok (.return_, 1) := by decide +kernel
theorem d_Mod_pieces_0 : decode b_Mod_pieces 0 = .ok (.iload_n 1, 1) := by decide +kernel
theorem d_Mod_pieces_1 : decode b_Mod_pieces 1 = .ok (.iload_n 0, 1) := by decide +kernel
theorem d_Mod_pieces_2 : decode b_Mod_pieces 2 = .ok (.isub, 1) := by decide +kernel
theorem d_Mod_pieces_3 : decode b_Mod_pieces 3 = .ok (.iload_n 2, 1) := by decide +kernel
theorem d_Mod_pieces_4 : decode b_Mod_pieces 4 = .ok (.idiv, 1) := by decide +kernel
theorem d_Mod_pieces_5 : decode b_Mod_pieces 5 = .ok (.istore_n 3, 1) := by decide +kernel
theorem d_Mod_pieces_6 : decode b_Mod_pieces 6 = .ok (.iload_n 3, 1) := by decide +kernel
theorem d_Mod_pieces_7 : decode b_Mod_pieces 7 = .ok (.iload_n 2, 1) := by decide +kernel
theorem d_Mod_pieces_8 : decode b_Mod_pieces 8 = .ok (.imul, 1) := by decide +kernel
theorem d_Mod_pieces_9 : decode b_Mod_pieces 9 = .ok (.iload_n 1, 1) := by decide +kernel
theorem d_Mod_pieces_10 : decode b_Mod_pieces 10 = .ok (.iload_n 0, 1) := by decide +kernel
theorem d_Mod_pieces_11 : decode b_Mod_pieces 11 = .ok (.isub, 1) := by decide +kernel
theorem d_Mod_pieces_12 : decode b_Mod_pieces 12 = .ok (.if_icmp .ge 9, 3) := by decide +kernel
theorem d_Mod_pieces_15 : decode b_Mod_pieces 15 = .ok (.iload_n 3, 1) := by decide +kernel
theorem d_Mod_pieces_16 : decode b_Mod_pieces 16 = .ok (.iconst 1, 1) := by decide +kernel
theorem d_Mod_pieces_17 : decode b_Mod_pieces 17 = .ok (.iadd, 1) := by decide +kernel
theorem d_Mod_pieces_18 : decode b_Mod_pieces 18 = .ok (.goto 4, 3) := by decide +kernel
theorem d_Mod_pieces_21 : decode b_Mod_pieces 21 = .ok (.iload_n 3, 1) := by decide +kernel
theorem d_Mod_pieces_22 : decode b_Mod_pieces 22 = .ok (.ireturn, 1) := by decide +kernel
theorem d_Mod_tiles_0 : decode b_Mod_tiles 0 = .ok (.aload_n 0, 1) := by decide +kernel
theorem d_Mod_tiles_1 : decode b_Mod_tiles 1 = .ok (.getfield 35, 3) := by decide +kernel
theorem d_Mod_tiles_4 : decode b_Mod_tiles 4 = .ok (.ifCond .ne 9, 3) := by decide +kernel
theorem d_Mod_tiles_7 : decode b_Mod_tiles 7 = .ok (.aload_n 0, 1) := by decide +kernel
theorem d_Mod_tiles_8 : decode b_Mod_tiles 8 = .ok (.iconst 1, 1) := by decide +kernel
theorem d_Mod_tiles_9 : decode b_Mod_tiles 9 = .ok (.invokevirtual 69, 3) := by decide +kernel
theorem d_Mod_tiles_12 : decode b_Mod_tiles 12 = .ok (.ireturn, 1) := by decide +kernel
theorem d_Mod_tiles_13 : decode b_Mod_tiles 13 = .ok (.iload_n 1, 1) := by decide +kernel
theorem d_Mod_tiles_14 : decode b_Mod_tiles 14 = .ok (.ifCond .lt 53, 3) := by decide +kernel
theorem d_Mod_tiles_17 : decode b_Mod_tiles 17 = .ok (.iload_n 2, 1) := by decide +kernel
theorem d_Mod_tiles_18 : decode b_Mod_tiles 18 = .ok (.ifCond .lt 49, 3) := by decide +kernel
theorem d_Mod_tiles_21 : decode b_Mod_tiles 21 = .ok (.iload_n 3, 1) := by decide +kernel
theorem d_Mod_tiles_22 : decode b_Mod_tiles 22 = .ok (.iconst 1, 1) := by decide +kernel
theorem d_Mod_tiles_23 : decode b_Mod_tiles 23 = .ok (.if_icmp .lt 44, 3) := by decide +kernel
theorem d_Mod_tiles_26 : decode b_Mod_tiles 26 = .ok (.iload_n 3, 1) := by decide +kernel
theorem d_Mod_tiles_27 : decode b_Mod_tiles 27 = .ok (.sipush 32767, 3) := by decide +kernel
theorem d_Mod_tiles_30 : decode b_Mod_tiles 30 = .ok (.if_icmp .gt 37, 3) := by decide +kernel
theorem d_Mod_tiles_33 : decode b_Mod_tiles 33 = .ok (.iload 4, 2) := by decide +kernel
theorem d_Mod_tiles_35 : decode b_Mod_tiles 35 = .ok (.iconst 1, 1) := by decide +kernel
theorem d_Mod_tiles_36 : decode b_Mod_tiles 36 = .ok (.if_icmp .lt 31, 3) := by decide +kernel
theorem d_Mod_tiles_39 : decode b_Mod_tiles 39 = .ok (.iload 4, 2) := by decide +kernel
theorem d_Mod_tiles_41 : decode b_Mod_tiles 41 = .ok (.sipush 32767, 3) := by decide +kernel
theorem d_Mod_tiles_44 : decode b_Mod_tiles 44 = .ok (.if_icmp .gt 23, 3) := by decide +kernel
theorem d_Mod_tiles_47 : decode b_Mod_tiles 47 = .ok (.iload_n 1, 1) := by decide +kernel
theorem d_Mod_tiles_48 : decode b_Mod_tiles 48 = .ok (.aload_n 0, 1) := by decide +kernel
theorem d_Mod_tiles_49 : decode b_Mod_tiles 49 = .ok (.getfield 39, 3) := by decide +kernel
theorem d_Mod_tiles_52 : decode b_Mod_tiles 52 = .ok (.if_icmp .gt 15, 3) := by decide +kernel
theorem d_Mod_tiles_55 : decode b_Mod_tiles 55 = .ok (.iload_n 2, 1) := by decide +kernel
theorem d_Mod_tiles_56 : decode b_Mod_tiles 56 = .ok (.aload_n 0, 1) := by decide +kernel
theorem d_Mod_tiles_57 : decode b_Mod_tiles 57 = .ok (.getfield 42, 3) := by decide +kernel
theorem d_Mod_tiles_60 : decode b_Mod_tiles 60 = .ok (.if_icmp .gt 7, 3) := by decide +kernel
theorem d_Mod_tiles_63 : decode b_Mod_tiles 63 = .ok (.iconst 1, 1) := by decide +kernel
theorem d_Mod_tiles_64 : decode b_Mod_tiles 64 = .ok (.goto 4, 3) := by decide +kernel
theorem d_Mod_tiles_67 : decode b_Mod_tiles 67 = .ok (.iconst 0, 1) := by decide +kernel
theorem d_Mod_tiles_68 : decode b_Mod_tiles 68 = .ok (.istore 5, 2) := by decide +kernel
theorem d_Mod_tiles_70 : decode b_Mod_tiles 70 = .ok (.iload 5, 2) := by decide +kernel
theorem d_Mod_tiles_72 : decode b_Mod_tiles 72 = .ok (.ifCond .eq 28, 3) := by decide +kernel
theorem d_Mod_tiles_75 : decode b_Mod_tiles 75 = .ok (.iload_n 1, 1) := by decide +kernel
theorem d_Mod_tiles_76 : decode b_Mod_tiles 76 = .ok (.iload_n 3, 1) := by decide +kernel
theorem d_Mod_tiles_77 : decode b_Mod_tiles 77 = .ok (.iadd, 1) := by decide +kernel
theorem d_Mod_tiles_78 : decode b_Mod_tiles 78 = .ok (.aload_n 0, 1) := by decide +kernel
theorem d_Mod_tiles_79 : decode b_Mod_tiles 79 = .ok (.getfield 39, 3) := by decide +kernel
theorem d_Mod_tiles_82 : decode b_Mod_tiles 82 = .ok (.if_icmp .le 18, 3) := by decide +kernel
theorem d_Mod_tiles_85 : decode b_Mod_tiles 85 = .ok (.iload_n 2, 1) := by decide +kernel
theorem d_Mod_tiles_86 : decode b_Mod_tiles 86 = .ok (.iload 4, 2) := by decide +kernel
theorem d_Mod_tiles_88 : decode b_Mod_tiles 88 = .ok (.iadd, 1) := by decide +kernel
theorem d_Mod_tiles_89 : decode b_Mod_tiles 89 = .ok (.aload_n 0, 1) := by decide +kernel
theorem d_Mod_tiles_90 : decode b_Mod_tiles 90 = .ok (.getfield 42, 3) := by decide +kernel
theorem d_Mod_tiles_93 : decode b_Mod_tiles 93 = .ok (.if_icmp .le 7, 3) := by decide +kernel
theorem d_Mod_tiles_96 : decode b_Mod_tiles 96 = .ok (.iconst 1, 1) := by decide +kernel
theorem d_Mod_tiles_97 : decode b_Mod_tiles 97 = .ok (.goto 4, 3) := by decide +kernel
theorem d_Mod_tiles_100 : decode b_Mod_tiles 100 = .ok (.iconst 0, 1) := by decide +kernel
theorem d_Mod_tiles_101 : decode b_Mod_tiles 101 = .ok (.istore 5, 2) := by decide +kernel
theorem d_Mod_tiles_103 : decode b_Mod_tiles 103 = .ok (.iload 5, 2) := by decide +kernel
theorem d_Mod_tiles_105 : decode b_Mod_tiles 105 = .ok (.ifCond .eq 15, 3) := by decide +kernel
theorem d_Mod_tiles_108 : decode b_Mod_tiles 108 = .ok (.iload_n 1, 1) := by decide +kernel
theorem d_Mod_tiles_109 : decode b_Mod_tiles 109 = .ok (.aload_n 0, 1) := by decide +kernel
theorem d_Mod_tiles_110 : decode b_Mod_tiles 110 = .ok (.getfield 45, 3) := by decide +kernel
theorem d_Mod_tiles_113 : decode b_Mod_tiles 113 = .ok (.iload_n 3, 1) := by decide +kernel
theorem d_Mod_tiles_114 : decode b_Mod_tiles 114 = .ok (.invokestatic 73, 3) := by decide +kernel
theorem d_Mod_tiles_117 : decode b_Mod_tiles 117 = .ok (.goto 4, 3) := by decide +kernel
theorem d_Mod_tiles_120 : decode b_Mod_tiles 120 = .ok (.iconst 0, 1) := by decide +kernel
theorem d_Mod_tiles_121 : decode b_Mod_tiles 121 = .ok (.istore 6, 2) := by decide +kernel
theorem d_Mod_tiles_123 : decode b_Mod_tiles 123 = .ok (.iload 5, 2) := by decide +kernel
theorem d_Mod_tiles_125 : decode b_Mod_tiles 125 = .ok (.ifCond .eq 16, 3) := by decide +kernel
theorem d_Mod_tiles_128 : decode b_Mod_tiles 128 = .ok (.iload_n 2, 1) := by decide +kernel
theorem d_Mod_tiles_129 : decode b_Mod_tiles 129 = .ok (.aload_n 0, 1) := by decide +kernel
theorem d_Mod_tiles_130 : decode b_Mod_tiles 130 = .ok (.getfield 48, 3) := by decide +kernel
theorem d_Mod_tiles_133 : decode b_Mod_tiles 133 = .ok (.iload 4, 2) := by decide +kernel
theorem d_Mod_tiles_135 : decode b_Mod_tiles 135 = .ok (.invokestatic 73, 3) := by decide +kernel
theorem d_Mod_tiles_138 : decode b_Mod_tiles 138 = .ok (.goto 4, 3) := by decide +kernel
theorem d_Mod_tiles_141 : decode b_Mod_tiles 141 = .ok (.iconst 0, 1) := by decide +kernel
theorem d_Mod_tiles_142 : decode b_Mod_tiles 142 = .ok (.istore 7, 2) := by decide +kernel
theorem d_Mod_tiles_144 : decode b_Mod_tiles 144 = .ok (.iload 5, 2) := by decide +kernel
theorem d_Mod_tiles_146 : decode b_Mod_tiles 146 = .ok (.ifCond .eq 17, 3) := by decide +kernel
theorem d_Mod_tiles_149 : decode b_Mod_tiles 149 = .ok (.iload 6, 2) := by decide +kernel
theorem d_Mod_tiles_151 : decode b_Mod_tiles 151 = .ok (.i2l, 1) := by decide +kernel
theorem d_Mod_tiles_152 : decode b_Mod_tiles 152 = .ok (.iload 7, 2) := by decide +kernel
theorem d_Mod_tiles_154 : decode b_Mod_tiles 154 = .ok (.i2l, 1) := by decide +kernel
theorem d_Mod_tiles_155 : decode b_Mod_tiles 155 = .ok (.lmul, 1) := by decide +kernel
theorem d_Mod_tiles_156 : decode b_Mod_tiles 156 = .ok (.ldc2_w 77, 3) := by decide +kernel
theorem d_Mod_tiles_159 : decode b_Mod_tiles 159 = .ok (.lcmp, 1) := by decide +kernel
theorem d_Mod_tiles_160 : decode b_Mod_tiles 160 = .ok (.ifCond .le 9, 3) := by decide +kernel
theorem d_Mod_tiles_163 : decode b_Mod_tiles 163 = .ok (.aload_n 0, 1) := by decide +kernel
theorem d_Mod_tiles_164 : decode b_Mod_tiles 164 = .ok (.iconst 2, 1) := by decide +kernel
theorem d_Mod_tiles_165 : decode b_Mod_tiles 165 = .ok (.invokevirtual 69, 3) := by decide +kernel
theorem d_Mod_tiles_168 : decode b_Mod_tiles 168 = .ok (.ireturn, 1) := by decide +kernel
theorem d_Mod_tiles_169 : decode b_Mod_tiles 169 = .ok (.aload_n 0, 1) := by decide +kernel
theorem d_Mod_tiles_170 : decode b_Mod_tiles 170 = .ok (.iconst 0, 1) := by decide +kernel
theorem d_Mod_tiles_171 : decode b_Mod_tiles 171 = .ok (.putfield 31, 3) := by decide +kernel
theorem d_Mod_tiles_174 : decode b_Mod_tiles 174 = .ok (.aload_n 0, 1) := by decide +kernel
theorem d_Mod_tiles_175 : decode b_Mod_tiles 175 = .ok (.iload_n 1, 1) := by decide +kernel
theorem d_Mod_tiles_176 : decode b_Mod_tiles 176 = .ok (.putfield 51, 3) := by decide +kernel
theorem d_Mod_tiles_179 : decode b_Mod_tiles 179 = .ok (.aload_n 0, 1) := by decide +kernel
theorem d_Mod_tiles_180 : decode b_Mod_tiles 180 = .ok (.iload_n 2, 1) := by decide +kernel
theorem d_Mod_tiles_181 : decode b_Mod_tiles 181 = .ok (.putfield 54, 3) := by decide +kernel
theorem d_Mod_tiles_184 : decode b_Mod_tiles 184 = .ok (.aload_n 0, 1) := by decide +kernel
theorem d_Mod_tiles_185 : decode b_Mod_tiles 185 = .ok (.iload_n 3, 1) := by decide +kernel
theorem d_Mod_tiles_186 : decode b_Mod_tiles 186 = .ok (.putfield 57, 3) := by decide +kernel
theorem d_Mod_tiles_189 : decode b_Mod_tiles 189 = .ok (.aload_n 0, 1) := by decide +kernel
theorem d_Mod_tiles_190 : decode b_Mod_tiles 190 = .ok (.iload 4, 2) := by decide +kernel
theorem d_Mod_tiles_192 : decode b_Mod_tiles 192 = .ok (.putfield 60, 3) := by decide +kernel
theorem d_Mod_tiles_195 : decode b_Mod_tiles 195 = .ok (.aload_n 0, 1) := by decide +kernel
theorem d_Mod_tiles_196 : decode b_Mod_tiles 196 = .ok (.iload 6, 2) := by decide +kernel
theorem d_Mod_tiles_198 : decode b_Mod_tiles 198 = .ok (.putfield 63, 3) := by decide +kernel
theorem d_Mod_tiles_201 : decode b_Mod_tiles 201 = .ok (.aload_n 0, 1) := by decide +kernel
theorem d_Mod_tiles_202 : decode b_Mod_tiles 202 = .ok (.iload 7, 2) := by decide +kernel
theorem d_Mod_tiles_204 : decode b_Mod_tiles 204 = .ok (.putfield 66, 3) := by decide +kernel
theorem d_Mod_tiles_207 : decode b_Mod_tiles 207 = .ok (.iload 6, 2) := by decide +kernel
theorem d_Mod_tiles_209 : decode b_Mod_tiles 209 = .ok (.iload 7, 2) := by decide +kernel
theorem d_Mod_tiles_211 : decode b_Mod_tiles 211 = .ok (.imul, 1) := by decide +kernel
theorem d_Mod_tiles_212 : decode b_Mod_tiles 212 = .ok (.ireturn, 1) := by decide +kernel
theorem d_Mod_component_0 : decode b_Mod_component 0 = .ok (.iload_n 1, 1) := by decide +kernel
theorem d_Mod_component_1 : decode b_Mod_component 1 = .ok (.iconst 1, 1) := by decide +kernel
theorem d_Mod_component_2 : decode b_Mod_component 2 = .ok (.if_icmp .lt 22, 3) := by decide +kernel
theorem d_Mod_component_5 : decode b_Mod_component 5 = .ok (.iload_n 1, 1) := by decide +kernel
theorem d_Mod_component_6 : decode b_Mod_component 6 = .ok (.sipush 255, 3) := by decide +kernel
theorem d_Mod_component_9 : decode b_Mod_component 9 = .ok (.if_icmp .gt 15, 3) := by decide +kernel
theorem d_Mod_component_12 : decode b_Mod_component 12 = .ok (.iload_n 2, 1) := by decide +kernel
theorem d_Mod_component_13 : decode b_Mod_component 13 = .ok (.iconst 1, 1) := by decide +kernel
theorem d_Mod_component_14 : decode b_Mod_component 14 = .ok (.if_icmp .lt 10, 3) := by decide +kernel
theorem d_Mod_component_17 : decode b_Mod_component 17 = .ok (.iload_n 2, 1) := by decide +kernel
theorem d_Mod_component_18 : decode b_Mod_component 18 = .ok (.sipush 255, 3) := by decide +kernel
theorem d_Mod_component_21 : decode b_Mod_component 21 = .ok (.if_icmp .le 9, 3) := by decide +kernel
theorem d_Mod_component_24 : decode b_Mod_component 24 = .ok (.aload_n 0, 1) := by decide +kernel
theorem d_Mod_component_25 : decode b_Mod_component 25 = .ok (.iconst 1, 1) := by decide +kernel
theorem d_Mod_component_26 : decode b_Mod_component 26 = .ok (.invokevirtual 69, 3) := by decide +kernel
theorem d_Mod_component_29 : decode b_Mod_component 29 = .ok (.ireturn, 1) := by decide +kernel
theorem d_Mod_component_30 : decode b_Mod_component 30 = .ok (.aload_n 0, 1) := by decide +kernel
theorem d_Mod_component_31 : decode b_Mod_component 31 = .ok (.getfield 79, 3) := by decide +kernel
theorem d_Mod_component_34 : decode b_Mod_component 34 = .ok (.bipush 16, 2) := by decide +kernel
theorem d_Mod_component_36 : decode b_Mod_component 36 = .ok (.if_icmp .ne 9, 3) := by decide +kernel
theorem d_Mod_component_39 : decode b_Mod_component 39 = .ok (.aload_n 0, 1) := by decide +kernel
theorem d_Mod_component_40 : decode b_Mod_component 40 = .ok (.iconst 2, 1) := by decide +kernel
theorem d_Mod_component_41 : decode b_Mod_component 41 = .ok (.invokevirtual 69, 3) := by decide +kernel
theorem d_Mod_component_44 : decode b_Mod_component 44 = .ok (.ireturn, 1) := by decide +kernel
theorem d_Mod_component_45 : decode b_Mod_component 45 = .ok (.aload_n 0, 1) := by decide +kernel
theorem d_Mod_component_46 : decode b_Mod_component 46 = .ok (.iconst 0, 1) := by decide +kernel
theorem d_Mod_component_47 : decode b_Mod_component 47 = .ok (.putfield 31, 3) := by decide +kernel
theorem d_Mod_component_50 : decode b_Mod_component 50 = .ok (.aload_n 0, 1) := by decide +kernel
theorem d_Mod_component_51 : decode b_Mod_component 51 = .ok (.getfield 7, 3) := by decide +kernel
theorem d_Mod_component_54 : decode b_Mod_component 54 = .ok (.aload_n 0, 1) := by decide +kernel
theorem d_Mod_component_55 : decode b_Mod_component 55 = .ok (.getfield 79, 3) := by decide +kernel
theorem d_Mod_component_58 : decode b_Mod_component 58 = .ok (.iload_n 1, 1) := by decide +kernel
theorem d_Mod_component_59 : decode b_Mod_component 59 = .ok (.iastore, 1) := by decide +kernel
theorem d_Mod_component_60 : decode b_Mod_component 60 = .ok (.aload_n 0, 1) := by decide +kernel
theorem d_Mod_component_61 : decode b_Mod_component 61 = .ok (.getfield 13, 3) := by decide +kernel
theorem d_Mod_component_64 : decode b_Mod_component 64 = .ok (.aload_n 0, 1) := by decide +kernel
theorem d_Mod_component_65 : decode b_Mod_component 65 = .ok (.getfield 79, 3) := by decide +kernel
theorem d_Mod_component_68 : decode b_Mod_component 68 = .ok (.iload_n 2, 1) := by decide +kernel
theorem d_Mod_component_69 : decode b_Mod_component 69 = .ok (.iastore, 1) := by decide +kernel
theorem d_Mod_component_70 : decode b_Mod_component 70 = .ok (.aload_n 0, 1) := by decide +kernel
theorem d_Mod_component_71 : decode b_Mod_component 71 = .ok (.getfield 16, 3) := by decide +kernel
theorem d_Mod_component_74 : decode b_Mod_component 74 = .ok (.aload_n 0, 1) := by decide +kernel
theorem d_Mod_component_75 : decode b_Mod_component 75 = .ok (.getfield 79, 3) := by decide +kernel
theorem d_Mod_component_78 : decode b_Mod_component 78 = .ok (.iconst 0, 1) := by decide +kernel
theorem d_Mod_component_79 : decode b_Mod_component 79 = .ok (.iastore, 1) := by decide +kernel
theorem d_Mod_component_80 : decode b_Mod_component 80 = .ok (.aload_n 0, 1) := by decide +kernel
theorem d_Mod_component_81 : decode b_Mod_component 81 = .ok (.getfield 19, 3) := by decide +kernel
theorem d_Mod_component_84 : decode b_Mod_component 84 = .ok (.aload_n 0, 1) := by decide +kernel
theorem d_Mod_component_85 : decode b_Mod_component 85 = .ok (.getfield 79, 3) := by decide +kernel
theorem d_Mod_component_88 : decode b_Mod_component 88 = .ok (.bipush 6, 2) := by decide +kernel
theorem d_Mod_component_90 : decode b_Mod_component 90 = .ok (.iastore, 1) := by decide +kernel
theorem d_Mod_component_91 : decode b_Mod_component 91 = .ok (.aload_n 0, 1) := by decide +kernel
theorem d_Mod_component_92 : decode b_Mod_component 92 = .ok (.getfield 22, 3) := by decide +kernel
theorem d_Mod_component_95 : decode b_Mod_component 95 = .ok (.aload_n 0, 1) := by decide +kernel
theorem d_Mod_component_96 : decode b_Mod_component 96 = .ok (.getfield 79, 3) := by decide +kernel
theorem d_Mod_component_99 : decode b_Mod_component 99 = .ok (.bipush 6, 2) := by decide +kernel
theorem d_Mod_component_101 : decode b_Mod_component 101 = .ok (.iastore, 1) := by decide +kernel
theorem d_Mod_component_102 : decode b_Mod_component 102 = .ok (.iconst 0, 1) := by decide +kernel
theorem d_Mod_component_103 : decode b_Mod_component 103 = .ok (.istore_n 3, 1) := by decide +kernel
theorem d_Mod_component_104 : decode b_Mod_component 104 = .ok (.iload_n 3, 1) := by decide +kernel
theorem d_Mod_component_105 : decode b_Mod_component 105 = .ok (.bipush 33, 2) := by decide +kernel
theorem d_Mod_component_107 : decode b_Mod_component 107 = .ok (.if_icmp .ge 41, 3) := by decide +kernel
theorem d_Mod_component_110 : decode b_Mod_component 110 = .ok (.aload_n 0, 1) := by decide +kernel
theorem d_Mod_component_111 : decode b_Mod_component 111 = .ok (.getfield 25, 3) := by decide +kernel
theorem d_Mod_component_114 : decode b_Mod_component 114 = .ok (.bipush 33, 2) := by decide +kernel
theorem d_Mod_component_116 : decode b_Mod_component 116 = .ok (.aload_n 0, 1) := by decide +kernel
theorem d_Mod_component_117 : decode b_Mod_component 117 = .ok (.getfield 79, 3) := by decide +kernel
theorem d_Mod_component_120 : decode b_Mod_component 120 = .ok (.imul, 1) := by decide +kernel
theorem d_Mod_component_121 : decode b_Mod_component 121 = .ok (.iload_n 3, 1) := by decide +kernel
theorem d_Mod_component_122 : decode b_Mod_component 122 = .ok (.iadd, 1) := by decide +kernel
theorem d_Mod_component_123 : decode b_Mod_component 123 = .ok (.bipush 15, 2) := by decide +kernel
theorem d_Mod_component_125 : decode b_Mod_component 125 = .ok (.iastore, 1) := by decide +kernel
theorem d_Mod_component_126 : decode b_Mod_component 126 = .ok (.aload_n 0, 1) := by decide +kernel
theorem d_Mod_component_127 : decode b_Mod_component 127 = .ok (.getfield 28, 3) := by decide +kernel
theorem d_Mod_component_130 : decode b_Mod_component 130 = .ok (.bipush 33, 2) := by decide +kernel
theorem d_Mod_component_132 : decode b_Mod_component 132 = .ok (.aload_n 0, 1) := by decide +kernel
theorem d_Mod_component_133 : decode b_Mod_component 133 = .ok (.getfield 79, 3) := by decide +kernel
theorem d_Mod_component_136 : decode b_Mod_component 136 = .ok (.imul, 1) := by decide +kernel
theorem d_Mod_component_137 : decode b_Mod_component 137 = .ok (.iload_n 3, 1) := by decide +kernel
theorem d_Mod_component_138 : decode b_Mod_component 138 = .ok (.iadd, 1) := by decide +kernel
theorem d_Mod_component_139 : decode b_Mod_component 139 = .ok (.bipush 15, 2) := by decide +kernel
theorem d_Mod_component_141 : decode b_Mod_component 141 = .ok (.iastore, 1) := by decide +kernel
theorem d_Mod_component_142 : decode b_Mod_component 142 = .ok (.iinc 3 1, 3) := by decide +kernel
theorem d_Mod_component_145 : decode b_Mod_component 145 = .ok (.goto (-41), 3) := by decide +kernel
theorem d_Mod_component_148 : decode b_Mod_component 148 = .ok (.aload_n 0, 1) := by decide +kernel
theorem d_Mod_component_149 : decode b_Mod_component 149 = .ok (.dup, 1) := by decide +kernel
theorem d_Mod_component_150 : decode b_Mod_component 150 = .ok (.getfield 79, 3) := by decide +kernel
theorem d_Mod_component_153 : decode b_Mod_component 153 = .ok (.iconst 1, 1) := by decide +kernel
theorem d_Mod_component_154 : decode b_Mod_component 154 = .ok (.iadd, 1) := by decide +kernel
theorem d_Mod_component_155 : decode b_Mod_component 155 = .ok (.putfield 79, 3) := by decide +kernel
theorem d_Mod_component_158 : decode b_Mod_component 158 = .ok (.aload_n 0, 1) := by decide +kernel
theorem d_Mod_component_159 : decode b_Mod_component 159 = .ok (.getfield 79, 3) := by decide +kernel
theorem d_Mod_component_162 : decode b_Mod_component 162 = .ok (.iconst 1, 1) := by decide +kernel
theorem d_Mod_component_163 : decode b_Mod_component 163 = .ok (.isub, 1) := by decide +kernel
theorem d_Mod_component_164 : decode b_Mod_component 164 = .ok (.ireturn, 1) := by decide +kernel
theorem d_Mod_isComponent_0 : decode b_Mod_isComponent 0 = .ok (.iload_n 1, 1) := by decide +kernel
theorem d_Mod_isComponent_1 : decode b_Mod_isComponent 1 = .ok (.ifCond .lt 15, 3) := by decide +kernel
theorem d_Mod_isComponent_4 : decode b_Mod_isComponent 4 = .ok (.iload_n 1, 1) := by decide +kernel
theorem d_Mod_isComponent_5 : decode b_Mod_isComponent 5 = .ok (.aload_n 0, 1) := by decide +kernel
theorem d_Mod_isComponent_6 : decode b_Mod_isComponent 6 = .ok (.getfield 79, 3) := by decide +kernel
theorem d_Mod_isComponent_9 : decode b_Mod_isComponent 9 = .ok (.if_icmp .ge 7, 3) := by decide +kernel
theorem d_Mod_isComponent_12 : decode b_Mod_isComponent 12 = .ok (.iconst 1, 1) := by decide +kernel
theorem d_Mod_isComponent_13 : decode b_Mod_isComponent 13 = .ok (.goto 4, 3) := by decide +kernel
theorem d_Mod_isComponent_16 : decode b_Mod_isComponent 16 = .ok (.iconst 0, 1) := by decide +kernel
theorem d_Mod_isComponent_17 : decode b_Mod_isComponent 17 = .ok (.ireturn, 1) := by decide +kernel
theorem d_Mod_coding_0 : decode b_Mod_coding 0 = .ok (.iload_n 2, 1) := by decide +kernel
theorem d_Mod_coding_1 : decode b_Mod_coding 1 = .ok (.ifCond .lt 46, 3) := by decide +kernel
theorem d_Mod_coding_4 : decode b_Mod_coding 4 = .ok (.iload_n 2, 1) := by decide +kernel
theorem d_Mod_coding_5 : decode b_Mod_coding 5 = .ok (.bipush 32, 2) := by decide +kernel
theorem d_Mod_coding_7 : decode b_Mod_coding 7 = .ok (.if_icmp .gt 40, 3) := by decide +kernel
theorem d_Mod_coding_10 : decode b_Mod_coding 10 = .ok (.iload_n 3, 1) := by decide +kernel
theorem d_Mod_coding_11 : decode b_Mod_coding 11 = .ok (.iconst 2, 1) := by decide +kernel
theorem d_Mod_coding_12 : decode b_Mod_coding 12 = .ok (.if_icmp .lt 35, 3) := by decide +kernel
theorem d_Mod_coding_15 : decode b_Mod_coding 15 = .ok (.iload_n 3, 1) := by decide +kernel
theorem d_Mod_coding_16 : decode b_Mod_coding 16 = .ok (.bipush 10, 2) := by decide +kernel
theorem d_Mod_coding_18 : decode b_Mod_coding 18 = .ok (.if_icmp .gt 29, 3) := by decide +kernel
theorem d_Mod_coding_21 : decode b_Mod_coding 21 = .ok (.iload 4, 2) := by decide +kernel
theorem d_Mod_coding_23 : decode b_Mod_coding 23 = .ok (.iconst 2, 1) := by decide +kernel
theorem d_Mod_coding_24 : decode b_Mod_coding 24 = .ok (.if_icmp .lt 23, 3) := by decide +kernel
theorem d_Mod_coding_27 : decode b_Mod_coding 27 = .ok (.iload 4, 2) := by decide +kernel
theorem d_Mod_coding_29 : decode b_Mod_coding 29 = .ok (.bipush 10, 2) := by decide +kernel
theorem d_Mod_coding_31 : decode b_Mod_coding 31 = .ok (.if_icmp .gt 16, 3) := by decide +kernel
theorem d_Mod_coding_34 : decode b_Mod_coding 34 = .ok (.iload_n 3, 1) := by decide +kernel
theorem d_Mod_coding_35 : decode b_Mod_coding 35 = .ok (.iload 4, 2) := by decide +kernel
theorem d_Mod_coding_37 : decode b_Mod_coding 37 = .ok (.iadd, 1) := by decide +kernel
theorem d_Mod_coding_38 : decode b_Mod_coding 38 = .ok (.bipush 12, 2) := by decide +kernel
theorem d_Mod_coding_40 : decode b_Mod_coding 40 = .ok (.if_icmp .gt 7, 3) := by decide +kernel
theorem d_Mod_coding_43 : decode b_Mod_coding 43 = .ok (.iconst 1, 1) := by decide +kernel
theorem d_Mod_coding_44 : decode b_Mod_coding 44 = .ok (.goto 4, 3) := by decide +kernel
theorem d_Mod_coding_47 : decode b_Mod_coding 47 = .ok (.iconst 0, 1) := by decide +kernel
theorem d_Mod_coding_48 : decode b_Mod_coding 48 = .ok (.istore 5, 2) := by decide +kernel
theorem d_Mod_coding_50 : decode b_Mod_coding 50 = .ok (.aload_n 0, 1) := by decide +kernel
theorem d_Mod_coding_51 : decode b_Mod_coding 51 = .ok (.aload_n 0, 1) := by decide +kernel
theorem d_Mod_coding_52 : decode b_Mod_coding 52 = .ok (.iload_n 1, 1) := by decide +kernel
theorem d_Mod_coding_53 : decode b_Mod_coding 53 = .ok (.invokevirtual 82, 3) := by decide +kernel
theorem d_Mod_coding_56 : decode b_Mod_coding 56 = .ok (.ifCond .ne 7, 3) := by decide +kernel
theorem d_Mod_coding_59 : decode b_Mod_coding 59 = .ok (.iconst 1, 1) := by decide +kernel
theorem d_Mod_coding_60 : decode b_Mod_coding 60 = .ok (.goto 13, 3) := by decide +kernel
theorem d_Mod_coding_63 : decode b_Mod_coding 63 = .ok (.iload 5, 2) := by decide +kernel
theorem d_Mod_coding_65 : decode b_Mod_coding 65 = .ok (.ifCond .ne 7, 3) := by decide +kernel
theorem d_Mod_coding_68 : decode b_Mod_coding 68 = .ok (.iconst 2, 1) := by decide +kernel
theorem d_Mod_coding_69 : decode b_Mod_coding 69 = .ok (.goto 4, 3) := by decide +kernel
theorem d_Mod_coding_72 : decode b_Mod_coding 72 = .ok (.iconst 0, 1) := by decide +kernel
theorem d_Mod_coding_73 : decode b_Mod_coding 73 = .ok (.putfield 31, 3) := by decide +kernel
theorem d_Mod_coding_76 : decode b_Mod_coding 76 = .ok (.aload_n 0, 1) := by decide +kernel
theorem d_Mod_coding_77 : decode b_Mod_coding 77 = .ok (.getfield 31, 3) := by decide +kernel
theorem d_Mod_coding_80 : decode b_Mod_coding 80 = .ok (.ifCond .le 4, 3) := by decide +kernel
theorem d_Mod_coding_83 : decode b_Mod_coding 83 = .ok (.return_, 1) := by decide +kernel
theorem d_Mod_coding_84 : decode b_Mod_coding 84 = .ok (.aload_n 0, 1) := by decide +kernel
theorem d_Mod_coding_85 : decode b_Mod_coding 85 = .ok (.getfield 16, 3) := by decide +kernel
theorem d_Mod_coding_88 : decode b_Mod_coding 88 = .ok (.iload_n 1, 1) := by decide +kernel
theorem d_Mod_coding_89 : decode b_Mod_coding 89 = .ok (.iload_n 2, 1) := by decide +kernel
theorem d_Mod_coding_90 : decode b_Mod_coding 90 = .ok (.iastore, 1) := by decide +kernel
theorem d_Mod_coding_91 : decode b_Mod_coding 91 = .ok (.aload_n 0, 1) := by decide +kernel
theorem d_Mod_coding_92 : decode b_Mod_coding 92 = .ok (.getfield 19, 3) := by decide +kernel
theorem d_Mod_coding_95 : decode b_Mod_coding 95 = .ok (.iload_n 1, 1) := by decide +kernel
theorem d_Mod_coding_96 : decode b_Mod_coding 96 = .ok (.iload_n 3, 1) := by decide +kernel
theorem d_Mod_coding_97 : decode b_Mod_coding 97 = .ok (.iastore, 1) := by decide +kernel
theorem d_Mod_coding_98 : decode b_Mod_coding 98 = .ok (.aload_n 0, 1) := by decide +kernel
theorem d_Mod_coding_99 : decode b_Mod_coding 99 = .ok (.getfield 22, 3) := by decide +kernel
theorem d_Mod_coding_102 : decode b_Mod_coding 102 = .ok (.iload_n 1, 1) := by decide +kernel
theorem d_Mod_coding_103 : decode b_Mod_coding 103 = .ok (.iload 4, 2) := by decide +kernel
theorem d_Mod_coding_105 : decode b_Mod_coding 105 = .ok (.iastore, 1) := by decide +kernel
theorem d_Mod_coding_106 : decode b_Mod_coding 106 = .ok (.return_, 1) := by decide +kernel
theorem d_Mod_precincts_0 : decode b_Mod_precincts 0 = .ok (.iload_n 3, 1) := by decide +kernel
theorem d_Mod_precincts_1 : decode b_Mod_precincts 1 = .ok (.ifCond .lt 38, 3) := by decide +kernel
theorem d_Mod_precincts_4 : decode b_Mod_precincts 4 = .ok (.iload_n 3, 1) := by decide +kernel
theorem d_Mod_precincts_5 : decode b_Mod_precincts 5 = .ok (.bipush 15, 2) := by decide +kernel
theorem d_Mod_precincts_7 : decode b_Mod_precincts 7 = .ok (.if_icmp .gt 32, 3) := by decide +kernel
theorem d_Mod_precincts_10 : decode b_Mod_precincts 10 = .ok (.iload 4, 2) := by decide +kernel
theorem d_Mod_precincts_12 : decode b_Mod_precincts 12 = .ok (.ifCond .lt 27, 3) := by decide +kernel
theorem d_Mod_precincts_15 : decode b_Mod_precincts 15 = .ok (.iload 4, 2) := by decide +kernel
theorem d_Mod_precincts_17 : decode b_Mod_precincts 17 = .ok (.bipush 15, 2) := by decide +kernel
theorem d_Mod_precincts_19 : decode b_Mod_precincts 19 = .ok (.if_icmp .gt 20, 3) := by decide +kernel
theorem d_Mod_precincts_22 : decode b_Mod_precincts 22 = .ok (.iload_n 2, 1) := by decide +kernel
theorem d_Mod_precincts_23 : decode b_Mod_precincts 23 = .ok (.ifCond .eq 12, 3) := by decide +kernel
theorem d_Mod_precincts_26 : decode b_Mod_precincts 26 = .ok (.iload_n 3, 1) := by decide +kernel
theorem d_Mod_precincts_27 : decode b_Mod_precincts 27 = .ok (.ifCond .le 12, 3) := by decide +kernel
theorem d_Mod_precincts_30 : decode b_Mod_precincts 30 = .ok (.iload 4, 2) := by decide +kernel
theorem d_Mod_precincts_32 : decode b_Mod_precincts 32 = .ok (.ifCond .le 7, 3) := by decide +kernel
theorem d_Mod_precincts_35 : decode b_Mod_precincts 35 = .ok (.iconst 1, 1) := by decide +kernel
theorem d_Mod_precincts_36 : decode b_Mod_precincts 36 = .ok (.goto 4, 3) := by decide +kernel
theorem d_Mod_precincts_39 : decode b_Mod_precincts 39 = .ok (.iconst 0, 1) := by decide +kernel
theorem d_Mod_precincts_40 : decode b_Mod_precincts 40 = .ok (.istore 5, 2) := by decide +kernel
theorem d_Mod_precincts_42 : decode b_Mod_precincts 42 = .ok (.aload_n 0, 1) := by decide +kernel
theorem d_Mod_precincts_43 : decode b_Mod_precincts 43 = .ok (.aload_n 0, 1) := by decide +kernel
theorem d_Mod_precincts_44 : decode b_Mod_precincts 44 = .ok (.iload_n 1, 1) := by decide +kernel
theorem d_Mod_precincts_45 : decode b_Mod_precincts 45 = .ok (.invokevirtual 82, 3) := by decide +kernel
theorem d_Mod_precincts_48 : decode b_Mod_precincts 48 = .ok (.ifCond .eq 13, 3) := by decide +kernel
theorem d_Mod_precincts_51 : decode b_Mod_precincts 51 = .ok (.iload_n 2, 1) := by decide +kernel
theorem d_Mod_precincts_52 : decode b_Mod_precincts 52 = .ok (.ifCond .lt 9, 3) := by decide +kernel
theorem d_Mod_precincts_55 : decode b_Mod_precincts 55 = .ok (.iload_n 2, 1) := by decide +kernel
theorem d_Mod_precincts_56 : decode b_Mod_precincts 56 = .ok (.bipush 32, 2) := by decide +kernel
theorem d_Mod_precincts_58 : decode b_Mod_precincts 58 = .ok (.if_icmp .le 7, 3) := by decide +kernel
theorem d_Mod_precincts_61 : decode b_Mod_precincts 61 = .ok (.iconst 1, 1) := by decide +kernel
theorem d_Mod_precincts_62 : decode b_Mod_precincts 62 = .ok (.goto 13, 3) := by decide +kernel
theorem d_Mod_precincts_65 : decode b_Mod_precincts 65 = .ok (.iload 5, 2) := by decide +kernel
theorem d_Mod_precincts_67 : decode b_Mod_precincts 67 = .ok (.ifCond .ne 7, 3) := by decide +kernel
theorem d_Mod_precincts_70 : decode b_Mod_precincts 70 = .ok (.iconst 2, 1) := by decide +kernel
theorem d_Mod_precincts_71 : decode b_Mod_precincts 71 = .ok (.goto 4, 3) := by decide +kernel
theorem d_Mod_precincts_74 : decode b_Mod_precincts 74 = .ok (.iconst 0, 1) := by decide +kernel
theorem d_Mod_precincts_75 : decode b_Mod_precincts 75 = .ok (.putfield 31, 3) := by decide +kernel
theorem d_Mod_precincts_78 : decode b_Mod_precincts 78 = .ok (.aload_n 0, 1) := by decide +kernel
theorem d_Mod_precincts_79 : decode b_Mod_precincts 79 = .ok (.getfield 31, 3) := by decide +kernel
theorem d_Mod_precincts_82 : decode b_Mod_precincts 82 = .ok (.ifCond .le 4, 3) := by decide +kernel
theorem d_Mod_precincts_85 : decode b_Mod_precincts 85 = .ok (.return_, 1) := by decide +kernel
theorem d_Mod_precincts_86 : decode b_Mod_precincts 86 = .ok (.aload_n 0, 1) := by decide +kernel
theorem d_Mod_precincts_87 : decode b_Mod_precincts 87 = .ok (.getfield 25, 3) := by decide +kernel
theorem d_Mod_precincts_90 : decode b_Mod_precincts 90 = .ok (.bipush 33, 2) := by decide +kernel
theorem d_Mod_precincts_92 : decode b_Mod_precincts 92 = .ok (.iload_n 1, 1) := by decide +kernel
theorem d_Mod_precincts_93 : decode b_Mod_precincts 93 = .ok (.imul, 1) := by decide +kernel
theorem d_Mod_precincts_94 : decode b_Mod_precincts 94 = .ok (.iload_n 2, 1) := by decide +kernel
theorem d_Mod_precincts_95 : decode b_Mod_precincts 95 = .ok (.iadd, 1) := by decide +kernel
theorem d_Mod_precincts_96 : decode b_Mod_precincts 96 = .ok (.iload_n 3, 1) := by decide +kernel
theorem d_Mod_precincts_97 : decode b_Mod_precincts 97 = .ok (.iastore, 1) := by decide +kernel
theorem d_Mod_precincts_98 : decode b_Mod_precincts 98 = .ok (.aload_n 0, 1) := by decide +kernel
theorem d_Mod_precincts_99 : decode b_Mod_precincts 99 = .ok (.getfield 28, 3) := by decide +kernel
theorem d_Mod_precincts_102 : decode b_Mod_precincts 102 = .ok (.bipush 33, 2) := by decide +kernel
theorem d_Mod_precincts_104 : decode b_Mod_precincts 104 = .ok (.iload_n 1, 1) := by decide +kernel
theorem d_Mod_precincts_105 : decode b_Mod_precincts 105 = .ok (.imul, 1) := by decide +kernel
theorem d_Mod_precincts_106 : decode b_Mod_precincts 106 = .ok (.iload_n 2, 1) := by decide +kernel
theorem d_Mod_precincts_107 : decode b_Mod_precincts 107 = .ok (.iadd, 1) := by decide +kernel
theorem d_Mod_precincts_108 : decode b_Mod_precincts 108 = .ok (.iload 4, 2) := by decide +kernel
theorem d_Mod_precincts_110 : decode b_Mod_precincts 110 = .ok (.iastore, 1) := by decide +kernel
theorem d_Mod_precincts_111 : decode b_Mod_precincts 111 = .ok (.return_, 1) := by decide +kernel
theorem d_Mod_findTile_0 : decode b_Mod_findTile 0 = .ok (.aload_n 0, 1) := by decide +kernel
theorem d_Mod_findTile_1 : decode b_Mod_findTile 1 = .ok (.getfield 35, 3) := by decide +kernel
theorem d_Mod_findTile_4 : decode b_Mod_findTile 4 = .ok (.ifCond .eq 20, 3) := by decide +kernel
theorem d_Mod_findTile_7 : decode b_Mod_findTile 7 = .ok (.iload_n 1, 1) := by decide +kernel
theorem d_Mod_findTile_8 : decode b_Mod_findTile 8 = .ok (.ifCond .lt 16, 3) := by decide +kernel
theorem d_Mod_findTile_11 : decode b_Mod_findTile 11 = .ok (.iload_n 1, 1) := by decide +kernel
theorem d_Mod_findTile_12 : decode b_Mod_findTile 12 = .ok (.aload_n 0, 1) := by decide +kernel
theorem d_Mod_findTile_13 : decode b_Mod_findTile 13 = .ok (.getfield 63, 3) := by decide +kernel
theorem d_Mod_findTile_16 : decode b_Mod_findTile 16 = .ok (.aload_n 0, 1) := by decide +kernel
theorem d_Mod_findTile_17 : decode b_Mod_findTile 17 = .ok (.getfield 66, 3) := by decide +kernel
theorem d_Mod_findTile_20 : decode b_Mod_findTile 20 = .ok (.imul, 1) := by decide +kernel
theorem d_Mod_findTile_21 : decode b_Mod_findTile 21 = .ok (.if_icmp .lt 5, 3) := by decide +kernel
theorem d_Mod_findTile_24 : decode b_Mod_findTile 24 = .ok (.iconst 0, 1) := by decide +kernel
theorem d_Mod_findTile_25 : decode b_Mod_findTile 25 = .ok (.ireturn, 1) := by decide +kernel
theorem d_Mod_findTile_26 : decode b_Mod_findTile 26 = .ok (.aload_n 0, 1) := by decide +kernel
theorem d_Mod_findTile_27 : decode b_Mod_findTile 27 = .ok (.getfield 51, 3) := by decide +kernel
theorem d_Mod_findTile_30 : decode b_Mod_findTile 30 = .ok (.iload_n 1, 1) := by decide +kernel
theorem d_Mod_findTile_31 : decode b_Mod_findTile 31 = .ok (.aload_n 0, 1) := by decide +kernel
theorem d_Mod_findTile_32 : decode b_Mod_findTile 32 = .ok (.getfield 63, 3) := by decide +kernel
theorem d_Mod_findTile_35 : decode b_Mod_findTile 35 = .ok (.irem, 1) := by decide +kernel
theorem d_Mod_findTile_36 : decode b_Mod_findTile 36 = .ok (.aload_n 0, 1) := by decide +kernel
theorem d_Mod_findTile_37 : decode b_Mod_findTile 37 = .ok (.getfield 57, 3) := by decide +kernel
theorem d_Mod_findTile_40 : decode b_Mod_findTile 40 = .ok (.imul, 1) := by decide +kernel
theorem d_Mod_findTile_41 : decode b_Mod_findTile 41 = .ok (.iadd, 1) := by decide +kernel
theorem d_Mod_findTile_42 : decode b_Mod_findTile 42 = .ok (.istore_n 2, 1) := by decide +kernel
theorem d_Mod_findTile_43 : decode b_Mod_findTile 43 = .ok (.aload_n 0, 1) := by decide +kernel
theorem d_Mod_findTile_44 : decode b_Mod_findTile 44 = .ok (.getfield 54, 3) := by decide +kernel
theorem d_Mod_findTile_47 : decode b_Mod_findTile 47 = .ok (.iload_n 1, 1) := by decide +kernel
theorem d_Mod_findTile_48 : decode b_Mod_findTile 48 = .ok (.aload_n 0, 1) := by decide +kernel
theorem d_Mod_findTile_49 : decode b_Mod_findTile 49 = .ok (.getfield 63, 3) := by decide +kernel
theorem d_Mod_findTile_52 : decode b_Mod_findTile 52 = .ok (.idiv, 1) := by decide +kernel
theorem d_Mod_findTile_53 : decode b_Mod_findTile 53 = .ok (.aload_n 0, 1) := by decide +kernel
theorem d_Mod_findTile_54 : decode b_Mod_findTile 54 = .ok (.getfield 60, 3) := by decide +kernel
theorem d_Mod_findTile_57 : decode b_Mod_findTile 57 = .ok (.imul, 1) := by decide +kernel
theorem d_Mod_findTile_58 : decode b_Mod_findTile 58 = .ok (.iadd, 1) := by decide +kernel
theorem d_Mod_findTile_59 : decode b_Mod_findTile 59 = .ok (.istore_n 3, 1) := by decide +kernel
theorem d_Mod_findTile_60 : decode b_Mod_findTile 60 = .ok (.aload_n 0, 1) := by decide +kernel
theorem d_Mod_findTile_61 : decode b_Mod_findTile 61 = .ok (.iload_n 2, 1) := by decide +kernel
theorem d_Mod_findTile_62 : decode b_Mod_findTile 62 = .ok (.aload_n 0, 1) := by decide +kernel
theorem d_Mod_findTile_63 : decode b_Mod_findTile 63 = .ok (.getfield 39, 3) := by decide +kernel
theorem d_Mod_findTile_66 : decode b_Mod_findTile 66 = .ok (.if_icmp .ge 10, 3) := by decide +kernel
theorem d_Mod_findTile_69 : decode b_Mod_findTile 69 = .ok (.aload_n 0, 1) := by decide +kernel
theorem d_Mod_findTile_70 : decode b_Mod_findTile 70 = .ok (.getfield 39, 3) := by decide +kernel
theorem d_Mod_findTile_73 : decode b_Mod_findTile 73 = .ok (.goto 4, 3) := by decide +kernel
theorem d_Mod_findTile_76 : decode b_Mod_findTile 76 = .ok (.iload_n 2, 1) := by decide +kernel
theorem d_Mod_findTile_77 : decode b_Mod_findTile 77 = .ok (.putfield 86, 3) := by decide +kernel
theorem d_Mod_findTile_80 : decode b_Mod_findTile 80 = .ok (.aload_n 0, 1) := by decide +kernel
theorem d_Mod_findTile_81 : decode b_Mod_findTile 81 = .ok (.iload_n 3, 1) := by decide +kernel
theorem d_Mod_findTile_82 : decode b_Mod_findTile 82 = .ok (.aload_n 0, 1) := by decide +kernel
theorem d_Mod_findTile_83 : decode b_Mod_findTile 83 = .ok (.getfield 42, 3) := by decide +kernel
theorem d_Mod_findTile_86 : decode b_Mod_findTile 86 = .ok (.if_icmp .ge 10, 3) := by decide +kernel
theorem d_Mod_findTile_89 : decode b_Mod_findTile 89 = .ok (.aload_n 0, 1) := by decide +kernel
theorem d_Mod_findTile_90 : decode b_Mod_findTile 90 = .ok (.getfield 42, 3) := by decide +kernel
theorem d_Mod_findTile_93 : decode b_Mod_findTile 93 = .ok (.goto 4, 3) := by decide +kernel
theorem d_Mod_findTile_96 : decode b_Mod_findTile 96 = .ok (.iload_n 3, 1) := by decide +kernel
theorem d_Mod_findTile_97 : decode b_Mod_findTile 97 = .ok (.putfield 89, 3) := by decide +kernel
theorem d_Mod_findTile_100 : decode b_Mod_findTile 100 = .ok (.aload_n 0, 1) := by decide +kernel
theorem d_Mod_findTile_101 : decode b_Mod_findTile 101 = .ok (.iload_n 2, 1) := by decide +kernel
theorem d_Mod_findTile_102 : decode b_Mod_findTile 102 = .ok (.aload_n 0, 1) := by decide +kernel
theorem d_Mod_findTile_103 : decode b_Mod_findTile 103 = .ok (.getfield 57, 3) := by decide +kernel
theorem d_Mod_findTile_106 : decode b_Mod_findTile 106 = .ok (.iadd, 1) := by decide +kernel
theorem d_Mod_findTile_107 : decode b_Mod_findTile 107 = .ok (.aload_n 0, 1) := by decide +kernel
theorem d_Mod_findTile_108 : decode b_Mod_findTile 108 = .ok (.getfield 45, 3) := by decide +kernel
theorem d_Mod_findTile_111 : decode b_Mod_findTile 111 = .ok (.if_icmp .le 10, 3) := by decide +kernel
theorem d_Mod_findTile_114 : decode b_Mod_findTile 114 = .ok (.aload_n 0, 1) := by decide +kernel
theorem d_Mod_findTile_115 : decode b_Mod_findTile 115 = .ok (.getfield 45, 3) := by decide +kernel
theorem d_Mod_findTile_118 : decode b_Mod_findTile 118 = .ok (.goto 9, 3) := by decide +kernel
theorem d_Mod_findTile_121 : decode b_Mod_findTile 121 = .ok (.iload_n 2, 1) := by decide +kernel
theorem d_Mod_findTile_122 : decode b_Mod_findTile 122 = .ok (.aload_n 0, 1) := by decide +kernel
theorem d_Mod_findTile_123 : decode b_Mod_findTile 123 = .ok (.getfield 57, 3) := by decide +kernel
theorem d_Mod_findTile_126 : decode b_Mod_findTile 126 = .ok (.iadd, 1) := by decide +kernel
theorem d_Mod_findTile_127 : decode b_Mod_findTile 127 = .ok (.putfield 92, 3) := by decide +kernel
theorem d_Mod_findTile_130 : decode b_Mod_findTile 130 = .ok (.aload_n 0, 1) := by decide +kernel
theorem d_Mod_findTile_131 : decode b_Mod_findTile 131 = .ok (.iload_n 3, 1) := by decide +kernel
theorem d_Mod_findTile_132 : decode b_Mod_findTile 132 = .ok (.aload_n 0, 1) := by decide +kernel
theorem d_Mod_findTile_133 : decode b_Mod_findTile 133 = .ok (.getfield 60, 3) := by decide +kernel
theorem d_Mod_findTile_136 : decode b_Mod_findTile 136 = .ok (.iadd, 1) := by decide +kernel
theorem d_Mod_findTile_137 : decode b_Mod_findTile 137 = .ok (.aload_n 0, 1) := by decide +kernel
theorem d_Mod_findTile_138 : decode b_Mod_findTile 138 = .ok (.getfield 48, 3) := by decide +kernel
theorem d_Mod_findTile_141 : decode b_Mod_findTile 141 = .ok (.if_icmp .le 10, 3) := by decide +kernel
theorem d_Mod_findTile_144 : decode b_Mod_findTile 144 = .ok (.aload_n 0, 1) := by decide +kernel
theorem d_Mod_findTile_145 : decode b_Mod_findTile 145 = .ok (.getfield 48, 3) := by decide +kernel
theorem d_Mod_findTile_148 : decode b_Mod_findTile 148 = .ok (.goto 9, 3) := by decide +kernel
theorem d_Mod_findTile_151 : decode b_Mod_findTile 151 = .ok (.iload_n 3, 1) := by decide +kernel
theorem d_Mod_findTile_152 : decode b_Mod_findTile 152 = .ok (.aload_n 0, 1) := by decide +kernel
theorem d_Mod_findTile_153 : decode b_Mod_findTile 153 = .ok (.getfield 60, 3) := by decide +kernel
theorem d_Mod_findTile_156 : decode b_Mod_findTile 156 = .ok (.iadd, 1) := by decide +kernel
theorem d_Mod_findTile_157 : decode b_Mod_findTile 157 = .ok (.putfield 95, 3) := by decide +kernel
theorem d_Mod_findTile_160 : decode b_Mod_findTile 160 = .ok (.iconst 1, 1) := by decide +kernel
theorem d_Mod_findTile_161 : decode b_Mod_findTile 161 = .ok (.ireturn, 1) := by decide +kernel
theorem d_Mod_up_0 : decode b_Mod_up 0 = .ok (.iload_n 0, 1) := by decide +kernel
theorem d_Mod_up_1 : decode b_Mod_up 1 = .ok (.iload_n 1, 1) := by decide +kernel
theorem d_Mod_up_2 : decode b_Mod_up 2 = .ok (.iadd, 1) := by decide +kernel
theorem d_Mod_up_3 : decode b_Mod_up 3 = .ok (.iconst 1, 1) := by decide +kernel
theorem d_Mod_up_4 : decode b_Mod_up 4 = .ok (.isub, 1) := by decide +kernel
theorem d_Mod_up_5 : decode b_Mod_up 5 = .ok (.iload_n 1, 1) := by decide +kernel
theorem d_Mod_up_6 : decode b_Mod_up 6 = .ok (.idiv, 1) := by decide +kernel
theorem d_Mod_up_7 : decode b_Mod_up 7 = .ok (.ireturn, 1) := by decide +kernel
theorem d_Mod_findPart_0 : decode b_Mod_findPart 0 = .ok (.aload_n 0, 1) := by decide +kernel
theorem d_Mod_findPart_1 : decode b_Mod_findPart 1 = .ok (.iload_n 2, 1) := by decide +kernel
theorem d_Mod_findPart_2 : decode b_Mod_findPart 2 = .ok (.invokevirtual 82, 3) := by decide +kernel
theorem d_Mod_findPart_5 : decode b_Mod_findPart 5 = .ok (.ifCond .eq 11, 3) := by decide +kernel
theorem d_Mod_findPart_8 : decode b_Mod_findPart 8 = .ok (.aload_n 0, 1) := by decide +kernel
theorem d_Mod_findPart_9 : decode b_Mod_findPart 9 = .ok (.iload_n 1, 1) := by decide +kernel
theorem d_Mod_findPart_10 : decode b_Mod_findPart 10 = .ok (.invokevirtual 98, 3) := by decide +kernel
theorem d_Mod_findPart_13 : decode b_Mod_findPart 13 = .ok (.ifCond .ne 5, 3) := by decide +kernel
theorem d_Mod_findPart_16 : decode b_Mod_findPart 16 = .ok (.iconst 0, 1) := by decide +kernel
theorem d_Mod_findPart_17 : decode b_Mod_findPart 17 = .ok (.ireturn, 1) := by decide +kernel
theorem d_Mod_findPart_18 : decode b_Mod_findPart 18 = .ok (.aload_n 0, 1) := by decide +kernel
theorem d_Mod_findPart_19 : decode b_Mod_findPart 19 = .ok (.aload_n 0, 1) := by decide +kernel
theorem d_Mod_findPart_20 : decode b_Mod_findPart 20 = .ok (.getfield 86, 3) := by decide +kernel
theorem d_Mod_findPart_23 : decode b_Mod_findPart 23 = .ok (.aload_n 0, 1) := by decide +kernel
theorem d_Mod_findPart_24 : decode b_Mod_findPart 24 = .ok (.getfield 7, 3) := by decide +kernel
theorem d_Mod_findPart_27 : decode b_Mod_findPart 27 = .ok (.iload_n 2, 1) := by decide +kernel
theorem d_Mod_findPart_28 : decode b_Mod_findPart 28 = .ok (.iaload, 1) := by decide +kernel
theorem d_Mod_findPart_29 : decode b_Mod_findPart 29 = .ok (.invokestatic 101, 3) := by decide +kernel
theorem d_Mod_findPart_32 : decode b_Mod_findPart 32 = .ok (.putfield 86, 3) := by decide +kernel
theorem d_Mod_findPart_35 : decode b_Mod_findPart 35 = .ok (.aload_n 0, 1) := by decide +kernel
theorem d_Mod_findPart_36 : decode b_Mod_findPart 36 = .ok (.aload_n 0, 1) := by decide +kernel
theorem d_Mod_findPart_37 : decode b_Mod_findPart 37 = .ok (.getfield 89, 3) := by decide +kernel
theorem d_Mod_findPart_40 : decode b_Mod_findPart 40 = .ok (.aload_n 0, 1) := by decide +kernel
theorem d_Mod_findPart_41 : decode b_Mod_findPart 41 = .ok (.getfield 13, 3) := by decide +kernel
theorem d_Mod_findPart_44 : decode b_Mod_findPart 44 = .ok (.iload_n 2, 1) := by decide +kernel
theorem d_Mod_findPart_45 : decode b_Mod_findPart 45 = .ok (.iaload, 1) := by decide +kernel
theorem d_Mod_findPart_46 : decode b_Mod_findPart 46 = .ok (.invokestatic 101, 3) := by decide +kernel
theorem d_Mod_findPart_49 : decode b_Mod_findPart 49 = .ok (.putfield 89, 3) := by decide +kernel
theorem d_Mod_findPart_52 : decode b_Mod_findPart 52 = .ok (.aload_n 0, 1) := by decide +kernel
theorem d_Mod_findPart_53 : decode b_Mod_findPart 53 = .ok (.aload_n 0, 1) := by decide +kernel
theorem d_Mod_findPart_54 : decode b_Mod_findPart 54 = .ok (.getfield 92, 3) := by decide +kernel
theorem d_Mod_findPart_57 : decode b_Mod_findPart 57 = .ok (.aload_n 0, 1) := by decide +kernel
theorem d_Mod_findPart_58 : decode b_Mod_findPart 58 = .ok (.getfield 7, 3) := by decide +kernel
theorem d_Mod_findPart_61 : decode b_Mod_findPart 61 = .ok (.iload_n 2, 1) := by decide +kernel
theorem d_Mod_findPart_62 : decode b_Mod_findPart 62 = .ok (.iaload, 1) := by decide +kernel
theorem d_Mod_findPart_63 : decode b_Mod_findPart 63 = .ok (.invokestatic 101, 3) := by decide +kernel
theorem d_Mod_findPart_66 : decode b_Mod_findPart 66 = .ok (.putfield 92, 3) := by decide +kernel
theorem d_Mod_findPart_69 : decode b_Mod_findPart 69 = .ok (.aload_n 0, 1) := by decide +kernel
theorem d_Mod_findPart_70 : decode b_Mod_findPart 70 = .ok (.aload_n 0, 1) := by decide +kernel
theorem d_Mod_findPart_71 : decode b_Mod_findPart 71 = .ok (.getfield 95, 3) := by decide +kernel
theorem d_Mod_findPart_74 : decode b_Mod_findPart 74 = .ok (.aload_n 0, 1) := by decide +kernel
theorem d_Mod_findPart_75 : decode b_Mod_findPart 75 = .ok (.getfield 13, 3) := by decide +kernel
theorem d_Mod_findPart_78 : decode b_Mod_findPart 78 = .ok (.iload_n 2, 1) := by decide +kernel
theorem d_Mod_findPart_79 : decode b_Mod_findPart 79 = .ok (.iaload, 1) := by decide +kernel
theorem d_Mod_findPart_80 : decode b_Mod_findPart 80 = .ok (.invokestatic 101, 3) := by decide +kernel
theorem d_Mod_findPart_83 : decode b_Mod_findPart 83 = .ok (.putfield 95, 3) := by decide +kernel
theorem d_Mod_findPart_86 : decode b_Mod_findPart 86 = .ok (.iconst 1, 1) := by decide +kernel
theorem d_Mod_findPart_87 : decode b_Mod_findPart 87 = .ok (.ireturn, 1) := by decide +kernel
theorem d_Mod_findLevel_0 : decode b_Mod_findLevel 0 = .ok (.aload_n 0, 1) := by decide +kernel
theorem d_Mod_findLevel_1 : decode b_Mod_findLevel 1 = .ok (.iload_n 1, 1) := by decide +kernel
theorem d_Mod_findLevel_2 : decode b_Mod_findLevel 2 = .ok (.iload_n 2, 1) := by decide +kernel
theorem d_Mod_findLevel_3 : decode b_Mod_findLevel 3 = .ok (.invokevirtual 105, 3) := by decide +kernel
theorem d_Mod_findLevel_6 : decode b_Mod_findLevel 6 = .ok (.ifCond .eq 17, 3) := by decide +kernel
theorem d_Mod_findLevel_9 : decode b_Mod_findLevel 9 = .ok (.iload_n 3, 1) := by decide +kernel
theorem d_Mod_findLevel_10 : decode b_Mod_findLevel 10 = .ok (.ifCond .lt 13, 3) := by decide +kernel
theorem d_Mod_findLevel_13 : decode b_Mod_findLevel 13 = .ok (.iload_n 3, 1) := by decide +kernel
theorem d_Mod_findLevel_14 : decode b_Mod_findLevel 14 = .ok (.aload_n 0, 1) := by decide +kernel
theorem d_Mod_findLevel_15 : decode b_Mod_findLevel 15 = .ok (.getfield 16, 3) := by decide +kernel
theorem d_Mod_findLevel_18 : decode b_Mod_findLevel 18 = .ok (.iload_n 2, 1) := by decide +kernel
theorem d_Mod_findLevel_19 : decode b_Mod_findLevel 19 = .ok (.iaload, 1) := by decide +kernel
theorem d_Mod_findLevel_20 : decode b_Mod_findLevel 20 = .ok (.if_icmp .le 5, 3) := by decide +kernel
theorem d_Mod_findLevel_23 : decode b_Mod_findLevel 23 = .ok (.iconst 0, 1) := by decide +kernel
theorem d_Mod_findLevel_24 : decode b_Mod_findLevel 24 = .ok (.ireturn, 1) := by decide +kernel
theorem d_Mod_findLevel_25 : decode b_Mod_findLevel 25 = .ok (.aload_n 0, 1) := by decide +kernel
theorem d_Mod_findLevel_26 : decode b_Mod_findLevel 26 = .ok (.getfield 16, 3) := by decide +kernel
theorem d_Mod_findLevel_29 : decode b_Mod_findLevel 29 = .ok (.iload_n 2, 1) := by decide +kernel
theorem d_Mod_findLevel_30 : decode b_Mod_findLevel 30 = .ok (.iaload, 1) := by decide +kernel
theorem d_Mod_findLevel_31 : decode b_Mod_findLevel 31 = .ok (.istore 4, 2) := by decide +kernel
theorem d_Mod_findLevel_33 : decode b_Mod_findLevel 33 = .ok (.iload 4, 2) := by decide +kernel
theorem d_Mod_findLevel_35 : decode b_Mod_findLevel 35 = .ok (.iload_n 3, 1) := by decide +kernel
theorem d_Mod_findLevel_36 : decode b_Mod_findLevel 36 = .ok (.if_icmp .le 57, 3) := by decide +kernel
theorem d_Mod_findLevel_39 : decode b_Mod_findLevel 39 = .ok (.aload_n 0, 1) := by decide +kernel
theorem d_Mod_findLevel_40 : decode b_Mod_findLevel 40 = .ok (.aload_n 0, 1) := by decide +kernel
theorem d_Mod_findLevel_41 : decode b_Mod_findLevel 41 = .ok (.getfield 86, 3) := by decide +kernel
theorem d_Mod_findLevel_44 : decode b_Mod_findLevel 44 = .ok (.iconst 1, 1) := by decide +kernel
theorem d_Mod_findLevel_45 : decode b_Mod_findLevel 45 = .ok (.iadd, 1) := by decide +kernel
theorem d_Mod_findLevel_46 : decode b_Mod_findLevel 46 = .ok (.iconst 1, 1) := by decide +kernel
theorem d_Mod_findLevel_47 : decode b_Mod_findLevel 47 = .ok (.ishr, 1) := by decide +kernel
theorem d_Mod_findLevel_48 : decode b_Mod_findLevel 48 = .ok (.putfield 86, 3) := by decide +kernel
theorem d_Mod_findLevel_51 : decode b_Mod_findLevel 51 = .ok (.aload_n 0, 1) := by decide +kernel
theorem d_Mod_findLevel_52 : decode b_Mod_findLevel 52 = .ok (.aload_n 0, 1) := by decide +kernel
theorem d_Mod_findLevel_53 : decode b_Mod_findLevel 53 = .ok (.getfield 89, 3) := by decide +kernel
theorem d_Mod_findLevel_56 : decode b_Mod_findLevel 56 = .ok (.iconst 1, 1) := by decide +kernel
theorem d_Mod_findLevel_57 : decode b_Mod_findLevel 57 = .ok (.iadd, 1) := by decide +kernel
theorem d_Mod_findLevel_58 : decode b_Mod_findLevel 58 = .ok (.iconst 1, 1) := by decide +kernel
theorem d_Mod_findLevel_59 : decode b_Mod_findLevel 59 = .ok (.ishr, 1) := by decide +kernel
theorem d_Mod_findLevel_60 : decode b_Mod_findLevel 60 = .ok (.putfield 89, 3) := by decide +kernel
theorem d_Mod_findLevel_63 : decode b_Mod_findLevel 63 = .ok (.aload_n 0, 1) := by decide +kernel
theorem d_Mod_findLevel_64 : decode b_Mod_findLevel 64 = .ok (.aload_n 0, 1) := by decide +kernel
theorem d_Mod_findLevel_65 : decode b_Mod_findLevel 65 = .ok (.getfield 92, 3) := by decide +kernel
theorem d_Mod_findLevel_68 : decode b_Mod_findLevel 68 = .ok (.iconst 1, 1) := by decide +kernel
theorem d_Mod_findLevel_69 : decode b_Mod_findLevel 69 = .ok (.iadd, 1) := by decide +kernel
theorem d_Mod_findLevel_70 : decode b_Mod_findLevel 70 = .ok (.iconst 1, 1) := by decide +kernel
theorem d_Mod_findLevel_71 : decode b_Mod_findLevel 71 = .ok (.ishr, 1) := by decide +kernel
theorem d_Mod_findLevel_72 : decode b_Mod_findLevel 72 = .ok (.putfield 92, 3) := by decide +kernel
theorem d_Mod_findLevel_75 : decode b_Mod_findLevel 75 = .ok (.aload_n 0, 1) := by decide +kernel
theorem d_Mod_findLevel_76 : decode b_Mod_findLevel 76 = .ok (.aload_n 0, 1) := by decide +kernel
theorem d_Mod_findLevel_77 : decode b_Mod_findLevel 77 = .ok (.getfield 95, 3) := by decide +kernel
theorem d_Mod_findLevel_80 : decode b_Mod_findLevel 80 = .ok (.iconst 1, 1) := by decide +kernel
theorem d_Mod_findLevel_81 : decode b_Mod_findLevel 81 = .ok (.iadd, 1) := by decide +kernel
theorem d_Mod_findLevel_82 : decode b_Mod_findLevel 82 = .ok (.iconst 1, 1) := by decide +kernel
theorem d_Mod_findLevel_83 : decode b_Mod_findLevel 83 = .ok (.ishr, 1) := by decide +kernel
theorem d_Mod_findLevel_84 : decode b_Mod_findLevel 84 = .ok (.putfield 95, 3) := by decide +kernel
theorem d_Mod_findLevel_87 : decode b_Mod_findLevel 87 = .ok (.iinc 4 (-1), 3) := by decide +kernel
theorem d_Mod_findLevel_90 : decode b_Mod_findLevel 90 = .ok (.goto (-57), 3) := by decide +kernel
theorem d_Mod_findLevel_93 : decode b_Mod_findLevel 93 = .ok (.iconst 1, 1) := by decide +kernel
theorem d_Mod_findLevel_94 : decode b_Mod_findLevel 94 = .ok (.ireturn, 1) := by decide +kernel
theorem d_Mod_isBand_0 : decode b_Mod_isBand 0 = .ok (.iload_n 0, 1) := by decide +kernel
theorem d_Mod_isBand_1 : decode b_Mod_isBand 1 = .ok (.ifCond .ne 15, 3) := by decide +kernel
theorem d_Mod_isBand_4 : decode b_Mod_isBand 4 = .ok (.iload_n 1, 1) := by decide +kernel
theorem d_Mod_isBand_5 : decode b_Mod_isBand 5 = .ok (.ifCond .ne 7, 3) := by decide +kernel
theorem d_Mod_isBand_8 : decode b_Mod_isBand 8 = .ok (.iconst 1, 1) := by decide +kernel
theorem d_Mod_isBand_9 : decode b_Mod_isBand 9 = .ok (.goto 22, 3) := by decide +kernel
theorem d_Mod_isBand_12 : decode b_Mod_isBand 12 = .ok (.iconst 0, 1) := by decide +kernel
theorem d_Mod_isBand_13 : decode b_Mod_isBand 13 = .ok (.goto 18, 3) := by decide +kernel
theorem d_Mod_isBand_16 : decode b_Mod_isBand 16 = .ok (.iload_n 1, 1) := by decide +kernel
theorem d_Mod_isBand_17 : decode b_Mod_isBand 17 = .ok (.iconst 1, 1) := by decide +kernel
theorem d_Mod_isBand_18 : decode b_Mod_isBand 18 = .ok (.if_icmp .lt 12, 3) := by decide +kernel
theorem d_Mod_isBand_21 : decode b_Mod_isBand 21 = .ok (.iload_n 1, 1) := by decide +kernel
theorem d_Mod_isBand_22 : decode b_Mod_isBand 22 = .ok (.iconst 3, 1) := by decide +kernel
theorem d_Mod_isBand_23 : decode b_Mod_isBand 23 = .ok (.if_icmp .gt 7, 3) := by decide +kernel
theorem d_Mod_isBand_26 : decode b_Mod_isBand 26 = .ok (.iconst 1, 1) := by decide +kernel
theorem d_Mod_isBand_27 : decode b_Mod_isBand 27 = .ok (.goto 4, 3) := by decide +kernel
theorem d_Mod_isBand_30 : decode b_Mod_isBand 30 = .ok (.iconst 0, 1) := by decide +kernel
theorem d_Mod_isBand_31 : decode b_Mod_isBand 31 = .ok (.ireturn, 1) := by decide +kernel
theorem d_Mod_findBand_0 : decode b_Mod_findBand 0 = .ok (.aload_n 0, 1) := by decide +kernel
theorem d_Mod_findBand_1 : decode b_Mod_findBand 1 = .ok (.iload_n 1, 1) := by decide +kernel
theorem d_Mod_findBand_2 : decode b_Mod_findBand 2 = .ok (.iload_n 2, 1) := by decide +kernel
theorem d_Mod_findBand_3 : decode b_Mod_findBand 3 = .ok (.iload_n 3, 1) := by decide +kernel
theorem d_Mod_findBand_4 : decode b_Mod_findBand 4 = .ok (.invokevirtual 109, 3) := by decide +kernel
theorem d_Mod_findBand_7 : decode b_Mod_findBand 7 = .ok (.ifCond .eq 12, 3) := by decide +kernel
theorem d_Mod_findBand_10 : decode b_Mod_findBand 10 = .ok (.iload_n 3, 1) := by decide +kernel
theorem d_Mod_findBand_11 : decode b_Mod_findBand 11 = .ok (.iload 4, 2) := by decide +kernel
theorem d_Mod_findBand_13 : decode b_Mod_findBand 13 = .ok (.invokestatic 113, 3) := by decide +kernel
theorem d_Mod_findBand_16 : decode b_Mod_findBand 16 = .ok (.ifCond .ne 5, 3) := by decide +kernel
theorem d_Mod_findBand_19 : decode b_Mod_findBand 19 = .ok (.iconst 0, 1) := by decide +kernel
theorem d_Mod_findBand_20 : decode b_Mod_findBand 20 = .ok (.ireturn, 1) := by decide +kernel
theorem d_Mod_findBand_21 : decode b_Mod_findBand 21 = .ok (.iload_n 3, 1) := by decide +kernel
theorem d_Mod_findBand_22 : decode b_Mod_findBand 22 = .ok (.ifCond .le 81, 3) := by decide +kernel
theorem d_Mod_findBand_25 : decode b_Mod_findBand 25 = .ok (.iload 4, 2) := by decide +kernel
theorem d_Mod_findBand_27 : decode b_Mod_findBand 27 = .ok (.iconst 2, 1) := by decide +kernel
theorem d_Mod_findBand_28 : decode b_Mod_findBand 28 = .ok (.if_icmp .ne 7, 3) := by decide +kernel
theorem d_Mod_findBand_31 : decode b_Mod_findBand 31 = .ok (.iconst 1, 1) := by decide +kernel
theorem d_Mod_findBand_32 : decode b_Mod_findBand 32 = .ok (.goto 4, 3) := by decide +kernel
theorem d_Mod_findBand_35 : decode b_Mod_findBand 35 = .ok (.iconst 0, 1) := by decide +kernel
theorem d_Mod_findBand_36 : decode b_Mod_findBand 36 = .ok (.istore 5, 2) := by decide +kernel
theorem d_Mod_findBand_38 : decode b_Mod_findBand 38 = .ok (.iload 4, 2) := by decide +kernel
theorem d_Mod_findBand_40 : decode b_Mod_findBand 40 = .ok (.iconst 1, 1) := by decide +kernel
theorem d_Mod_findBand_41 : decode b_Mod_findBand 41 = .ok (.if_icmp .ne 7, 3) := by decide +kernel
theorem d_Mod_findBand_44 : decode b_Mod_findBand 44 = .ok (.iconst 1, 1) := by decide +kernel
theorem d_Mod_findBand_45 : decode b_Mod_findBand 45 = .ok (.goto 4, 3) := by decide +kernel
theorem d_Mod_findBand_48 : decode b_Mod_findBand 48 = .ok (.iconst 0, 1) := by decide +kernel
theorem d_Mod_findBand_49 : decode b_Mod_findBand 49 = .ok (.istore 6, 2) := by decide +kernel
theorem d_Mod_findBand_51 : decode b_Mod_findBand 51 = .ok (.aload_n 0, 1) := by decide +kernel
theorem d_Mod_findBand_52 : decode b_Mod_findBand 52 = .ok (.aload_n 0, 1) := by decide +kernel
theorem d_Mod_findBand_53 : decode b_Mod_findBand 53 = .ok (.getfield 86, 3) := by decide +kernel
theorem d_Mod_findBand_56 : decode b_Mod_findBand 56 = .ok (.iload 5, 2) := by decide +kernel
theorem d_Mod_findBand_58 : decode b_Mod_findBand 58 = .ok (.iadd, 1) := by decide +kernel
theorem d_Mod_findBand_59 : decode b_Mod_findBand 59 = .ok (.iconst 1, 1) := by decide +kernel
theorem d_Mod_findBand_60 : decode b_Mod_findBand 60 = .ok (.ishr, 1) := by decide +kernel
theorem d_Mod_findBand_61 : decode b_Mod_findBand 61 = .ok (.putfield 86, 3) := by decide +kernel
theorem d_Mod_findBand_64 : decode b_Mod_findBand 64 = .ok (.aload_n 0, 1) := by decide +kernel
theorem d_Mod_findBand_65 : decode b_Mod_findBand 65 = .ok (.aload_n 0, 1) := by decide +kernel
theorem d_Mod_findBand_66 : decode b_Mod_findBand 66 = .ok (.getfield 92, 3) := by decide +kernel
theorem d_Mod_findBand_69 : decode b_Mod_findBand 69 = .ok (.iload 5, 2) := by decide +kernel
theorem d_Mod_findBand_71 : decode b_Mod_findBand 71 = .ok (.iadd, 1) := by decide +kernel
theorem d_Mod_findBand_72 : decode b_Mod_findBand 72 = .ok (.iconst 1, 1) := by decide +kernel
theorem d_Mod_findBand_73 : decode b_Mod_findBand 73 = .ok (.ishr, 1) := by decide +kernel
theorem d_Mod_findBand_74 : decode b_Mod_findBand 74 = .ok (.putfield 92, 3) := by decide +kernel
theorem d_Mod_findBand_77 : decode b_Mod_findBand 77 = .ok (.aload_n 0, 1) := by decide +kernel
theorem d_Mod_findBand_78 : decode b_Mod_findBand 78 = .ok (.aload_n 0, 1) := by decide +kernel
theorem d_Mod_findBand_79 : decode b_Mod_findBand 79 = .ok (.getfield 89, 3) := by decide +kernel
theorem d_Mod_findBand_82 : decode b_Mod_findBand 82 = .ok (.iload 6, 2) := by decide +kernel
theorem d_Mod_findBand_84 : decode b_Mod_findBand 84 = .ok (.iadd, 1) := by decide +kernel
theorem d_Mod_findBand_85 : decode b_Mod_findBand 85 = .ok (.iconst 1, 1) := by decide +kernel
theorem d_Mod_findBand_86 : decode b_Mod_findBand 86 = .ok (.ishr, 1) := by decide +kernel
theorem d_Mod_findBand_87 : decode b_Mod_findBand 87 = .ok (.putfield 89, 3) := by decide +kernel
theorem d_Mod_findBand_90 : decode b_Mod_findBand 90 = .ok (.aload_n 0, 1) := by decide +kernel
theorem d_Mod_findBand_91 : decode b_Mod_findBand 91 = .ok (.aload_n 0, 1) := by decide +kernel
theorem d_Mod_findBand_92 : decode b_Mod_findBand 92 = .ok (.getfield 95, 3) := by decide +kernel
theorem d_Mod_findBand_95 : decode b_Mod_findBand 95 = .ok (.iload 6, 2) := by decide +kernel
theorem d_Mod_findBand_97 : decode b_Mod_findBand 97 = .ok (.iadd, 1) := by decide +kernel
theorem d_Mod_findBand_98 : decode b_Mod_findBand 98 = .ok (.iconst 1, 1) := by decide +kernel
theorem d_Mod_findBand_99 : decode b_Mod_findBand 99 = .ok (.ishr, 1) := by decide +kernel
theorem d_Mod_findBand_100 : decode b_Mod_findBand 100 = .ok (.putfield 95, 3) := by decide +kernel
theorem d_Mod_findBand_103 : decode b_Mod_findBand 103 = .ok (.iconst 1, 1) := by decide +kernel
theorem d_Mod_findBand_104 : decode b_Mod_findBand 104 = .ok (.ireturn, 1) := by decide +kernel
theorem d_Mod_isEmpty_0 : decode b_Mod_isEmpty 0 = .ok (.aload_n 0, 1) := by decide +kernel
theorem d_Mod_isEmpty_1 : decode b_Mod_isEmpty 1 = .ok (.getfield 86, 3) := by decide +kernel
theorem d_Mod_isEmpty_4 : decode b_Mod_isEmpty 4 = .ok (.aload_n 0, 1) := by decide +kernel
theorem d_Mod_isEmpty_5 : decode b_Mod_isEmpty 5 = .ok (.getfield 92, 3) := by decide +kernel
theorem d_Mod_isEmpty_8 : decode b_Mod_isEmpty 8 = .ok (.if_icmp .ge 14, 3) := by decide +kernel
theorem d_Mod_isEmpty_11 : decode b_Mod_isEmpty 11 = .ok (.aload_n 0, 1) := by decide +kernel
theorem d_Mod_isEmpty_12 : decode b_Mod_isEmpty 12 = .ok (.getfield 89, 3) := by decide +kernel
theorem d_Mod_isEmpty_15 : decode b_Mod_isEmpty 15 = .ok (.aload_n 0, 1) := by decide +kernel
theorem d_Mod_isEmpty_16 : decode b_Mod_isEmpty 16 = .ok (.getfield 95, 3) := by decide +kernel
theorem d_Mod_isEmpty_19 : decode b_Mod_isEmpty 19 = .ok (.if_icmp .lt 7, 3) := by decide +kernel
theorem d_Mod_isEmpty_22 : decode b_Mod_isEmpty 22 = .ok (.iconst 1, 1) := by decide +kernel
theorem d_Mod_isEmpty_23 : decode b_Mod_isEmpty 23 = .ok (.goto 4, 3) := by decide +kernel
theorem d_Mod_isEmpty_26 : decode b_Mod_isEmpty 26 = .ok (.iconst 0, 1) := by decide +kernel
theorem d_Mod_isEmpty_27 : decode b_Mod_isEmpty 27 = .ok (.ireturn, 1) := by decide +kernel
theorem d_Mod_squares_0 : decode b_Mod_squares 0 = .ok (.iconst 0, 1) := by decide +kernel
theorem d_Mod_squares_1 : decode b_Mod_squares 1 = .ok (.istore_n 3, 1) := by decide +kernel
theorem d_Mod_squares_2 : decode b_Mod_squares 2 = .ok (.iload_n 0, 1) := by decide +kernel
theorem d_Mod_squares_3 : decode b_Mod_squares 3 = .ok (.iload_n 1, 1) := by decide +kernel
theorem d_Mod_squares_4 : decode b_Mod_squares 4 = .ok (.if_icmp .ge 15, 3) := by decide +kernel
theorem d_Mod_squares_7 : decode b_Mod_squares 7 = .ok (.iload_n 1, 1) := by decide +kernel
theorem d_Mod_squares_8 : decode b_Mod_squares 8 = .ok (.iconst 1, 1) := by decide +kernel
theorem d_Mod_squares_9 : decode b_Mod_squares 9 = .ok (.isub, 1) := by decide +kernel
theorem d_Mod_squares_10 : decode b_Mod_squares 10 = .ok (.iload_n 2, 1) := by decide +kernel
theorem d_Mod_squares_11 : decode b_Mod_squares 11 = .ok (.ishr, 1) := by decide +kernel
theorem d_Mod_squares_12 : decode b_Mod_squares 12 = .ok (.iload_n 0, 1) := by decide +kernel
theorem d_Mod_squares_13 : decode b_Mod_squares 13 = .ok (.iload_n 2, 1) := by decide +kernel
theorem d_Mod_squares_14 : decode b_Mod_squares 14 = .ok (.ishr, 1) := by decide +kernel
theorem d_Mod_squares_15 : decode b_Mod_squares 15 = .ok (.isub, 1) := by decide +kernel
theorem d_Mod_squares_16 : decode b_Mod_squares 16 = .ok (.iconst 1, 1) := by decide +kernel
theorem d_Mod_squares_17 : decode b_Mod_squares 17 = .ok (.iadd, 1) := by decide +kernel
theorem d_Mod_squares_18 : decode b_Mod_squares 18 = .ok (.istore_n 3, 1) := by decide +kernel
theorem d_Mod_squares_19 : decode b_Mod_squares 19 = .ok (.iload_n 3, 1) := by decide +kernel
theorem d_Mod_squares_20 : decode b_Mod_squares 20 = .ok (.ireturn, 1) := by decide +kernel
theorem d_Mod_columns_0 : decode b_Mod_columns 0 = .ok (.aload_n 0, 1) := by decide +kernel
theorem d_Mod_columns_1 : decode b_Mod_columns 1 = .ok (.invokevirtual 116, 3) := by decide +kernel
theorem d_Mod_columns_4 : decode b_Mod_columns 4 = .ok (.ifCond .eq 7, 3) := by decide +kernel
theorem d_Mod_columns_7 : decode b_Mod_columns 7 = .ok (.iconst 0, 1) := by decide +kernel
theorem d_Mod_columns_8 : decode b_Mod_columns 8 = .ok (.goto 25, 3) := by decide +kernel
theorem d_Mod_columns_11 : decode b_Mod_columns 11 = .ok (.aload_n 0, 1) := by decide +kernel
theorem d_Mod_columns_12 : decode b_Mod_columns 12 = .ok (.getfield 86, 3) := by decide +kernel
theorem d_Mod_columns_15 : decode b_Mod_columns 15 = .ok (.aload_n 0, 1) := by decide +kernel
theorem d_Mod_columns_16 : decode b_Mod_columns 16 = .ok (.getfield 92, 3) := by decide +kernel
theorem d_Mod_columns_19 : decode b_Mod_columns 19 = .ok (.aload_n 0, 1) := by decide +kernel
theorem d_Mod_columns_20 : decode b_Mod_columns 20 = .ok (.getfield 25, 3) := by decide +kernel
theorem d_Mod_columns_23 : decode b_Mod_columns 23 = .ok (.bipush 33, 2) := by decide +kernel
theorem d_Mod_columns_25 : decode b_Mod_columns 25 = .ok (.iload_n 1, 1) := by decide +kernel
theorem d_Mod_columns_26 : decode b_Mod_columns 26 = .ok (.imul, 1) := by decide +kernel
theorem d_Mod_columns_27 : decode b_Mod_columns 27 = .ok (.iload_n 2, 1) := by decide +kernel
theorem d_Mod_columns_28 : decode b_Mod_columns 28 = .ok (.iadd, 1) := by decide +kernel
theorem d_Mod_columns_29 : decode b_Mod_columns 29 = .ok (.iaload, 1) := by decide +kernel
theorem d_Mod_columns_30 : decode b_Mod_columns 30 = .ok (.invokestatic 120, 3) := by decide +kernel
theorem d_Mod_columns_33 : decode b_Mod_columns 33 = .ok (.ireturn, 1) := by decide +kernel
theorem d_Mod_rows_0 : decode b_Mod_rows 0 = .ok (.aload_n 0, 1) := by decide +kernel
theorem d_Mod_rows_1 : decode b_Mod_rows 1 = .ok (.invokevirtual 116, 3) := by decide +kernel
theorem d_Mod_rows_4 : decode b_Mod_rows 4 = .ok (.ifCond .eq 7, 3) := by decide +kernel
theorem d_Mod_rows_7 : decode b_Mod_rows 7 = .ok (.iconst 0, 1) := by decide +kernel
theorem d_Mod_rows_8 : decode b_Mod_rows 8 = .ok (.goto 25, 3) := by decide +kernel
theorem d_Mod_rows_11 : decode b_Mod_rows 11 = .ok (.aload_n 0, 1) := by decide +kernel
theorem d_Mod_rows_12 : decode b_Mod_rows 12 = .ok (.getfield 89, 3) := by decide +kernel
theorem d_Mod_rows_15 : decode b_Mod_rows 15 = .ok (.aload_n 0, 1) := by decide +kernel
theorem d_Mod_rows_16 : decode b_Mod_rows 16 = .ok (.getfield 95, 3) := by decide +kernel
theorem d_Mod_rows_19 : decode b_Mod_rows 19 = .ok (.aload_n 0, 1) := by decide +kernel
theorem d_Mod_rows_20 : decode b_Mod_rows 20 = .ok (.getfield 28, 3) := by decide +kernel
theorem d_Mod_rows_23 : decode b_Mod_rows 23 = .ok (.bipush 33, 2) := by decide +kernel
theorem d_Mod_rows_25 : decode b_Mod_rows 25 = .ok (.iload_n 1, 1) := by decide +kernel
theorem d_Mod_rows_26 : decode b_Mod_rows 26 = .ok (.imul, 1) := by decide +kernel
theorem d_Mod_rows_27 : decode b_Mod_rows 27 = .ok (.iload_n 2, 1) := by decide +kernel
theorem d_Mod_rows_28 : decode b_Mod_rows 28 = .ok (.iadd, 1) := by decide +kernel
theorem d_Mod_rows_29 : decode b_Mod_rows 29 = .ok (.iaload, 1) := by decide +kernel
theorem d_Mod_rows_30 : decode b_Mod_rows 30 = .ok (.invokestatic 120, 3) := by decide +kernel
theorem d_Mod_rows_33 : decode b_Mod_rows 33 = .ok (.ireturn, 1) := by decide +kernel
theorem d_Mod_placeOf_0 : decode b_Mod_placeOf 0 = .ok (.aload_n 0, 1) := by decide +kernel
theorem d_Mod_placeOf_1 : decode b_Mod_placeOf 1 = .ok (.iload_n 1, 1) := by decide +kernel
theorem d_Mod_placeOf_2 : decode b_Mod_placeOf 2 = .ok (.iload_n 2, 1) := by decide +kernel
theorem d_Mod_placeOf_3 : decode b_Mod_placeOf 3 = .ok (.invokevirtual 123, 3) := by decide +kernel
theorem d_Mod_placeOf_6 : decode b_Mod_placeOf 6 = .ok (.istore 4, 2) := by decide +kernel
theorem d_Mod_placeOf_8 : decode b_Mod_placeOf 8 = .ok (.iload_n 3, 1) := by decide +kernel
theorem d_Mod_placeOf_9 : decode b_Mod_placeOf 9 = .ok (.ifCond .lt 21, 3) := by decide +kernel
theorem d_Mod_placeOf_12 : decode b_Mod_placeOf 12 = .ok (.iload 4, 2) := by decide +kernel
theorem d_Mod_placeOf_14 : decode b_Mod_placeOf 14 = .ok (.ifCond .eq 16, 3) := by decide +kernel
theorem d_Mod_placeOf_17 : decode b_Mod_placeOf 17 = .ok (.iload_n 3, 1) := by decide +kernel
theorem d_Mod_placeOf_18 : decode b_Mod_placeOf 18 = .ok (.iload 4, 2) := by decide +kernel
theorem d_Mod_placeOf_20 : decode b_Mod_placeOf 20 = .ok (.idiv, 1) := by decide +kernel
theorem d_Mod_placeOf_21 : decode b_Mod_placeOf 21 = .ok (.aload_n 0, 1) := by decide +kernel
theorem d_Mod_placeOf_22 : decode b_Mod_placeOf 22 = .ok (.iload_n 1, 1) := by decide +kernel
theorem d_Mod_placeOf_23 : decode b_Mod_placeOf 23 = .ok (.iload_n 2, 1) := by decide +kernel
theorem d_Mod_placeOf_24 : decode b_Mod_placeOf 24 = .ok (.invokevirtual 126, 3) := by decide +kernel
theorem d_Mod_placeOf_27 : decode b_Mod_placeOf 27 = .ok (.if_icmp .lt 5, 3) := by decide +kernel
theorem d_Mod_placeOf_30 : decode b_Mod_placeOf 30 = .ok (.iconst (-1), 1) := by decide +kernel
theorem d_Mod_placeOf_31 : decode b_Mod_placeOf 31 = .ok (.ireturn, 1) := by decide +kernel
theorem d_Mod_placeOf_32 : decode b_Mod_placeOf 32 = .ok (.aload_n 0, 1) := by decide +kernel
theorem d_Mod_placeOf_33 : decode b_Mod_placeOf 33 = .ok (.getfield 86, 3) := by decide +kernel
theorem d_Mod_placeOf_36 : decode b_Mod_placeOf 36 = .ok (.aload_n 0, 1) := by decide +kernel
theorem d_Mod_placeOf_37 : decode b_Mod_placeOf 37 = .ok (.getfield 25, 3) := by decide +kernel
theorem d_Mod_placeOf_40 : decode b_Mod_placeOf 40 = .ok (.bipush 33, 2) := by decide +kernel
theorem d_Mod_placeOf_42 : decode b_Mod_placeOf 42 = .ok (.iload_n 1, 1) := by decide +kernel
theorem d_Mod_placeOf_43 : decode b_Mod_placeOf 43 = .ok (.imul, 1) := by decide +kernel
theorem d_Mod_placeOf_44 : decode b_Mod_placeOf 44 = .ok (.iload_n 2, 1) := by decide +kernel
theorem d_Mod_placeOf_45 : decode b_Mod_placeOf 45 = .ok (.iadd, 1) := by decide +kernel
theorem d_Mod_placeOf_46 : decode b_Mod_placeOf 46 = .ok (.iaload, 1) := by decide +kernel
theorem d_Mod_placeOf_47 : decode b_Mod_placeOf 47 = .ok (.ishr, 1) := by decide +kernel
theorem d_Mod_placeOf_48 : decode b_Mod_placeOf 48 = .ok (.iload_n 3, 1) := by decide +kernel
theorem d_Mod_placeOf_49 : decode b_Mod_placeOf 49 = .ok (.iload 4, 2) := by decide +kernel
theorem d_Mod_placeOf_51 : decode b_Mod_placeOf 51 = .ok (.irem, 1) := by decide +kernel
theorem d_Mod_placeOf_52 : decode b_Mod_placeOf 52 = .ok (.iadd, 1) := by decide +kernel
theorem d_Mod_placeOf_53 : decode b_Mod_placeOf 53 = .ok (.istore 5, 2) := by decide +kernel
theorem d_Mod_placeOf_55 : decode b_Mod_placeOf 55 = .ok (.aload_n 0, 1) := by decide +kernel
theorem d_Mod_placeOf_56 : decode b_Mod_placeOf 56 = .ok (.getfield 89, 3) := by decide +kernel
theorem d_Mod_placeOf_59 : decode b_Mod_placeOf 59 = .ok (.aload_n 0, 1) := by decide +kernel
theorem d_Mod_placeOf_60 : decode b_Mod_placeOf 60 = .ok (.getfield 28, 3) := by decide +kernel
theorem d_Mod_placeOf_63 : decode b_Mod_placeOf 63 = .ok (.bipush 33, 2) := by decide +kernel
theorem d_Mod_placeOf_65 : decode b_Mod_placeOf 65 = .ok (.iload_n 1, 1) := by decide +kernel
theorem d_Mod_placeOf_66 : decode b_Mod_placeOf 66 = .ok (.imul, 1) := by decide +kernel
theorem d_Mod_placeOf_67 : decode b_Mod_placeOf 67 = .ok (.iload_n 2, 1) := by decide +kernel
theorem d_Mod_placeOf_68 : decode b_Mod_placeOf 68 = .ok (.iadd, 1) := by decide +kernel
theorem d_Mod_placeOf_69 : decode b_Mod_placeOf 69 = .ok (.iaload, 1) := by decide +kernel
theorem d_Mod_placeOf_70 : decode b_Mod_placeOf 70 = .ok (.ishr, 1) := by decide +kernel
theorem d_Mod_placeOf_71 : decode b_Mod_placeOf 71 = .ok (.iload_n 3, 1) := by decide +kernel
theorem d_Mod_placeOf_72 : decode b_Mod_placeOf 72 = .ok (.iload 4, 2) := by decide +kernel
theorem d_Mod_placeOf_74 : decode b_Mod_placeOf 74 = .ok (.idiv, 1) := by decide +kernel
theorem d_Mod_placeOf_75 : decode b_Mod_placeOf 75 = .ok (.iadd, 1) := by decide +kernel
theorem d_Mod_placeOf_76 : decode b_Mod_placeOf 76 = .ok (.istore 6, 2) := by decide +kernel
theorem d_Mod_placeOf_78 : decode b_Mod_placeOf 78 = .ok (.iload 5, 2) := by decide +kernel
theorem d_Mod_placeOf_80 : decode b_Mod_placeOf 80 = .ok (.bipush 16, 2) := by decide +kernel
theorem d_Mod_placeOf_82 : decode b_Mod_placeOf 82 = .ok (.ishl, 1) := by decide +kernel
theorem d_Mod_placeOf_83 : decode b_Mod_placeOf 83 = .ok (.iload 6, 2) := by decide +kernel
theorem d_Mod_placeOf_85 : decode b_Mod_placeOf 85 = .ok (.ior, 1) := by decide +kernel
theorem d_Mod_placeOf_86 : decode b_Mod_placeOf 86 = .ok (.ireturn, 1) := by decide +kernel
theorem d_Mod_keep_0 : decode b_Mod_keep 0 = .ok (.iload_n 1, 1) := by decide +kernel
theorem d_Mod_keep_1 : decode b_Mod_keep 1 = .ok (.iload_n 3, 1) := by decide +kernel
theorem d_Mod_keep_2 : decode b_Mod_keep 2 = .ok (.ishl, 1) := by decide +kernel
theorem d_Mod_keep_3 : decode b_Mod_keep 3 = .ok (.istore 5, 2) := by decide +kernel
theorem d_Mod_keep_5 : decode b_Mod_keep 5 = .ok (.iload_n 2, 1) := by decide +kernel
theorem d_Mod_keep_6 : decode b_Mod_keep 6 = .ok (.iload 4, 2) := by decide +kernel
theorem d_Mod_keep_8 : decode b_Mod_keep 8 = .ok (.ishl, 1) := by decide +kernel
theorem d_Mod_keep_9 : decode b_Mod_keep 9 = .ok (.istore 6, 2) := by decide +kernel
theorem d_Mod_keep_11 : decode b_Mod_keep 11 = .ok (.aload_n 0, 1) := by decide +kernel
theorem d_Mod_keep_12 : decode b_Mod_keep 12 = .ok (.aload_n 0, 1) := by decide +kernel
theorem d_Mod_keep_13 : decode b_Mod_keep 13 = .ok (.getfield 86, 3) := by decide +kernel
theorem d_Mod_keep_16 : decode b_Mod_keep 16 = .ok (.iload 5, 2) := by decide +kernel
theorem d_Mod_keep_18 : decode b_Mod_keep 18 = .ok (.if_icmp .ge 8, 3) := by decide +kernel
theorem d_Mod_keep_21 : decode b_Mod_keep 21 = .ok (.iload 5, 2) := by decide +kernel
theorem d_Mod_keep_23 : decode b_Mod_keep 23 = .ok (.goto 7, 3) := by decide +kernel
theorem d_Mod_keep_26 : decode b_Mod_keep 26 = .ok (.aload_n 0, 1) := by decide +kernel
theorem d_Mod_keep_27 : decode b_Mod_keep 27 = .ok (.getfield 86, 3) := by decide +kernel
theorem d_Mod_keep_30 : decode b_Mod_keep 30 = .ok (.putfield 86, 3) := by decide +kernel
theorem d_Mod_keep_33 : decode b_Mod_keep 33 = .ok (.aload_n 0, 1) := by decide +kernel
theorem d_Mod_keep_34 : decode b_Mod_keep 34 = .ok (.aload_n 0, 1) := by decide +kernel
theorem d_Mod_keep_35 : decode b_Mod_keep 35 = .ok (.getfield 89, 3) := by decide +kernel
theorem d_Mod_keep_38 : decode b_Mod_keep 38 = .ok (.iload 6, 2) := by decide +kernel
theorem d_Mod_keep_40 : decode b_Mod_keep 40 = .ok (.if_icmp .ge 8, 3) := by decide +kernel
theorem d_Mod_keep_43 : decode b_Mod_keep 43 = .ok (.iload 6, 2) := by decide +kernel
theorem d_Mod_keep_45 : decode b_Mod_keep 45 = .ok (.goto 7, 3) := by decide +kernel
theorem d_Mod_keep_48 : decode b_Mod_keep 48 = .ok (.aload_n 0, 1) := by decide +kernel
theorem d_Mod_keep_49 : decode b_Mod_keep 49 = .ok (.getfield 89, 3) := by decide +kernel
theorem d_Mod_keep_52 : decode b_Mod_keep 52 = .ok (.putfield 89, 3) := by decide +kernel
theorem d_Mod_keep_55 : decode b_Mod_keep 55 = .ok (.aload_n 0, 1) := by decide +kernel
theorem d_Mod_keep_56 : decode b_Mod_keep 56 = .ok (.aload_n 0, 1) := by decide +kernel
theorem d_Mod_keep_57 : decode b_Mod_keep 57 = .ok (.getfield 92, 3) := by decide +kernel
theorem d_Mod_keep_60 : decode b_Mod_keep 60 = .ok (.iload 5, 2) := by decide +kernel
theorem d_Mod_keep_62 : decode b_Mod_keep 62 = .ok (.iconst 1, 1) := by decide +kernel
theorem d_Mod_keep_63 : decode b_Mod_keep 63 = .ok (.iload_n 3, 1) := by decide +kernel
theorem d_Mod_keep_64 : decode b_Mod_keep 64 = .ok (.ishl, 1) := by decide +kernel
theorem d_Mod_keep_65 : decode b_Mod_keep 65 = .ok (.iadd, 1) := by decide +kernel
theorem d_Mod_keep_66 : decode b_Mod_keep 66 = .ok (.if_icmp .le 12, 3) := by decide +kernel
theorem d_Mod_keep_69 : decode b_Mod_keep 69 = .ok (.iload 5, 2) := by decide +kernel
theorem d_Mod_keep_71 : decode b_Mod_keep 71 = .ok (.iconst 1, 1) := by decide +kernel
theorem d_Mod_keep_72 : decode b_Mod_keep 72 = .ok (.iload_n 3, 1) := by decide +kernel
theorem d_Mod_keep_73 : decode b_Mod_keep 73 = .ok (.ishl, 1) := by decide +kernel
theorem d_Mod_keep_74 : decode b_Mod_keep 74 = .ok (.iadd, 1) := by decide +kernel
theorem d_Mod_keep_75 : decode b_Mod_keep 75 = .ok (.goto 7, 3) := by decide +kernel
theorem d_Mod_keep_78 : decode b_Mod_keep 78 = .ok (.aload_n 0, 1) := by decide +kernel
theorem d_Mod_keep_79 : decode b_Mod_keep 79 = .ok (.getfield 92, 3) := by decide +kernel
theorem d_Mod_keep_82 : decode b_Mod_keep 82 = .ok (.putfield 92, 3) := by decide +kernel
theorem d_Mod_keep_85 : decode b_Mod_keep 85 = .ok (.aload_n 0, 1) := by decide +kernel
theorem d_Mod_keep_86 : decode b_Mod_keep 86 = .ok (.aload_n 0, 1) := by decide +kernel
theorem d_Mod_keep_87 : decode b_Mod_keep 87 = .ok (.getfield 95, 3) := by decide +kernel
theorem d_Mod_keep_90 : decode b_Mod_keep 90 = .ok (.iload 6, 2) := by decide +kernel
theorem d_Mod_keep_92 : decode b_Mod_keep 92 = .ok (.iconst 1, 1) := by decide +kernel
theorem d_Mod_keep_93 : decode b_Mod_keep 93 = .ok (.iload 4, 2) := by decide +kernel
theorem d_Mod_keep_95 : decode b_Mod_keep 95 = .ok (.ishl, 1) := by decide +kernel
theorem d_Mod_keep_96 : decode b_Mod_keep 96 = .ok (.iadd, 1) := by decide +kernel
theorem d_Mod_keep_97 : decode b_Mod_keep 97 = .ok (.if_icmp .le 13, 3) := by decide +kernel
theorem d_Mod_keep_100 : decode b_Mod_keep 100 = .ok (.iload 6, 2) := by decide +kernel
theorem d_Mod_keep_102 : decode b_Mod_keep 102 = .ok (.iconst 1, 1) := by decide +kernel
theorem d_Mod_keep_103 : decode b_Mod_keep 103 = .ok (.iload 4, 2) := by decide +kernel
theorem d_Mod_keep_105 : decode b_Mod_keep 105 = .ok (.ishl, 1) := by decide +kernel
theorem d_Mod_keep_106 : decode b_Mod_keep 106 = .ok (.iadd, 1) := by decide +kernel
theorem d_Mod_keep_107 : decode b_Mod_keep 107 = .ok (.goto 7, 3) := by decide +kernel
theorem d_Mod_keep_110 : decode b_Mod_keep 110 = .ok (.aload_n 0, 1) := by decide +kernel
theorem d_Mod_keep_111 : decode b_Mod_keep 111 = .ok (.getfield 95, 3) := by decide +kernel
theorem d_Mod_keep_114 : decode b_Mod_keep 114 = .ok (.putfield 95, 3) := by decide +kernel
theorem d_Mod_keep_117 : decode b_Mod_keep 117 = .ok (.return_, 1) := by decide +kernel
theorem d_Mod_inBand_0 : decode b_Mod_inBand 0 = .ok (.iload_n 0, 1) := by decide +kernel
theorem d_Mod_inBand_1 : decode b_Mod_inBand 1 = .ok (.ifCond .ne 7, 3) := by decide +kernel
theorem d_Mod_inBand_4 : decode b_Mod_inBand 4 = .ok (.iload_n 1, 1) := by decide +kernel
theorem d_Mod_inBand_5 : decode b_Mod_inBand 5 = .ok (.goto 6, 3) := by decide +kernel
theorem d_Mod_inBand_8 : decode b_Mod_inBand 8 = .ok (.iload_n 1, 1) := by decide +kernel
theorem d_Mod_inBand_9 : decode b_Mod_inBand 9 = .ok (.iconst 1, 1) := by decide +kernel
theorem d_Mod_inBand_10 : decode b_Mod_inBand 10 = .ok (.isub, 1) := by decide +kernel
theorem d_Mod_inBand_11 : decode b_Mod_inBand 11 = .ok (.ireturn, 1) := by decide +kernel
theorem d_Mod_wideOf_0 : decode b_Mod_wideOf 0 = .ok (.iload_n 2, 1) := by decide +kernel
theorem d_Mod_wideOf_1 : decode b_Mod_wideOf 1 = .ok (.aload_n 0, 1) := by decide +kernel
theorem d_Mod_wideOf_2 : decode b_Mod_wideOf 2 = .ok (.getfield 25, 3) := by decide +kernel
theorem d_Mod_wideOf_5 : decode b_Mod_wideOf 5 = .ok (.bipush 33, 2) := by decide +kernel
theorem d_Mod_wideOf_7 : decode b_Mod_wideOf 7 = .ok (.iload_n 1, 1) := by decide +kernel
theorem d_Mod_wideOf_8 : decode b_Mod_wideOf 8 = .ok (.imul, 1) := by decide +kernel
theorem d_Mod_wideOf_9 : decode b_Mod_wideOf 9 = .ok (.iload_n 2, 1) := by decide +kernel
theorem d_Mod_wideOf_10 : decode b_Mod_wideOf 10 = .ok (.iadd, 1) := by decide +kernel
theorem d_Mod_wideOf_11 : decode b_Mod_wideOf 11 = .ok (.iaload, 1) := by decide +kernel
theorem d_Mod_wideOf_12 : decode b_Mod_wideOf 12 = .ok (.invokestatic 129, 3) := by decide +kernel
theorem d_Mod_wideOf_15 : decode b_Mod_wideOf 15 = .ok (.ireturn, 1) := by decide +kernel
theorem d_Mod_highOf_0 : decode b_Mod_highOf 0 = .ok (.iload_n 2, 1) := by decide +kernel
theorem d_Mod_highOf_1 : decode b_Mod_highOf 1 = .ok (.aload_n 0, 1) := by decide +kernel
theorem d_Mod_highOf_2 : decode b_Mod_highOf 2 = .ok (.getfield 28, 3) := by decide +kernel
theorem d_Mod_highOf_5 : decode b_Mod_highOf 5 = .ok (.bipush 33, 2) := by decide +kernel
theorem d_Mod_highOf_7 : decode b_Mod_highOf 7 = .ok (.iload_n 1, 1) := by decide +kernel
theorem d_Mod_highOf_8 : decode b_Mod_highOf 8 = .ok (.imul, 1) := by decide +kernel
theorem d_Mod_highOf_9 : decode b_Mod_highOf 9 = .ok (.iload_n 2, 1) := by decide +kernel
theorem d_Mod_highOf_10 : decode b_Mod_highOf 10 = .ok (.iadd, 1) := by decide +kernel
theorem d_Mod_highOf_11 : decode b_Mod_highOf 11 = .ok (.iaload, 1) := by decide +kernel
theorem d_Mod_highOf_12 : decode b_Mod_highOf 12 = .ok (.invokestatic 129, 3) := by decide +kernel
theorem d_Mod_highOf_15 : decode b_Mod_highOf 15 = .ok (.ireturn, 1) := by decide +kernel
theorem d_Mod_blocksWide_0 : decode b_Mod_blocksWide 0 = .ok (.aload_n 0, 1) := by decide +kernel
theorem d_Mod_blocksWide_1 : decode b_Mod_blocksWide 1 = .ok (.iload_n 1, 1) := by decide +kernel
theorem d_Mod_blocksWide_2 : decode b_Mod_blocksWide 2 = .ok (.iload_n 2, 1) := by decide +kernel
theorem d_Mod_blocksWide_3 : decode b_Mod_blocksWide 3 = .ok (.invokevirtual 132, 3) := by decide +kernel
theorem d_Mod_blocksWide_6 : decode b_Mod_blocksWide 6 = .ok (.istore_n 3, 1) := by decide +kernel
theorem d_Mod_blocksWide_7 : decode b_Mod_blocksWide 7 = .ok (.iload_n 3, 1) := by decide +kernel
theorem d_Mod_blocksWide_8 : decode b_Mod_blocksWide 8 = .ok (.aload_n 0, 1) := by decide +kernel
theorem d_Mod_blocksWide_9 : decode b_Mod_blocksWide 9 = .ok (.getfield 19, 3) := by decide +kernel
theorem d_Mod_blocksWide_12 : decode b_Mod_blocksWide 12 = .ok (.iload_n 1, 1) := by decide +kernel
theorem d_Mod_blocksWide_13 : decode b_Mod_blocksWide 13 = .ok (.iaload, 1) := by decide +kernel
theorem d_Mod_blocksWide_14 : decode b_Mod_blocksWide 14 = .ok (.if_icmp .ge 7, 3) := by decide +kernel
theorem d_Mod_blocksWide_17 : decode b_Mod_blocksWide 17 = .ok (.iload_n 3, 1) := by decide +kernel
theorem d_Mod_blocksWide_18 : decode b_Mod_blocksWide 18 = .ok (.goto 9, 3) := by decide +kernel
theorem d_Mod_blocksWide_21 : decode b_Mod_blocksWide 21 = .ok (.aload_n 0, 1) := by decide +kernel
theorem d_Mod_blocksWide_22 : decode b_Mod_blocksWide 22 = .ok (.getfield 19, 3) := by decide +kernel
theorem d_Mod_blocksWide_25 : decode b_Mod_blocksWide 25 = .ok (.iload_n 1, 1) := by decide +kernel
theorem d_Mod_blocksWide_26 : decode b_Mod_blocksWide 26 = .ok (.iaload, 1) := by decide +kernel
theorem d_Mod_blocksWide_27 : decode b_Mod_blocksWide 27 = .ok (.ireturn, 1) := by decide +kernel
theorem d_Mod_blocksHigh_0 : decode b_Mod_blocksHigh 0 = .ok (.aload_n 0, 1) := by decide +kernel
theorem d_Mod_blocksHigh_1 : decode b_Mod_blocksHigh 1 = .ok (.iload_n 1, 1) := by decide +kernel
theorem d_Mod_blocksHigh_2 : decode b_Mod_blocksHigh 2 = .ok (.iload_n 2, 1) := by decide +kernel
theorem d_Mod_blocksHigh_3 : decode b_Mod_blocksHigh 3 = .ok (.invokevirtual 135, 3) := by decide +kernel
theorem d_Mod_blocksHigh_6 : decode b_Mod_blocksHigh 6 = .ok (.istore_n 3, 1) := by decide +kernel
theorem d_Mod_blocksHigh_7 : decode b_Mod_blocksHigh 7 = .ok (.iload_n 3, 1) := by decide +kernel
theorem d_Mod_blocksHigh_8 : decode b_Mod_blocksHigh 8 = .ok (.aload_n 0, 1) := by decide +kernel
theorem d_Mod_blocksHigh_9 : decode b_Mod_blocksHigh 9 = .ok (.getfield 22, 3) := by decide +kernel
theorem d_Mod_blocksHigh_12 : decode b_Mod_blocksHigh 12 = .ok (.iload_n 1, 1) := by decide +kernel
theorem d_Mod_blocksHigh_13 : decode b_Mod_blocksHigh 13 = .ok (.iaload, 1) := by decide +kernel
theorem d_Mod_blocksHigh_14 : decode b_Mod_blocksHigh 14 = .ok (.if_icmp .ge 7, 3) := by decide +kernel
theorem d_Mod_blocksHigh_17 : decode b_Mod_blocksHigh 17 = .ok (.iload_n 3, 1) := by decide +kernel
theorem d_Mod_blocksHigh_18 : decode b_Mod_blocksHigh 18 = .ok (.goto 9, 3) := by decide +kernel
theorem d_Mod_blocksHigh_21 : decode b_Mod_blocksHigh 21 = .ok (.aload_n 0, 1) := by decide +kernel
theorem d_Mod_blocksHigh_22 : decode b_Mod_blocksHigh 22 = .ok (.getfield 22, 3) := by decide +kernel
theorem d_Mod_blocksHigh_25 : decode b_Mod_blocksHigh 25 = .ok (.iload_n 1, 1) := by decide +kernel
theorem d_Mod_blocksHigh_26 : decode b_Mod_blocksHigh 26 = .ok (.iaload, 1) := by decide +kernel
theorem d_Mod_blocksHigh_27 : decode b_Mod_blocksHigh 27 = .ok (.ireturn, 1) := by decide +kernel
theorem d_Mod_findShare_0 : decode b_Mod_findShare 0 = .ok (.aload_n 0, 1) := by decide +kernel
theorem d_Mod_findShare_1 : decode b_Mod_findShare 1 = .ok (.iload_n 1, 1) := by decide +kernel
theorem d_Mod_findShare_2 : decode b_Mod_findShare 2 = .ok (.iload_n 2, 1) := by decide +kernel
theorem d_Mod_findShare_3 : decode b_Mod_findShare 3 = .ok (.iload_n 3, 1) := by decide +kernel
theorem d_Mod_findShare_4 : decode b_Mod_findShare 4 = .ok (.invokevirtual 109, 3) := by decide +kernel
theorem d_Mod_findShare_7 : decode b_Mod_findShare 7 = .ok (.ifCond .eq 12, 3) := by decide +kernel
theorem d_Mod_findShare_10 : decode b_Mod_findShare 10 = .ok (.iload_n 3, 1) := by decide +kernel
theorem d_Mod_findShare_11 : decode b_Mod_findShare 11 = .ok (.iload 4, 2) := by decide +kernel
theorem d_Mod_findShare_13 : decode b_Mod_findShare 13 = .ok (.invokestatic 113, 3) := by decide +kernel
theorem d_Mod_findShare_16 : decode b_Mod_findShare 16 = .ok (.ifCond .ne 5, 3) := by decide +kernel
theorem d_Mod_findShare_19 : decode b_Mod_findShare 19 = .ok (.iconst 0, 1) := by decide +kernel
theorem d_Mod_findShare_20 : decode b_Mod_findShare 20 = .ok (.ireturn, 1) := by decide +kernel
theorem d_Mod_findShare_21 : decode b_Mod_findShare 21 = .ok (.aload_n 0, 1) := by decide +kernel
theorem d_Mod_findShare_22 : decode b_Mod_findShare 22 = .ok (.iload_n 2, 1) := by decide +kernel
theorem d_Mod_findShare_23 : decode b_Mod_findShare 23 = .ok (.iload_n 3, 1) := by decide +kernel
theorem d_Mod_findShare_24 : decode b_Mod_findShare 24 = .ok (.iload 5, 2) := by decide +kernel
theorem d_Mod_findShare_26 : decode b_Mod_findShare 26 = .ok (.invokevirtual 138, 3) := by decide +kernel
theorem d_Mod_findShare_29 : decode b_Mod_findShare 29 = .ok (.istore 6, 2) := by decide +kernel
theorem d_Mod_findShare_31 : decode b_Mod_findShare 31 = .ok (.iload 6, 2) := by decide +kernel
theorem d_Mod_findShare_33 : decode b_Mod_findShare 33 = .ok (.ifCond .lt 19, 3) := by decide +kernel
theorem d_Mod_findShare_36 : decode b_Mod_findShare 36 = .ok (.aload_n 0, 1) := by decide +kernel
theorem d_Mod_findShare_37 : decode b_Mod_findShare 37 = .ok (.iload_n 1, 1) := by decide +kernel
theorem d_Mod_findShare_38 : decode b_Mod_findShare 38 = .ok (.iload_n 2, 1) := by decide +kernel
theorem d_Mod_findShare_39 : decode b_Mod_findShare 39 = .ok (.iload_n 3, 1) := by decide +kernel
theorem d_Mod_findShare_40 : decode b_Mod_findShare 40 = .ok (.iload 4, 2) := by decide +kernel
theorem d_Mod_findShare_42 : decode b_Mod_findShare 42 = .ok (.invokevirtual 141, 3) := by decide +kernel
theorem d_Mod_findShare_45 : decode b_Mod_findShare 45 = .ok (.ifCond .eq 7, 3) := by decide +kernel
theorem d_Mod_findShare_48 : decode b_Mod_findShare 48 = .ok (.iconst 1, 1) := by decide +kernel
theorem d_Mod_findShare_49 : decode b_Mod_findShare 49 = .ok (.goto 4, 3) := by decide +kernel
theorem d_Mod_findShare_52 : decode b_Mod_findShare 52 = .ok (.iconst 0, 1) := by decide +kernel
theorem d_Mod_findShare_53 : decode b_Mod_findShare 53 = .ok (.istore 7, 2) := by decide +kernel
theorem d_Mod_findShare_55 : decode b_Mod_findShare 55 = .ok (.iload 7, 2) := by decide +kernel
theorem d_Mod_findShare_57 : decode b_Mod_findShare 57 = .ok (.ifCond .eq 29, 3) := by decide +kernel
theorem d_Mod_findShare_60 : decode b_Mod_findShare 60 = .ok (.aload_n 0, 1) := by decide +kernel
theorem d_Mod_findShare_61 : decode b_Mod_findShare 61 = .ok (.iload 6, 2) := by decide +kernel
theorem d_Mod_findShare_63 : decode b_Mod_findShare 63 = .ok (.bipush 16, 2) := by decide +kernel
theorem d_Mod_findShare_65 : decode b_Mod_findShare 65 = .ok (.ishr, 1) := by decide +kernel
theorem d_Mod_findShare_66 : decode b_Mod_findShare 66 = .ok (.iload 6, 2) := by decide +kernel
theorem d_Mod_findShare_68 : decode b_Mod_findShare 68 = .ok (.ldc 145, 2) := by decide +kernel
theorem d_Mod_findShare_70 : decode b_Mod_findShare 70 = .ok (.iand, 1) := by decide +kernel
theorem d_Mod_findShare_71 : decode b_Mod_findShare 71 = .ok (.aload_n 0, 1) := by decide +kernel
theorem d_Mod_findShare_72 : decode b_Mod_findShare 72 = .ok (.iload_n 2, 1) := by decide +kernel
theorem d_Mod_findShare_73 : decode b_Mod_findShare 73 = .ok (.iload_n 3, 1) := by decide +kernel
theorem d_Mod_findShare_74 : decode b_Mod_findShare 74 = .ok (.invokevirtual 132, 3) := by decide +kernel
theorem d_Mod_findShare_77 : decode b_Mod_findShare 77 = .ok (.aload_n 0, 1) := by decide +kernel
theorem d_Mod_findShare_78 : decode b_Mod_findShare 78 = .ok (.iload_n 2, 1) := by decide +kernel
theorem d_Mod_findShare_79 : decode b_Mod_findShare 79 = .ok (.iload_n 3, 1) := by decide +kernel
theorem d_Mod_findShare_80 : decode b_Mod_findShare 80 = .ok (.invokevirtual 135, 3) := by decide +kernel
theorem d_Mod_findShare_83 : decode b_Mod_findShare 83 = .ok (.invokevirtual 146, 3) := by decide +kernel
theorem d_Mod_findShare_86 : decode b_Mod_findShare 86 = .ok (.iload 7, 2) := by decide +kernel
theorem d_Mod_findShare_88 : decode b_Mod_findShare 88 = .ok (.ifCond .eq 30, 3) := by decide +kernel
theorem d_Mod_findShare_91 : decode b_Mod_findShare 91 = .ok (.aload_n 0, 1) := by decide +kernel
theorem d_Mod_findShare_92 : decode b_Mod_findShare 92 = .ok (.invokevirtual 116, 3) := by decide +kernel
theorem d_Mod_findShare_95 : decode b_Mod_findShare 95 = .ok (.ifCond .eq 23, 3) := by decide +kernel
theorem d_Mod_findShare_98 : decode b_Mod_findShare 98 = .ok (.aload_n 0, 1) := by decide +kernel
theorem d_Mod_findShare_99 : decode b_Mod_findShare 99 = .ok (.iconst 0, 1) := by decide +kernel
theorem d_Mod_findShare_100 : decode b_Mod_findShare 100 = .ok (.putfield 86, 3) := by decide +kernel
theorem d_Mod_findShare_103 : decode b_Mod_findShare 103 = .ok (.aload_n 0, 1) := by decide +kernel
theorem d_Mod_findShare_104 : decode b_Mod_findShare 104 = .ok (.iconst 0, 1) := by decide +kernel
theorem d_Mod_findShare_105 : decode b_Mod_findShare 105 = .ok (.putfield 89, 3) := by decide +kernel
theorem d_Mod_findShare_108 : decode b_Mod_findShare 108 = .ok (.aload_n 0, 1) := by decide +kernel
theorem d_Mod_findShare_109 : decode b_Mod_findShare 109 = .ok (.iconst 0, 1) := by decide +kernel
theorem d_Mod_findShare_110 : decode b_Mod_findShare 110 = .ok (.putfield 92, 3) := by decide +kernel
theorem d_Mod_findShare_113 : decode b_Mod_findShare 113 = .ok (.aload_n 0, 1) := by decide +kernel
theorem d_Mod_findShare_114 : decode b_Mod_findShare 114 = .ok (.iconst 0, 1) := by decide +kernel
theorem d_Mod_findShare_115 : decode b_Mod_findShare 115 = .ok (.putfield 95, 3) := by decide +kernel
theorem d_Mod_findShare_118 : decode b_Mod_findShare 118 = .ok (.iload 7, 2) := by decide +kernel
theorem d_Mod_findShare_120 : decode b_Mod_findShare 120 = .ok (.ireturn, 1) := by decide +kernel
theorem d_Mod_edge_0 : decode b_Mod_edge 0 = .ok (.iload_n 1, 1) := by decide +kernel
theorem d_Mod_edge_1 : decode b_Mod_edge 1 = .ok (.ifCond .ne 10, 3) := by decide +kernel
theorem d_Mod_edge_4 : decode b_Mod_edge 4 = .ok (.aload_n 0, 1) := by decide +kernel
theorem d_Mod_edge_5 : decode b_Mod_edge 5 = .ok (.getfield 86, 3) := by decide +kernel
theorem d_Mod_edge_8 : decode b_Mod_edge 8 = .ok (.goto 31, 3) := by decide +kernel
theorem d_Mod_edge_11 : decode b_Mod_edge 11 = .ok (.iload_n 1, 1) := by decide +kernel
theorem d_Mod_edge_12 : decode b_Mod_edge 12 = .ok (.iconst 1, 1) := by decide +kernel
theorem d_Mod_edge_13 : decode b_Mod_edge 13 = .ok (.if_icmp .ne 10, 3) := by decide +kernel
theorem d_Mod_edge_16 : decode b_Mod_edge 16 = .ok (.aload_n 0, 1) := by decide +kernel
theorem d_Mod_edge_17 : decode b_Mod_edge 17 = .ok (.getfield 89, 3) := by decide +kernel
theorem d_Mod_edge_20 : decode b_Mod_edge 20 = .ok (.goto 19, 3) := by decide +kernel
theorem d_Mod_edge_23 : decode b_Mod_edge 23 = .ok (.iload_n 1, 1) := by decide +kernel
theorem d_Mod_edge_24 : decode b_Mod_edge 24 = .ok (.iconst 2, 1) := by decide +kernel
theorem d_Mod_edge_25 : decode b_Mod_edge 25 = .ok (.if_icmp .ne 10, 3) := by decide +kernel
theorem d_Mod_edge_28 : decode b_Mod_edge 28 = .ok (.aload_n 0, 1) := by decide +kernel
theorem d_Mod_edge_29 : decode b_Mod_edge 29 = .ok (.getfield 92, 3) := by decide +kernel
theorem d_Mod_edge_32 : decode b_Mod_edge 32 = .ok (.goto 7, 3) := by decide +kernel
theorem d_Mod_edge_35 : decode b_Mod_edge 35 = .ok (.aload_n 0, 1) := by decide +kernel
theorem d_Mod_edge_36 : decode b_Mod_edge 36 = .ok (.getfield 95, 3) := by decide +kernel
theorem d_Mod_edge_39 : decode b_Mod_edge 39 = .ok (.ireturn, 1) := by decide +kernel
theorem d_Mod_tile_0 : decode b_Mod_tile 0 = .ok (.aload_n 0, 1) := by decide +kernel
theorem d_Mod_tile_1 : decode b_Mod_tile 1 = .ok (.iload_n 2, 1) := by decide +kernel
theorem d_Mod_tile_2 : decode b_Mod_tile 2 = .ok (.ifCond .lt 16, 3) := by decide +kernel
theorem d_Mod_tile_5 : decode b_Mod_tile 5 = .ok (.iload_n 2, 1) := by decide +kernel
theorem d_Mod_tile_6 : decode b_Mod_tile 6 = .ok (.iconst 3, 1) := by decide +kernel
theorem d_Mod_tile_7 : decode b_Mod_tile 7 = .ok (.if_icmp .gt 11, 3) := by decide +kernel
theorem d_Mod_tile_10 : decode b_Mod_tile 10 = .ok (.aload_n 0, 1) := by decide +kernel
theorem d_Mod_tile_11 : decode b_Mod_tile 11 = .ok (.iload_n 1, 1) := by decide +kernel
theorem d_Mod_tile_12 : decode b_Mod_tile 12 = .ok (.invokevirtual 98, 3) := by decide +kernel
theorem d_Mod_tile_15 : decode b_Mod_tile 15 = .ok (.ifCond .ne 7, 3) := by decide +kernel
theorem d_Mod_tile_18 : decode b_Mod_tile 18 = .ok (.iconst 1, 1) := by decide +kernel
theorem d_Mod_tile_19 : decode b_Mod_tile 19 = .ok (.goto 4, 3) := by decide +kernel
theorem d_Mod_tile_22 : decode b_Mod_tile 22 = .ok (.iconst 0, 1) := by decide +kernel
theorem d_Mod_tile_23 : decode b_Mod_tile 23 = .ok (.putfield 31, 3) := by decide +kernel
theorem d_Mod_tile_26 : decode b_Mod_tile 26 = .ok (.aload_n 0, 1) := by decide +kernel
theorem d_Mod_tile_27 : decode b_Mod_tile 27 = .ok (.getfield 31, 3) := by decide +kernel
theorem d_Mod_tile_30 : decode b_Mod_tile 30 = .ok (.ifCond .le 7, 3) := by decide +kernel
theorem d_Mod_tile_33 : decode b_Mod_tile 33 = .ok (.iconst 0, 1) := by decide +kernel
theorem d_Mod_tile_34 : decode b_Mod_tile 34 = .ok (.goto 8, 3) := by decide +kernel
theorem d_Mod_tile_37 : decode b_Mod_tile 37 = .ok (.aload_n 0, 1) := by decide +kernel
theorem d_Mod_tile_38 : decode b_Mod_tile 38 = .ok (.iload_n 2, 1) := by decide +kernel
theorem d_Mod_tile_39 : decode b_Mod_tile 39 = .ok (.invokevirtual 150, 3) := by decide +kernel
theorem d_Mod_tile_42 : decode b_Mod_tile 42 = .ok (.ireturn, 1) := by decide +kernel
theorem d_Mod_blocksOf_0 : decode b_Mod_blocksOf 0 = .ok (.aload_n 0, 1) := by decide +kernel
theorem d_Mod_blocksOf_1 : decode b_Mod_blocksOf 1 = .ok (.iload_n 1, 1) := by decide +kernel
theorem d_Mod_blocksOf_2 : decode b_Mod_blocksOf 2 = .ok (.iload_n 2, 1) := by decide +kernel
theorem d_Mod_blocksOf_3 : decode b_Mod_blocksOf 3 = .ok (.iload_n 3, 1) := by decide +kernel
theorem d_Mod_blocksOf_4 : decode b_Mod_blocksOf 4 = .ok (.iload 4, 2) := by decide +kernel
theorem d_Mod_blocksOf_6 : decode b_Mod_blocksOf 6 = .ok (.invokevirtual 141, 3) := by decide +kernel
theorem d_Mod_blocksOf_9 : decode b_Mod_blocksOf 9 = .ok (.istore 5, 2) := by decide +kernel
theorem d_Mod_blocksOf_11 : decode b_Mod_blocksOf 11 = .ok (.iload 5, 2) := by decide +kernel
theorem d_Mod_blocksOf_13 : decode b_Mod_blocksOf 13 = .ok (.ifCond .eq 10, 3) := by decide +kernel
theorem d_Mod_blocksOf_16 : decode b_Mod_blocksOf 16 = .ok (.aload_n 0, 1) := by decide +kernel
theorem d_Mod_blocksOf_17 : decode b_Mod_blocksOf 17 = .ok (.invokevirtual 116, 3) := by decide +kernel
theorem d_Mod_blocksOf_20 : decode b_Mod_blocksOf 20 = .ok (.ifCond .eq 7, 3) := by decide +kernel
theorem d_Mod_blocksOf_23 : decode b_Mod_blocksOf 23 = .ok (.iconst 0, 1) := by decide +kernel
theorem d_Mod_blocksOf_24 : decode b_Mod_blocksOf 24 = .ok (.goto 38, 3) := by decide +kernel
theorem d_Mod_blocksOf_27 : decode b_Mod_blocksOf 27 = .ok (.aload_n 0, 1) := by decide +kernel
theorem d_Mod_blocksOf_28 : decode b_Mod_blocksOf 28 = .ok (.getfield 86, 3) := by decide +kernel
theorem d_Mod_blocksOf_31 : decode b_Mod_blocksOf 31 = .ok (.aload_n 0, 1) := by decide +kernel
theorem d_Mod_blocksOf_32 : decode b_Mod_blocksOf 32 = .ok (.getfield 92, 3) := by decide +kernel
theorem d_Mod_blocksOf_35 : decode b_Mod_blocksOf 35 = .ok (.aload_n 0, 1) := by decide +kernel
theorem d_Mod_blocksOf_36 : decode b_Mod_blocksOf 36 = .ok (.iload_n 2, 1) := by decide +kernel
theorem d_Mod_blocksOf_37 : decode b_Mod_blocksOf 37 = .ok (.iload_n 3, 1) := by decide +kernel
theorem d_Mod_blocksOf_38 : decode b_Mod_blocksOf 38 = .ok (.invokevirtual 153, 3) := by decide +kernel
theorem d_Mod_blocksOf_41 : decode b_Mod_blocksOf 41 = .ok (.invokestatic 120, 3) := by decide +kernel
theorem d_Mod_blocksOf_44 : decode b_Mod_blocksOf 44 = .ok (.aload_n 0, 1) := by decide +kernel
theorem d_Mod_blocksOf_45 : decode b_Mod_blocksOf 45 = .ok (.getfield 89, 3) := by decide +kernel
theorem d_Mod_blocksOf_48 : decode b_Mod_blocksOf 48 = .ok (.aload_n 0, 1) := by decide +kernel
theorem d_Mod_blocksOf_49 : decode b_Mod_blocksOf 49 = .ok (.getfield 95, 3) := by decide +kernel
theorem d_Mod_blocksOf_52 : decode b_Mod_blocksOf 52 = .ok (.aload_n 0, 1) := by decide +kernel
theorem d_Mod_blocksOf_53 : decode b_Mod_blocksOf 53 = .ok (.iload_n 2, 1) := by decide +kernel
theorem d_Mod_blocksOf_54 : decode b_Mod_blocksOf 54 = .ok (.iload_n 3, 1) := by decide +kernel
theorem d_Mod_blocksOf_55 : decode b_Mod_blocksOf 55 = .ok (.invokevirtual 156, 3) := by decide +kernel
theorem d_Mod_blocksOf_58 : decode b_Mod_blocksOf 58 = .ok (.invokestatic 120, 3) := by decide +kernel
theorem d_Mod_blocksOf_61 : decode b_Mod_blocksOf 61 = .ok (.imul, 1) := by decide +kernel
theorem d_Mod_blocksOf_62 : decode b_Mod_blocksOf 62 = .ok (.ireturn, 1) := by decide +kernel
theorem d_Mod_part_0 : decode b_Mod_part 0 = .ok (.aload_n 0, 1) := by decide +kernel
theorem d_Mod_part_1 : decode b_Mod_part 1 = .ok (.iload_n 3, 1) := by decide +kernel
theorem d_Mod_part_2 : decode b_Mod_part 2 = .ok (.ifCond .lt 17, 3) := by decide +kernel
theorem d_Mod_part_5 : decode b_Mod_part 5 = .ok (.iload_n 3, 1) := by decide +kernel
theorem d_Mod_part_6 : decode b_Mod_part 6 = .ok (.iconst 4, 1) := by decide +kernel
theorem d_Mod_part_7 : decode b_Mod_part 7 = .ok (.if_icmp .gt 12, 3) := by decide +kernel
theorem d_Mod_part_10 : decode b_Mod_part 10 = .ok (.aload_n 0, 1) := by decide +kernel
theorem d_Mod_part_11 : decode b_Mod_part 11 = .ok (.iload_n 1, 1) := by decide +kernel
theorem d_Mod_part_12 : decode b_Mod_part 12 = .ok (.iload_n 2, 1) := by decide +kernel
theorem d_Mod_part_13 : decode b_Mod_part 13 = .ok (.invokevirtual 105, 3) := by decide +kernel
theorem d_Mod_part_16 : decode b_Mod_part 16 = .ok (.ifCond .ne 7, 3) := by decide +kernel
theorem d_Mod_part_19 : decode b_Mod_part 19 = .ok (.iconst 1, 1) := by decide +kernel
theorem d_Mod_part_20 : decode b_Mod_part 20 = .ok (.goto 4, 3) := by decide +kernel
theorem d_Mod_part_23 : decode b_Mod_part 23 = .ok (.iconst 0, 1) := by decide +kernel
theorem d_Mod_part_24 : decode b_Mod_part 24 = .ok (.putfield 31, 3) := by decide +kernel
theorem d_Mod_part_27 : decode b_Mod_part 27 = .ok (.aload_n 0, 1) := by decide +kernel
theorem d_Mod_part_28 : decode b_Mod_part 28 = .ok (.getfield 31, 3) := by decide +kernel
theorem d_Mod_part_31 : decode b_Mod_part 31 = .ok (.ifCond .gt 8, 3) := by decide +kernel
theorem d_Mod_part_34 : decode b_Mod_part 34 = .ok (.iload_n 3, 1) := by decide +kernel
theorem d_Mod_part_35 : decode b_Mod_part 35 = .ok (.iconst 4, 1) := by decide +kernel
theorem d_Mod_part_36 : decode b_Mod_part 36 = .ok (.if_icmp .ge 20, 3) := by decide +kernel
theorem d_Mod_part_39 : decode b_Mod_part 39 = .ok (.aload_n 0, 1) := by decide +kernel
theorem d_Mod_part_40 : decode b_Mod_part 40 = .ok (.getfield 31, 3) := by decide +kernel
theorem d_Mod_part_43 : decode b_Mod_part 43 = .ok (.ifCond .le 7, 3) := by decide +kernel
theorem d_Mod_part_46 : decode b_Mod_part 46 = .ok (.iconst 0, 1) := by decide +kernel
theorem d_Mod_part_47 : decode b_Mod_part 47 = .ok (.goto 8, 3) := by decide +kernel
theorem d_Mod_part_50 : decode b_Mod_part 50 = .ok (.aload_n 0, 1) := by decide +kernel
theorem d_Mod_part_51 : decode b_Mod_part 51 = .ok (.iload_n 3, 1) := by decide +kernel
theorem d_Mod_part_52 : decode b_Mod_part 52 = .ok (.invokevirtual 150, 3) := by decide +kernel
theorem d_Mod_part_55 : decode b_Mod_part 55 = .ok (.ireturn, 1) := by decide +kernel
theorem d_Mod_part_56 : decode b_Mod_part 56 = .ok (.iconst 0, 1) := by decide +kernel
theorem d_Mod_part_57 : decode b_Mod_part 57 = .ok (.istore 4, 2) := by decide +kernel
theorem d_Mod_part_59 : decode b_Mod_part 59 = .ok (.iconst 0, 1) := by decide +kernel
theorem d_Mod_part_60 : decode b_Mod_part 60 = .ok (.istore 5, 2) := by decide +kernel
theorem d_Mod_part_62 : decode b_Mod_part 62 = .ok (.iload 5, 2) := by decide +kernel
theorem d_Mod_part_64 : decode b_Mod_part 64 = .ok (.aload_n 0, 1) := by decide +kernel
theorem d_Mod_part_65 : decode b_Mod_part 65 = .ok (.getfield 16, 3) := by decide +kernel
theorem d_Mod_part_68 : decode b_Mod_part 68 = .ok (.iload_n 2, 1) := by decide +kernel
theorem d_Mod_part_69 : decode b_Mod_part 69 = .ok (.iaload, 1) := by decide +kernel
theorem d_Mod_part_70 : decode b_Mod_part 70 = .ok (.if_icmp .gt 39, 3) := by decide +kernel
theorem d_Mod_part_73 : decode b_Mod_part 73 = .ok (.iconst 0, 1) := by decide +kernel
theorem d_Mod_part_74 : decode b_Mod_part 74 = .ok (.istore 6, 2) := by decide +kernel
theorem d_Mod_part_76 : decode b_Mod_part 76 = .ok (.iload 6, 2) := by decide +kernel
theorem d_Mod_part_78 : decode b_Mod_part 78 = .ok (.iconst 4, 1) := by decide +kernel
theorem d_Mod_part_79 : decode b_Mod_part 79 = .ok (.if_icmp .ge 24, 3) := by decide +kernel
theorem d_Mod_part_82 : decode b_Mod_part 82 = .ok (.iload 4, 2) := by decide +kernel
theorem d_Mod_part_84 : decode b_Mod_part 84 = .ok (.aload_n 0, 1) := by decide +kernel
theorem d_Mod_part_85 : decode b_Mod_part 85 = .ok (.iload_n 1, 1) := by decide +kernel
theorem d_Mod_part_86 : decode b_Mod_part 86 = .ok (.iload_n 2, 1) := by decide +kernel
theorem d_Mod_part_87 : decode b_Mod_part 87 = .ok (.iload 5, 2) := by decide +kernel
theorem d_Mod_part_89 : decode b_Mod_part 89 = .ok (.iload 6, 2) := by decide +kernel
theorem d_Mod_part_91 : decode b_Mod_part 91 = .ok (.invokevirtual 159, 3) := by decide +kernel
theorem d_Mod_part_94 : decode b_Mod_part 94 = .ok (.iadd, 1) := by decide +kernel
theorem d_Mod_part_95 : decode b_Mod_part 95 = .ok (.istore 4, 2) := by decide +kernel
theorem d_Mod_part_97 : decode b_Mod_part 97 = .ok (.iinc 6 1, 3) := by decide +kernel
theorem d_Mod_part_100 : decode b_Mod_part 100 = .ok (.goto (-24), 3) := by decide +kernel
theorem d_Mod_part_103 : decode b_Mod_part 103 = .ok (.iinc 5 1, 3) := by decide +kernel
theorem d_Mod_part_106 : decode b_Mod_part 106 = .ok (.goto (-44), 3) := by decide +kernel
theorem d_Mod_part_109 : decode b_Mod_part 109 = .ok (.iload 4, 2) := by decide +kernel
theorem d_Mod_part_111 : decode b_Mod_part 111 = .ok (.ireturn, 1) := by decide +kernel
theorem d_Mod_level_0 : decode b_Mod_level 0 = .ok (.aload_n 0, 1) := by decide +kernel
theorem d_Mod_level_1 : decode b_Mod_level 1 = .ok (.iload 4, 2) := by decide +kernel
theorem d_Mod_level_3 : decode b_Mod_level 3 = .ok (.ifCond .lt 19, 3) := by decide +kernel
theorem d_Mod_level_6 : decode b_Mod_level 6 = .ok (.iload 4, 2) := by decide +kernel
theorem d_Mod_level_8 : decode b_Mod_level 8 = .ok (.iconst 5, 1) := by decide +kernel
theorem d_Mod_level_9 : decode b_Mod_level 9 = .ok (.if_icmp .gt 13, 3) := by decide +kernel
theorem d_Mod_level_12 : decode b_Mod_level 12 = .ok (.aload_n 0, 1) := by decide +kernel
theorem d_Mod_level_13 : decode b_Mod_level 13 = .ok (.iload_n 1, 1) := by decide +kernel
theorem d_Mod_level_14 : decode b_Mod_level 14 = .ok (.iload_n 2, 1) := by decide +kernel
theorem d_Mod_level_15 : decode b_Mod_level 15 = .ok (.iload_n 3, 1) := by decide +kernel
theorem d_Mod_level_16 : decode b_Mod_level 16 = .ok (.invokevirtual 109, 3) := by decide +kernel
theorem d_Mod_level_19 : decode b_Mod_level 19 = .ok (.ifCond .ne 7, 3) := by decide +kernel
theorem d_Mod_level_22 : decode b_Mod_level 22 = .ok (.iconst 1, 1) := by decide +kernel
theorem d_Mod_level_23 : decode b_Mod_level 23 = .ok (.goto 4, 3) := by decide +kernel
theorem d_Mod_level_26 : decode b_Mod_level 26 = .ok (.iconst 0, 1) := by decide +kernel
theorem d_Mod_level_27 : decode b_Mod_level 27 = .ok (.putfield 31, 3) := by decide +kernel
theorem d_Mod_level_30 : decode b_Mod_level 30 = .ok (.aload_n 0, 1) := by decide +kernel
theorem d_Mod_level_31 : decode b_Mod_level 31 = .ok (.getfield 31, 3) := by decide +kernel
theorem d_Mod_level_34 : decode b_Mod_level 34 = .ok (.ifCond .le 5, 3) := by decide +kernel
theorem d_Mod_level_37 : decode b_Mod_level 37 = .ok (.iconst 0, 1) := by decide +kernel
theorem d_Mod_level_38 : decode b_Mod_level 38 = .ok (.ireturn, 1) := by decide +kernel
theorem d_Mod_level_39 : decode b_Mod_level 39 = .ok (.iload 4, 2) := by decide +kernel
theorem d_Mod_level_41 : decode b_Mod_level 41 = .ok (.iconst 4, 1) := by decide +kernel
theorem d_Mod_level_42 : decode b_Mod_level 42 = .ok (.if_icmp .ne 12, 3) := by decide +kernel
theorem d_Mod_level_45 : decode b_Mod_level 45 = .ok (.aload_n 0, 1) := by decide +kernel
theorem d_Mod_level_46 : decode b_Mod_level 46 = .ok (.iload_n 2, 1) := by decide +kernel
theorem d_Mod_level_47 : decode b_Mod_level 47 = .ok (.iload_n 3, 1) := by decide +kernel
theorem d_Mod_level_48 : decode b_Mod_level 48 = .ok (.invokevirtual 123, 3) := by decide +kernel
theorem d_Mod_level_51 : decode b_Mod_level 51 = .ok (.goto 24, 3) := by decide +kernel
theorem d_Mod_level_54 : decode b_Mod_level 54 = .ok (.iload 4, 2) := by decide +kernel
theorem d_Mod_level_56 : decode b_Mod_level 56 = .ok (.iconst 5, 1) := by decide +kernel
theorem d_Mod_level_57 : decode b_Mod_level 57 = .ok (.if_icmp .ne 12, 3) := by decide +kernel
theorem d_Mod_level_60 : decode b_Mod_level 60 = .ok (.aload_n 0, 1) := by decide +kernel
theorem d_Mod_level_61 : decode b_Mod_level 61 = .ok (.iload_n 2, 1) := by decide +kernel
theorem d_Mod_level_62 : decode b_Mod_level 62 = .ok (.iload_n 3, 1) := by decide +kernel
theorem d_Mod_level_63 : decode b_Mod_level 63 = .ok (.invokevirtual 126, 3) := by decide +kernel
theorem d_Mod_level_66 : decode b_Mod_level 66 = .ok (.goto 9, 3) := by decide +kernel
theorem d_Mod_level_69 : decode b_Mod_level 69 = .ok (.aload_n 0, 1) := by decide +kernel
theorem d_Mod_level_70 : decode b_Mod_level 70 = .ok (.iload 4, 2) := by decide +kernel
theorem d_Mod_level_72 : decode b_Mod_level 72 = .ok (.invokevirtual 150, 3) := by decide +kernel
theorem d_Mod_level_75 : decode b_Mod_level 75 = .ok (.ireturn, 1) := by decide +kernel
theorem d_Mod_band_0 : decode b_Mod_band 0 = .ok (.aload_n 0, 1) := by decide +kernel
theorem d_Mod_band_1 : decode b_Mod_band 1 = .ok (.iload 5, 2) := by decide +kernel
theorem d_Mod_band_3 : decode b_Mod_band 3 = .ok (.ifCond .lt 21, 3) := by decide +kernel
theorem d_Mod_band_6 : decode b_Mod_band 6 = .ok (.iload 5, 2) := by decide +kernel
theorem d_Mod_band_8 : decode b_Mod_band 8 = .ok (.iconst 5, 1) := by decide +kernel
theorem d_Mod_band_9 : decode b_Mod_band 9 = .ok (.if_icmp .gt 15, 3) := by decide +kernel
theorem d_Mod_band_12 : decode b_Mod_band 12 = .ok (.aload_n 0, 1) := by decide +kernel
theorem d_Mod_band_13 : decode b_Mod_band 13 = .ok (.iload_n 1, 1) := by decide +kernel
theorem d_Mod_band_14 : decode b_Mod_band 14 = .ok (.iload_n 2, 1) := by decide +kernel
theorem d_Mod_band_15 : decode b_Mod_band 15 = .ok (.iload_n 3, 1) := by decide +kernel
theorem d_Mod_band_16 : decode b_Mod_band 16 = .ok (.iload 4, 2) := by decide +kernel
theorem d_Mod_band_18 : decode b_Mod_band 18 = .ok (.invokevirtual 141, 3) := by decide +kernel
theorem d_Mod_band_21 : decode b_Mod_band 21 = .ok (.ifCond .ne 7, 3) := by decide +kernel
theorem d_Mod_band_24 : decode b_Mod_band 24 = .ok (.iconst 1, 1) := by decide +kernel
theorem d_Mod_band_25 : decode b_Mod_band 25 = .ok (.goto 4, 3) := by decide +kernel
theorem d_Mod_band_28 : decode b_Mod_band 28 = .ok (.iconst 0, 1) := by decide +kernel
theorem d_Mod_band_29 : decode b_Mod_band 29 = .ok (.putfield 31, 3) := by decide +kernel
theorem d_Mod_band_32 : decode b_Mod_band 32 = .ok (.aload_n 0, 1) := by decide +kernel
theorem d_Mod_band_33 : decode b_Mod_band 33 = .ok (.getfield 31, 3) := by decide +kernel
theorem d_Mod_band_36 : decode b_Mod_band 36 = .ok (.ifCond .le 5, 3) := by decide +kernel
theorem d_Mod_band_39 : decode b_Mod_band 39 = .ok (.iconst 0, 1) := by decide +kernel
theorem d_Mod_band_40 : decode b_Mod_band 40 = .ok (.ireturn, 1) := by decide +kernel
theorem d_Mod_band_41 : decode b_Mod_band 41 = .ok (.iload 5, 2) := by decide +kernel
theorem d_Mod_band_43 : decode b_Mod_band 43 = .ok (.iconst 4, 1) := by decide +kernel
theorem d_Mod_band_44 : decode b_Mod_band 44 = .ok (.if_icmp .ne 12, 3) := by decide +kernel
theorem d_Mod_band_47 : decode b_Mod_band 47 = .ok (.aload_n 0, 1) := by decide +kernel
theorem d_Mod_band_48 : decode b_Mod_band 48 = .ok (.iload_n 2, 1) := by decide +kernel
theorem d_Mod_band_49 : decode b_Mod_band 49 = .ok (.iload_n 3, 1) := by decide +kernel
theorem d_Mod_band_50 : decode b_Mod_band 50 = .ok (.invokevirtual 153, 3) := by decide +kernel
theorem d_Mod_band_53 : decode b_Mod_band 53 = .ok (.goto 24, 3) := by decide +kernel
theorem d_Mod_band_56 : decode b_Mod_band 56 = .ok (.iload 5, 2) := by decide +kernel
theorem d_Mod_band_58 : decode b_Mod_band 58 = .ok (.iconst 5, 1) := by decide +kernel
theorem d_Mod_band_59 : decode b_Mod_band 59 = .ok (.if_icmp .ne 12, 3) := by decide +kernel
theorem d_Mod_band_62 : decode b_Mod_band 62 = .ok (.aload_n 0, 1) := by decide +kernel
theorem d_Mod_band_63 : decode b_Mod_band 63 = .ok (.iload_n 2, 1) := by decide +kernel
theorem d_Mod_band_64 : decode b_Mod_band 64 = .ok (.iload_n 3, 1) := by decide +kernel
theorem d_Mod_band_65 : decode b_Mod_band 65 = .ok (.invokevirtual 156, 3) := by decide +kernel
theorem d_Mod_band_68 : decode b_Mod_band 68 = .ok (.goto 9, 3) := by decide +kernel
theorem d_Mod_band_71 : decode b_Mod_band 71 = .ok (.aload_n 0, 1) := by decide +kernel
theorem d_Mod_band_72 : decode b_Mod_band 72 = .ok (.iload 5, 2) := by decide +kernel
theorem d_Mod_band_74 : decode b_Mod_band 74 = .ok (.invokevirtual 150, 3) := by decide +kernel
theorem d_Mod_band_77 : decode b_Mod_band 77 = .ok (.ireturn, 1) := by decide +kernel
theorem d_Mod_precinct_0 : decode b_Mod_precinct 0 = .ok (.aload_n 0, 1) := by decide +kernel
theorem d_Mod_precinct_1 : decode b_Mod_precinct 1 = .ok (.iload_n 1, 1) := by decide +kernel
theorem d_Mod_precinct_2 : decode b_Mod_precinct 2 = .ok (.iload_n 2, 1) := by decide +kernel
theorem d_Mod_precinct_3 : decode b_Mod_precinct 3 = .ok (.iload_n 3, 1) := by decide +kernel
theorem d_Mod_precinct_4 : decode b_Mod_precinct 4 = .ok (.invokevirtual 109, 3) := by decide +kernel
theorem d_Mod_precinct_7 : decode b_Mod_precinct 7 = .ok (.ifCond .eq 14, 3) := by decide +kernel
theorem d_Mod_precinct_10 : decode b_Mod_precinct 10 = .ok (.aload_n 0, 1) := by decide +kernel
theorem d_Mod_precinct_11 : decode b_Mod_precinct 11 = .ok (.iload_n 2, 1) := by decide +kernel
theorem d_Mod_precinct_12 : decode b_Mod_precinct 12 = .ok (.iload_n 3, 1) := by decide +kernel
theorem d_Mod_precinct_13 : decode b_Mod_precinct 13 = .ok (.iload 4, 2) := by decide +kernel
theorem d_Mod_precinct_15 : decode b_Mod_precinct 15 = .ok (.invokevirtual 138, 3) := by decide +kernel
theorem d_Mod_precinct_18 : decode b_Mod_precinct 18 = .ok (.goto 4, 3) := by decide +kernel
theorem d_Mod_precinct_21 : decode b_Mod_precinct 21 = .ok (.iconst (-1), 1) := by decide +kernel
theorem d_Mod_precinct_22 : decode b_Mod_precinct 22 = .ok (.istore 6, 2) := by decide +kernel
theorem d_Mod_precinct_24 : decode b_Mod_precinct 24 = .ok (.aload_n 0, 1) := by decide +kernel
theorem d_Mod_precinct_25 : decode b_Mod_precinct 25 = .ok (.iload 5, 2) := by decide +kernel
theorem d_Mod_precinct_27 : decode b_Mod_precinct 27 = .ok (.ifCond .lt 14, 3) := by decide +kernel
theorem d_Mod_precinct_30 : decode b_Mod_precinct 30 = .ok (.iload 5, 2) := by decide +kernel
theorem d_Mod_precinct_32 : decode b_Mod_precinct 32 = .ok (.iconst 3, 1) := by decide +kernel
theorem d_Mod_precinct_33 : decode b_Mod_precinct 33 = .ok (.if_icmp .gt 8, 3) := by decide +kernel
theorem d_Mod_precinct_36 : decode b_Mod_precinct 36 = .ok (.iload 6, 2) := by decide +kernel
theorem d_Mod_precinct_38 : decode b_Mod_precinct 38 = .ok (.ifCond .ge 7, 3) := by decide +kernel
theorem d_Mod_precinct_41 : decode b_Mod_precinct 41 = .ok (.iconst 1, 1) := by decide +kernel
theorem d_Mod_precinct_42 : decode b_Mod_precinct 42 = .ok (.goto 4, 3) := by decide +kernel
theorem d_Mod_precinct_45 : decode b_Mod_precinct 45 = .ok (.iconst 0, 1) := by decide +kernel
theorem d_Mod_precinct_46 : decode b_Mod_precinct 46 = .ok (.putfield 31, 3) := by decide +kernel
theorem d_Mod_precinct_49 : decode b_Mod_precinct 49 = .ok (.aload_n 0, 1) := by decide +kernel
theorem d_Mod_precinct_50 : decode b_Mod_precinct 50 = .ok (.getfield 31, 3) := by decide +kernel
theorem d_Mod_precinct_53 : decode b_Mod_precinct 53 = .ok (.ifCond .le 5, 3) := by decide +kernel
theorem d_Mod_precinct_56 : decode b_Mod_precinct 56 = .ok (.iconst 0, 1) := by decide +kernel
theorem d_Mod_precinct_57 : decode b_Mod_precinct 57 = .ok (.ireturn, 1) := by decide +kernel
theorem d_Mod_precinct_58 : decode b_Mod_precinct 58 = .ok (.aload_n 0, 1) := by decide +kernel
theorem d_Mod_precinct_59 : decode b_Mod_precinct 59 = .ok (.iload 6, 2) := by decide +kernel
theorem d_Mod_precinct_61 : decode b_Mod_precinct 61 = .ok (.bipush 16, 2) := by decide +kernel
theorem d_Mod_precinct_63 : decode b_Mod_precinct 63 = .ok (.ishr, 1) := by decide +kernel
theorem d_Mod_precinct_64 : decode b_Mod_precinct 64 = .ok (.iload 6, 2) := by decide +kernel
theorem d_Mod_precinct_66 : decode b_Mod_precinct 66 = .ok (.ldc 145, 2) := by decide +kernel
theorem d_Mod_precinct_68 : decode b_Mod_precinct 68 = .ok (.iand, 1) := by decide +kernel
theorem d_Mod_precinct_69 : decode b_Mod_precinct 69 = .ok (.aload_n 0, 1) := by decide +kernel
theorem d_Mod_precinct_70 : decode b_Mod_precinct 70 = .ok (.getfield 25, 3) := by decide +kernel
theorem d_Mod_precinct_73 : decode b_Mod_precinct 73 = .ok (.bipush 33, 2) := by decide +kernel
theorem d_Mod_precinct_75 : decode b_Mod_precinct 75 = .ok (.iload_n 2, 1) := by decide +kernel
theorem d_Mod_precinct_76 : decode b_Mod_precinct 76 = .ok (.imul, 1) := by decide +kernel
theorem d_Mod_precinct_77 : decode b_Mod_precinct 77 = .ok (.iload_n 3, 1) := by decide +kernel
theorem d_Mod_precinct_78 : decode b_Mod_precinct 78 = .ok (.iadd, 1) := by decide +kernel
theorem d_Mod_precinct_79 : decode b_Mod_precinct 79 = .ok (.iaload, 1) := by decide +kernel
theorem d_Mod_precinct_80 : decode b_Mod_precinct 80 = .ok (.aload_n 0, 1) := by decide +kernel
theorem d_Mod_precinct_81 : decode b_Mod_precinct 81 = .ok (.getfield 28, 3) := by decide +kernel
theorem d_Mod_precinct_84 : decode b_Mod_precinct 84 = .ok (.bipush 33, 2) := by decide +kernel
theorem d_Mod_precinct_86 : decode b_Mod_precinct 86 = .ok (.iload_n 2, 1) := by decide +kernel
theorem d_Mod_precinct_87 : decode b_Mod_precinct 87 = .ok (.imul, 1) := by decide +kernel
theorem d_Mod_precinct_88 : decode b_Mod_precinct 88 = .ok (.iload_n 3, 1) := by decide +kernel
theorem d_Mod_precinct_89 : decode b_Mod_precinct 89 = .ok (.iadd, 1) := by decide +kernel
theorem d_Mod_precinct_90 : decode b_Mod_precinct 90 = .ok (.iaload, 1) := by decide +kernel
theorem d_Mod_precinct_91 : decode b_Mod_precinct 91 = .ok (.invokevirtual 146, 3) := by decide +kernel
theorem d_Mod_precinct_94 : decode b_Mod_precinct 94 = .ok (.aload_n 0, 1) := by decide +kernel
theorem d_Mod_precinct_95 : decode b_Mod_precinct 95 = .ok (.iload 5, 2) := by decide +kernel
theorem d_Mod_precinct_97 : decode b_Mod_precinct 97 = .ok (.invokevirtual 150, 3) := by decide +kernel
theorem d_Mod_precinct_100 : decode b_Mod_precinct 100 = .ok (.ireturn, 1) := by decide +kernel
theorem d_Mod_share_0 : decode b_Mod_share 0 = .ok (.aload_n 0, 1) := by decide +kernel
theorem d_Mod_share_1 : decode b_Mod_share 1 = .ok (.iload 6, 2) := by decide +kernel
theorem d_Mod_share_3 : decode b_Mod_share 3 = .ok (.ifCond .lt 23, 3) := by decide +kernel
theorem d_Mod_share_6 : decode b_Mod_share 6 = .ok (.iload 6, 2) := by decide +kernel
theorem d_Mod_share_8 : decode b_Mod_share 8 = .ok (.iconst 5, 1) := by decide +kernel
theorem d_Mod_share_9 : decode b_Mod_share 9 = .ok (.if_icmp .gt 17, 3) := by decide +kernel
theorem d_Mod_share_12 : decode b_Mod_share 12 = .ok (.aload_n 0, 1) := by decide +kernel
theorem d_Mod_share_13 : decode b_Mod_share 13 = .ok (.iload_n 1, 1) := by decide +kernel
theorem d_Mod_share_14 : decode b_Mod_share 14 = .ok (.iload_n 2, 1) := by decide +kernel
theorem d_Mod_share_15 : decode b_Mod_share 15 = .ok (.iload_n 3, 1) := by decide +kernel
theorem d_Mod_share_16 : decode b_Mod_share 16 = .ok (.iload 4, 2) := by decide +kernel
theorem d_Mod_share_18 : decode b_Mod_share 18 = .ok (.iload 5, 2) := by decide +kernel
theorem d_Mod_share_20 : decode b_Mod_share 20 = .ok (.invokevirtual 163, 3) := by decide +kernel
theorem d_Mod_share_23 : decode b_Mod_share 23 = .ok (.ifCond .ne 7, 3) := by decide +kernel
theorem d_Mod_share_26 : decode b_Mod_share 26 = .ok (.iconst 1, 1) := by decide +kernel
theorem d_Mod_share_27 : decode b_Mod_share 27 = .ok (.goto 4, 3) := by decide +kernel
theorem d_Mod_share_30 : decode b_Mod_share 30 = .ok (.iconst 0, 1) := by decide +kernel
theorem d_Mod_share_31 : decode b_Mod_share 31 = .ok (.putfield 31, 3) := by decide +kernel
theorem d_Mod_share_34 : decode b_Mod_share 34 = .ok (.aload_n 0, 1) := by decide +kernel
theorem d_Mod_share_35 : decode b_Mod_share 35 = .ok (.getfield 31, 3) := by decide +kernel
theorem d_Mod_share_38 : decode b_Mod_share 38 = .ok (.ifCond .le 5, 3) := by decide +kernel
theorem d_Mod_share_41 : decode b_Mod_share 41 = .ok (.iconst 0, 1) := by decide +kernel
theorem d_Mod_share_42 : decode b_Mod_share 42 = .ok (.ireturn, 1) := by decide +kernel
theorem d_Mod_share_43 : decode b_Mod_share 43 = .ok (.iload 6, 2) := by decide +kernel
theorem d_Mod_share_45 : decode b_Mod_share 45 = .ok (.iconst 4, 1) := by decide +kernel
theorem d_Mod_share_46 : decode b_Mod_share 46 = .ok (.if_icmp .ne 23, 3) := by decide +kernel
theorem d_Mod_share_49 : decode b_Mod_share 49 = .ok (.aload_n 0, 1) := by decide +kernel
theorem d_Mod_share_50 : decode b_Mod_share 50 = .ok (.getfield 86, 3) := by decide +kernel
theorem d_Mod_share_53 : decode b_Mod_share 53 = .ok (.aload_n 0, 1) := by decide +kernel
theorem d_Mod_share_54 : decode b_Mod_share 54 = .ok (.getfield 92, 3) := by decide +kernel
theorem d_Mod_share_57 : decode b_Mod_share 57 = .ok (.aload_n 0, 1) := by decide +kernel
theorem d_Mod_share_58 : decode b_Mod_share 58 = .ok (.iload_n 2, 1) := by decide +kernel
theorem d_Mod_share_59 : decode b_Mod_share 59 = .ok (.iload_n 3, 1) := by decide +kernel
theorem d_Mod_share_60 : decode b_Mod_share 60 = .ok (.invokevirtual 153, 3) := by decide +kernel
theorem d_Mod_share_63 : decode b_Mod_share 63 = .ok (.invokestatic 120, 3) := by decide +kernel
theorem d_Mod_share_66 : decode b_Mod_share 66 = .ok (.goto 35, 3) := by decide +kernel
theorem d_Mod_share_69 : decode b_Mod_share 69 = .ok (.iload 6, 2) := by decide +kernel
theorem d_Mod_share_71 : decode b_Mod_share 71 = .ok (.iconst 5, 1) := by decide +kernel
theorem d_Mod_share_72 : decode b_Mod_share 72 = .ok (.if_icmp .ne 23, 3) := by decide +kernel
theorem d_Mod_share_75 : decode b_Mod_share 75 = .ok (.aload_n 0, 1) := by decide +kernel
theorem d_Mod_share_76 : decode b_Mod_share 76 = .ok (.getfield 89, 3) := by decide +kernel
theorem d_Mod_share_79 : decode b_Mod_share 79 = .ok (.aload_n 0, 1) := by decide +kernel
theorem d_Mod_share_80 : decode b_Mod_share 80 = .ok (.getfield 95, 3) := by decide +kernel
theorem d_Mod_share_83 : decode b_Mod_share 83 = .ok (.aload_n 0, 1) := by decide +kernel
theorem d_Mod_share_84 : decode b_Mod_share 84 = .ok (.iload_n 2, 1) := by decide +kernel
theorem d_Mod_share_85 : decode b_Mod_share 85 = .ok (.iload_n 3, 1) := by decide +kernel
theorem d_Mod_share_86 : decode b_Mod_share 86 = .ok (.invokevirtual 156, 3) := by decide +kernel
theorem d_Mod_share_89 : decode b_Mod_share 89 = .ok (.invokestatic 120, 3) := by decide +kernel
theorem d_Mod_share_92 : decode b_Mod_share 92 = .ok (.goto 9, 3) := by decide +kernel
theorem d_Mod_share_95 : decode b_Mod_share 95 = .ok (.aload_n 0, 1) := by decide +kernel
theorem d_Mod_share_96 : decode b_Mod_share 96 = .ok (.iload 6, 2) := by decide +kernel
theorem d_Mod_share_98 : decode b_Mod_share 98 = .ok (.invokevirtual 150, 3) := by decide +kernel
theorem d_Mod_share_101 : decode b_Mod_share 101 = .ok (.ireturn, 1) := by decide +kernel
theorem d_Mod_block_0 : decode b_Mod_block 0 = .ok (.aload_n 0, 1) := by decide +kernel
theorem d_Mod_block_1 : decode b_Mod_block 1 = .ok (.iload 7, 2) := by decide +kernel
theorem d_Mod_block_3 : decode b_Mod_block 3 = .ok (.ifCond .lt 28, 3) := by decide +kernel
theorem d_Mod_block_6 : decode b_Mod_block 6 = .ok (.iload 7, 2) := by decide +kernel
theorem d_Mod_block_8 : decode b_Mod_block 8 = .ok (.iconst 3, 1) := by decide +kernel
theorem d_Mod_block_9 : decode b_Mod_block 9 = .ok (.if_icmp .gt 22, 3) := by decide +kernel
theorem d_Mod_block_12 : decode b_Mod_block 12 = .ok (.iload 6, 2) := by decide +kernel
theorem d_Mod_block_14 : decode b_Mod_block 14 = .ok (.ifCond .lt 17, 3) := by decide +kernel
theorem d_Mod_block_17 : decode b_Mod_block 17 = .ok (.aload_n 0, 1) := by decide +kernel
theorem d_Mod_block_18 : decode b_Mod_block 18 = .ok (.iload_n 1, 1) := by decide +kernel
theorem d_Mod_block_19 : decode b_Mod_block 19 = .ok (.iload_n 2, 1) := by decide +kernel
theorem d_Mod_block_20 : decode b_Mod_block 20 = .ok (.iload_n 3, 1) := by decide +kernel
theorem d_Mod_block_21 : decode b_Mod_block 21 = .ok (.iload 4, 2) := by decide +kernel
theorem d_Mod_block_23 : decode b_Mod_block 23 = .ok (.iload 5, 2) := by decide +kernel
theorem d_Mod_block_25 : decode b_Mod_block 25 = .ok (.invokevirtual 163, 3) := by decide +kernel
theorem d_Mod_block_28 : decode b_Mod_block 28 = .ok (.ifCond .ne 7, 3) := by decide +kernel
theorem d_Mod_block_31 : decode b_Mod_block 31 = .ok (.iconst 1, 1) := by decide +kernel
theorem d_Mod_block_32 : decode b_Mod_block 32 = .ok (.goto 4, 3) := by decide +kernel
theorem d_Mod_block_35 : decode b_Mod_block 35 = .ok (.iconst 0, 1) := by decide +kernel
theorem d_Mod_block_36 : decode b_Mod_block 36 = .ok (.putfield 31, 3) := by decide +kernel
theorem d_Mod_block_39 : decode b_Mod_block 39 = .ok (.aload_n 0, 1) := by decide +kernel
theorem d_Mod_block_40 : decode b_Mod_block 40 = .ok (.getfield 31, 3) := by decide +kernel
theorem d_Mod_block_43 : decode b_Mod_block 43 = .ok (.ifCond .le 5, 3) := by decide +kernel
theorem d_Mod_block_46 : decode b_Mod_block 46 = .ok (.iconst 0, 1) := by decide +kernel
theorem d_Mod_block_47 : decode b_Mod_block 47 = .ok (.ireturn, 1) := by decide +kernel
theorem d_Mod_block_48 : decode b_Mod_block 48 = .ok (.aload_n 0, 1) := by decide +kernel
theorem d_Mod_block_49 : decode b_Mod_block 49 = .ok (.iload_n 2, 1) := by decide +kernel
theorem d_Mod_block_50 : decode b_Mod_block 50 = .ok (.iload_n 3, 1) := by decide +kernel
theorem d_Mod_block_51 : decode b_Mod_block 51 = .ok (.invokevirtual 153, 3) := by decide +kernel
theorem d_Mod_block_54 : decode b_Mod_block 54 = .ok (.istore 8, 2) := by decide +kernel
theorem d_Mod_block_56 : decode b_Mod_block 56 = .ok (.aload_n 0, 1) := by decide +kernel
theorem d_Mod_block_57 : decode b_Mod_block 57 = .ok (.iload_n 2, 1) := by decide +kernel
theorem d_Mod_block_58 : decode b_Mod_block 58 = .ok (.iload_n 3, 1) := by decide +kernel
theorem d_Mod_block_59 : decode b_Mod_block 59 = .ok (.invokevirtual 156, 3) := by decide +kernel
theorem d_Mod_block_62 : decode b_Mod_block 62 = .ok (.istore 9, 2) := by decide +kernel
theorem d_Mod_block_64 : decode b_Mod_block 64 = .ok (.aload_n 0, 1) := by decide +kernel
theorem d_Mod_block_65 : decode b_Mod_block 65 = .ok (.getfield 86, 3) := by decide +kernel
theorem d_Mod_block_68 : decode b_Mod_block 68 = .ok (.aload_n 0, 1) := by decide +kernel
theorem d_Mod_block_69 : decode b_Mod_block 69 = .ok (.getfield 92, 3) := by decide +kernel
theorem d_Mod_block_72 : decode b_Mod_block 72 = .ok (.iload 8, 2) := by decide +kernel
theorem d_Mod_block_74 : decode b_Mod_block 74 = .ok (.invokestatic 120, 3) := by decide +kernel
theorem d_Mod_block_77 : decode b_Mod_block 77 = .ok (.istore 10, 2) := by decide +kernel
theorem d_Mod_block_79 : decode b_Mod_block 79 = .ok (.iload 10, 2) := by decide +kernel
theorem d_Mod_block_81 : decode b_Mod_block 81 = .ok (.ifCond .eq 24, 3) := by decide +kernel
theorem d_Mod_block_84 : decode b_Mod_block 84 = .ok (.iload 6, 2) := by decide +kernel
theorem d_Mod_block_86 : decode b_Mod_block 86 = .ok (.iload 10, 2) := by decide +kernel
theorem d_Mod_block_88 : decode b_Mod_block 88 = .ok (.idiv, 1) := by decide +kernel
theorem d_Mod_block_89 : decode b_Mod_block 89 = .ok (.aload_n 0, 1) := by decide +kernel
theorem d_Mod_block_90 : decode b_Mod_block 90 = .ok (.getfield 89, 3) := by decide +kernel
theorem d_Mod_block_93 : decode b_Mod_block 93 = .ok (.aload_n 0, 1) := by decide +kernel
theorem d_Mod_block_94 : decode b_Mod_block 94 = .ok (.getfield 95, 3) := by decide +kernel
theorem d_Mod_block_97 : decode b_Mod_block 97 = .ok (.iload 9, 2) := by decide +kernel
theorem d_Mod_block_99 : decode b_Mod_block 99 = .ok (.invokestatic 120, 3) := by decide +kernel
theorem d_Mod_block_102 : decode b_Mod_block 102 = .ok (.if_icmp .lt 9, 3) := by decide +kernel
theorem d_Mod_block_105 : decode b_Mod_block 105 = .ok (.aload_n 0, 1) := by decide +kernel
theorem d_Mod_block_106 : decode b_Mod_block 106 = .ok (.iconst 1, 1) := by decide +kernel
theorem d_Mod_block_107 : decode b_Mod_block 107 = .ok (.invokevirtual 69, 3) := by decide +kernel
theorem d_Mod_block_110 : decode b_Mod_block 110 = .ok (.ireturn, 1) := by decide +kernel
theorem d_Mod_block_111 : decode b_Mod_block 111 = .ok (.aload_n 0, 1) := by decide +kernel
theorem d_Mod_block_112 : decode b_Mod_block 112 = .ok (.aload_n 0, 1) := by decide +kernel
theorem d_Mod_block_113 : decode b_Mod_block 113 = .ok (.getfield 86, 3) := by decide +kernel
theorem d_Mod_block_116 : decode b_Mod_block 116 = .ok (.iload 8, 2) := by decide +kernel
theorem d_Mod_block_118 : decode b_Mod_block 118 = .ok (.ishr, 1) := by decide +kernel
theorem d_Mod_block_119 : decode b_Mod_block 119 = .ok (.iload 6, 2) := by decide +kernel
theorem d_Mod_block_121 : decode b_Mod_block 121 = .ok (.iload 10, 2) := by decide +kernel
theorem d_Mod_block_123 : decode b_Mod_block 123 = .ok (.irem, 1) := by decide +kernel
theorem d_Mod_block_124 : decode b_Mod_block 124 = .ok (.iadd, 1) := by decide +kernel
theorem d_Mod_block_125 : decode b_Mod_block 125 = .ok (.aload_n 0, 1) := by decide +kernel
theorem d_Mod_block_126 : decode b_Mod_block 126 = .ok (.getfield 89, 3) := by decide +kernel
theorem d_Mod_block_129 : decode b_Mod_block 129 = .ok (.iload 9, 2) := by decide +kernel
theorem d_Mod_block_131 : decode b_Mod_block 131 = .ok (.ishr, 1) := by decide +kernel
theorem d_Mod_block_132 : decode b_Mod_block 132 = .ok (.iload 6, 2) := by decide +kernel
theorem d_Mod_block_134 : decode b_Mod_block 134 = .ok (.iload 10, 2) := by decide +kernel
theorem d_Mod_block_136 : decode b_Mod_block 136 = .ok (.idiv, 1) := by decide +kernel
theorem d_Mod_block_137 : decode b_Mod_block 137 = .ok (.iadd, 1) := by decide +kernel
theorem d_Mod_block_138 : decode b_Mod_block 138 = .ok (.iload 8, 2) := by decide +kernel
theorem d_Mod_block_140 : decode b_Mod_block 140 = .ok (.iload 9, 2) := by decide +kernel
theorem d_Mod_block_142 : decode b_Mod_block 142 = .ok (.invokevirtual 146, 3) := by decide +kernel
theorem d_Mod_block_145 : decode b_Mod_block 145 = .ok (.aload_n 0, 1) := by decide +kernel
theorem d_Mod_block_146 : decode b_Mod_block 146 = .ok (.iload 7, 2) := by decide +kernel
theorem d_Mod_block_148 : decode b_Mod_block 148 = .ok (.invokevirtual 150, 3) := by decide +kernel
theorem d_Mod_block_151 : decode b_Mod_block 151 = .ok (.ireturn, 1) := by decide +kernel
theorem d_Mod_where_0 : decode b_Mod_where 0 = .ok (.aload_n 0, 1) := by decide +kernel
theorem d_Mod_where_1 : decode b_Mod_where 1 = .ok (.getfield 35, 3) := by decide +kernel
theorem d_Mod_where_4 : decode b_Mod_where 4 = .ok (.ifCond .eq 11, 3) := by decide +kernel
theorem d_Mod_where_7 : decode b_Mod_where 7 = .ok (.aload_n 0, 1) := by decide +kernel
theorem d_Mod_where_8 : decode b_Mod_where 8 = .ok (.iload_n 1, 1) := by decide +kernel
theorem d_Mod_where_9 : decode b_Mod_where 9 = .ok (.invokevirtual 82, 3) := by decide +kernel
theorem d_Mod_where_12 : decode b_Mod_where 12 = .ok (.ifCond .ne 9, 3) := by decide +kernel
theorem d_Mod_where_15 : decode b_Mod_where 15 = .ok (.aload_n 0, 1) := by decide +kernel
theorem d_Mod_where_16 : decode b_Mod_where 16 = .ok (.iconst 1, 1) := by decide +kernel
theorem d_Mod_where_17 : decode b_Mod_where 17 = .ok (.invokevirtual 69, 3) := by decide +kernel
theorem d_Mod_where_20 : decode b_Mod_where 20 = .ok (.ireturn, 1) := by decide +kernel
theorem d_Mod_where_21 : decode b_Mod_where 21 = .ok (.iload_n 2, 1) := by decide +kernel
theorem d_Mod_where_22 : decode b_Mod_where 22 = .ok (.i2l, 1) := by decide +kernel
theorem d_Mod_where_23 : decode b_Mod_where 23 = .ok (.aload_n 0, 1) := by decide +kernel
theorem d_Mod_where_24 : decode b_Mod_where 24 = .ok (.getfield 7, 3) := by decide +kernel
theorem d_Mod_where_27 : decode b_Mod_where 27 = .ok (.iload_n 1, 1) := by decide +kernel
theorem d_Mod_where_28 : decode b_Mod_where 28 = .ok (.iaload, 1) := by decide +kernel
theorem d_Mod_where_29 : decode b_Mod_where 29 = .ok (.i2l, 1) := by decide +kernel
theorem d_Mod_where_30 : decode b_Mod_where 30 = .ok (.lmul, 1) := by decide +kernel
theorem d_Mod_where_31 : decode b_Mod_where 31 = .ok (.lstore 4, 2) := by decide +kernel
theorem d_Mod_where_33 : decode b_Mod_where 33 = .ok (.iload_n 3, 1) := by decide +kernel
theorem d_Mod_where_34 : decode b_Mod_where 34 = .ok (.i2l, 1) := by decide +kernel
theorem d_Mod_where_35 : decode b_Mod_where 35 = .ok (.aload_n 0, 1) := by decide +kernel
theorem d_Mod_where_36 : decode b_Mod_where 36 = .ok (.getfield 13, 3) := by decide +kernel
theorem d_Mod_where_39 : decode b_Mod_where 39 = .ok (.iload_n 1, 1) := by decide +kernel
theorem d_Mod_where_40 : decode b_Mod_where 40 = .ok (.iaload, 1) := by decide +kernel
theorem d_Mod_where_41 : decode b_Mod_where 41 = .ok (.i2l, 1) := by decide +kernel
theorem d_Mod_where_42 : decode b_Mod_where 42 = .ok (.lmul, 1) := by decide +kernel
theorem d_Mod_where_43 : decode b_Mod_where 43 = .ok (.lstore 6, 2) := by decide +kernel
theorem d_Mod_where_45 : decode b_Mod_where 45 = .ok (.lload 4, 2) := by decide +kernel
theorem d_Mod_where_47 : decode b_Mod_where 47 = .ok (.aload_n 0, 1) := by decide +kernel
theorem d_Mod_where_48 : decode b_Mod_where 48 = .ok (.getfield 39, 3) := by decide +kernel
theorem d_Mod_where_51 : decode b_Mod_where 51 = .ok (.i2l, 1) := by decide +kernel
theorem d_Mod_where_52 : decode b_Mod_where 52 = .ok (.lcmp, 1) := by decide +kernel
theorem d_Mod_where_53 : decode b_Mod_where 53 = .ok (.ifCond .lt 36, 3) := by decide +kernel
theorem d_Mod_where_56 : decode b_Mod_where 56 = .ok (.lload 4, 2) := by decide +kernel
theorem d_Mod_where_58 : decode b_Mod_where 58 = .ok (.aload_n 0, 1) := by decide +kernel
theorem d_Mod_where_59 : decode b_Mod_where 59 = .ok (.getfield 45, 3) := by decide +kernel
theorem d_Mod_where_62 : decode b_Mod_where 62 = .ok (.i2l, 1) := by decide +kernel
theorem d_Mod_where_63 : decode b_Mod_where 63 = .ok (.lcmp, 1) := by decide +kernel
theorem d_Mod_where_64 : decode b_Mod_where 64 = .ok (.ifCond .ge 25, 3) := by decide +kernel
theorem d_Mod_where_67 : decode b_Mod_where 67 = .ok (.lload 6, 2) := by decide +kernel
theorem d_Mod_where_69 : decode b_Mod_where 69 = .ok (.aload_n 0, 1) := by decide +kernel
theorem d_Mod_where_70 : decode b_Mod_where 70 = .ok (.getfield 42, 3) := by decide +kernel
theorem d_Mod_where_73 : decode b_Mod_where 73 = .ok (.i2l, 1) := by decide +kernel
theorem d_Mod_where_74 : decode b_Mod_where 74 = .ok (.lcmp, 1) := by decide +kernel
theorem d_Mod_where_75 : decode b_Mod_where 75 = .ok (.ifCond .lt 14, 3) := by decide +kernel
theorem d_Mod_where_78 : decode b_Mod_where 78 = .ok (.lload 6, 2) := by decide +kernel
theorem d_Mod_where_80 : decode b_Mod_where 80 = .ok (.aload_n 0, 1) := by decide +kernel
theorem d_Mod_where_81 : decode b_Mod_where 81 = .ok (.getfield 48, 3) := by decide +kernel
theorem d_Mod_where_84 : decode b_Mod_where 84 = .ok (.i2l, 1) := by decide +kernel
theorem d_Mod_where_85 : decode b_Mod_where 85 = .ok (.lcmp, 1) := by decide +kernel
theorem d_Mod_where_86 : decode b_Mod_where 86 = .ok (.ifCond .lt 9, 3) := by decide +kernel
theorem d_Mod_where_89 : decode b_Mod_where 89 = .ok (.aload_n 0, 1) := by decide +kernel
theorem d_Mod_where_90 : decode b_Mod_where 90 = .ok (.iconst 1, 1) := by decide +kernel
theorem d_Mod_where_91 : decode b_Mod_where 91 = .ok (.invokevirtual 69, 3) := by decide +kernel
theorem d_Mod_where_94 : decode b_Mod_where 94 = .ok (.ireturn, 1) := by decide +kernel
theorem d_Mod_where_95 : decode b_Mod_where 95 = .ok (.aload_n 0, 1) := by decide +kernel
theorem d_Mod_where_96 : decode b_Mod_where 96 = .ok (.iconst 0, 1) := by decide +kernel
theorem d_Mod_where_97 : decode b_Mod_where 97 = .ok (.putfield 31, 3) := by decide +kernel
theorem d_Mod_where_100 : decode b_Mod_where 100 = .ok (.lload 6, 2) := by decide +kernel
theorem d_Mod_where_102 : decode b_Mod_where 102 = .ok (.l2i, 1) := by decide +kernel
theorem d_Mod_where_103 : decode b_Mod_where 103 = .ok (.aload_n 0, 1) := by decide +kernel
theorem d_Mod_where_104 : decode b_Mod_where 104 = .ok (.getfield 54, 3) := by decide +kernel
theorem d_Mod_where_107 : decode b_Mod_where 107 = .ok (.isub, 1) := by decide +kernel
theorem d_Mod_where_108 : decode b_Mod_where 108 = .ok (.aload_n 0, 1) := by decide +kernel
theorem d_Mod_where_109 : decode b_Mod_where 109 = .ok (.getfield 60, 3) := by decide +kernel
theorem d_Mod_where_112 : decode b_Mod_where 112 = .ok (.idiv, 1) := by decide +kernel
theorem d_Mod_where_113 : decode b_Mod_where 113 = .ok (.aload_n 0, 1) := by decide +kernel
theorem d_Mod_where_114 : decode b_Mod_where 114 = .ok (.getfield 63, 3) := by decide +kernel
theorem d_Mod_where_117 : decode b_Mod_where 117 = .ok (.imul, 1) := by decide +kernel
theorem d_Mod_where_118 : decode b_Mod_where 118 = .ok (.lload 4, 2) := by decide +kernel
theorem d_Mod_where_120 : decode b_Mod_where 120 = .ok (.l2i, 1) := by decide +kernel
theorem d_Mod_where_121 : decode b_Mod_where 121 = .ok (.aload_n 0, 1) := by decide +kernel
theorem d_Mod_where_122 : decode b_Mod_where 122 = .ok (.getfield 51, 3) := by decide +kernel
theorem d_Mod_where_125 : decode b_Mod_where 125 = .ok (.isub, 1) := by decide +kernel
theorem d_Mod_where_126 : decode b_Mod_where 126 = .ok (.aload_n 0, 1) := by decide +kernel
theorem d_Mod_where_127 : decode b_Mod_where 127 = .ok (.getfield 57, 3) := by decide +kernel
theorem d_Mod_where_130 : decode b_Mod_where 130 = .ok (.idiv, 1) := by decide +kernel
theorem d_Mod_where_131 : decode b_Mod_where 131 = .ok (.iadd, 1) := by decide +kernel
theorem d_Mod_where_132 : decode b_Mod_where 132 = .ok (.ireturn, 1) := by decide +kernel
theorem d_Mod_coefficient_0 : decode b_Mod_coefficient 0 = .ok (.iload 5, 2) := by decide +kernel
theorem d_Mod_coefficient_2 : decode b_Mod_coefficient 2 = .ok (.ifCond .lt 56, 3) := by decide +kernel
theorem d_Mod_coefficient_5 : decode b_Mod_coefficient 5 = .ok (.iload 5, 2) := by decide +kernel
theorem d_Mod_coefficient_7 : decode b_Mod_coefficient 7 = .ok (.iconst 5, 1) := by decide +kernel
theorem d_Mod_coefficient_8 : decode b_Mod_coefficient 8 = .ok (.if_icmp .gt 50, 3) := by decide +kernel
theorem d_Mod_coefficient_11 : decode b_Mod_coefficient 11 = .ok (.aload_n 0, 1) := by decide +kernel
theorem d_Mod_coefficient_12 : decode b_Mod_coefficient 12 = .ok (.iload_n 1, 1) := by decide +kernel
theorem d_Mod_coefficient_13 : decode b_Mod_coefficient 13 = .ok (.iload_n 2, 1) := by decide +kernel
theorem d_Mod_coefficient_14 : decode b_Mod_coefficient 14 = .ok (.invokevirtual 105, 3) := by decide +kernel
theorem d_Mod_coefficient_17 : decode b_Mod_coefficient 17 = .ok (.ifCond .eq 41, 3) := by decide +kernel
theorem d_Mod_coefficient_20 : decode b_Mod_coefficient 20 = .ok (.iload_n 3, 1) := by decide +kernel
theorem d_Mod_coefficient_21 : decode b_Mod_coefficient 21 = .ok (.aload_n 0, 1) := by decide +kernel
theorem d_Mod_coefficient_22 : decode b_Mod_coefficient 22 = .ok (.getfield 86, 3) := by decide +kernel
theorem d_Mod_coefficient_25 : decode b_Mod_coefficient 25 = .ok (.if_icmp .lt 33, 3) := by decide +kernel
theorem d_Mod_coefficient_28 : decode b_Mod_coefficient 28 = .ok (.iload_n 3, 1) := by decide +kernel
theorem d_Mod_coefficient_29 : decode b_Mod_coefficient 29 = .ok (.aload_n 0, 1) := by decide +kernel
theorem d_Mod_coefficient_30 : decode b_Mod_coefficient 30 = .ok (.getfield 92, 3) := by decide +kernel
theorem d_Mod_coefficient_33 : decode b_Mod_coefficient 33 = .ok (.if_icmp .ge 25, 3) := by decide +kernel
theorem d_Mod_coefficient_36 : decode b_Mod_coefficient 36 = .ok (.iload 4, 2) := by decide +kernel
theorem d_Mod_coefficient_38 : decode b_Mod_coefficient 38 = .ok (.aload_n 0, 1) := by decide +kernel
theorem d_Mod_coefficient_39 : decode b_Mod_coefficient 39 = .ok (.getfield 89, 3) := by decide +kernel
theorem d_Mod_coefficient_42 : decode b_Mod_coefficient 42 = .ok (.if_icmp .lt 16, 3) := by decide +kernel
theorem d_Mod_coefficient_45 : decode b_Mod_coefficient 45 = .ok (.iload 4, 2) := by decide +kernel
theorem d_Mod_coefficient_47 : decode b_Mod_coefficient 47 = .ok (.aload_n 0, 1) := by decide +kernel
theorem d_Mod_coefficient_48 : decode b_Mod_coefficient 48 = .ok (.getfield 95, 3) := by decide +kernel
theorem d_Mod_coefficient_51 : decode b_Mod_coefficient 51 = .ok (.if_icmp .ge 7, 3) := by decide +kernel
theorem d_Mod_coefficient_54 : decode b_Mod_coefficient 54 = .ok (.iconst 1, 1) := by decide +kernel
theorem d_Mod_coefficient_55 : decode b_Mod_coefficient 55 = .ok (.goto 4, 3) := by decide +kernel
theorem d_Mod_coefficient_58 : decode b_Mod_coefficient 58 = .ok (.iconst 0, 1) := by decide +kernel
theorem d_Mod_coefficient_59 : decode b_Mod_coefficient 59 = .ok (.istore 6, 2) := by decide +kernel
theorem d_Mod_coefficient_61 : decode b_Mod_coefficient 61 = .ok (.aload_n 0, 1) := by decide +kernel
theorem d_Mod_coefficient_62 : decode b_Mod_coefficient 62 = .ok (.iload 6, 2) := by decide +kernel
theorem d_Mod_coefficient_64 : decode b_Mod_coefficient 64 = .ok (.ifCond .eq 7, 3) := by decide +kernel
theorem d_Mod_coefficient_67 : decode b_Mod_coefficient 67 = .ok (.iconst 0, 1) := by decide +kernel
theorem d_Mod_coefficient_68 : decode b_Mod_coefficient 68 = .ok (.goto 4, 3) := by decide +kernel
theorem d_Mod_coefficient_71 : decode b_Mod_coefficient 71 = .ok (.iconst 1, 1) := by decide +kernel
theorem d_Mod_coefficient_72 : decode b_Mod_coefficient 72 = .ok (.putfield 31, 3) := by decide +kernel
theorem d_Mod_coefficient_75 : decode b_Mod_coefficient 75 = .ok (.iload 6, 2) := by decide +kernel
theorem d_Mod_coefficient_77 : decode b_Mod_coefficient 77 = .ok (.ifCond .ne 5, 3) := by decide +kernel
theorem d_Mod_coefficient_80 : decode b_Mod_coefficient 80 = .ok (.iconst 0, 1) := by decide +kernel
theorem d_Mod_coefficient_81 : decode b_Mod_coefficient 81 = .ok (.ireturn, 1) := by decide +kernel
theorem d_Mod_coefficient_82 : decode b_Mod_coefficient 82 = .ok (.aload_n 0, 1) := by decide +kernel
theorem d_Mod_coefficient_83 : decode b_Mod_coefficient 83 = .ok (.getfield 16, 3) := by decide +kernel
theorem d_Mod_coefficient_86 : decode b_Mod_coefficient 86 = .ok (.iload_n 2, 1) := by decide +kernel
theorem d_Mod_coefficient_87 : decode b_Mod_coefficient 87 = .ok (.iaload, 1) := by decide +kernel
theorem d_Mod_coefficient_88 : decode b_Mod_coefficient 88 = .ok (.istore 7, 2) := by decide +kernel
theorem d_Mod_coefficient_90 : decode b_Mod_coefficient 90 = .ok (.iload_n 3, 1) := by decide +kernel
theorem d_Mod_coefficient_91 : decode b_Mod_coefficient 91 = .ok (.istore 8, 2) := by decide +kernel
theorem d_Mod_coefficient_93 : decode b_Mod_coefficient 93 = .ok (.iload 4, 2) := by decide +kernel
theorem d_Mod_coefficient_95 : decode b_Mod_coefficient 95 = .ok (.istore 9, 2) := by decide +kernel
theorem d_Mod_coefficient_97 : decode b_Mod_coefficient 97 = .ok (.iload 7, 2) := by decide +kernel
theorem d_Mod_coefficient_99 : decode b_Mod_coefficient 99 = .ok (.ifCond .le 35, 3) := by decide +kernel
theorem d_Mod_coefficient_102 : decode b_Mod_coefficient 102 = .ok (.iload 8, 2) := by decide +kernel
theorem d_Mod_coefficient_104 : decode b_Mod_coefficient 104 = .ok (.iconst 1, 1) := by decide +kernel
theorem d_Mod_coefficient_105 : decode b_Mod_coefficient 105 = .ok (.iand, 1) := by decide +kernel
theorem d_Mod_coefficient_106 : decode b_Mod_coefficient 106 = .ok (.ifCond .ne 28, 3) := by decide +kernel
theorem d_Mod_coefficient_109 : decode b_Mod_coefficient 109 = .ok (.iload 9, 2) := by decide +kernel
theorem d_Mod_coefficient_111 : decode b_Mod_coefficient 111 = .ok (.iconst 1, 1) := by decide +kernel
theorem d_Mod_coefficient_112 : decode b_Mod_coefficient 112 = .ok (.iand, 1) := by decide +kernel
theorem d_Mod_coefficient_113 : decode b_Mod_coefficient 113 = .ok (.ifCond .ne 21, 3) := by decide +kernel
theorem d_Mod_coefficient_116 : decode b_Mod_coefficient 116 = .ok (.iinc 7 (-1), 3) := by decide +kernel
theorem d_Mod_coefficient_119 : decode b_Mod_coefficient 119 = .ok (.iload 8, 2) := by decide +kernel
theorem d_Mod_coefficient_121 : decode b_Mod_coefficient 121 = .ok (.iconst 1, 1) := by decide +kernel
theorem d_Mod_coefficient_122 : decode b_Mod_coefficient 122 = .ok (.ishr, 1) := by decide +kernel
theorem d_Mod_coefficient_123 : decode b_Mod_coefficient 123 = .ok (.istore 8, 2) := by decide +kernel
theorem d_Mod_coefficient_125 : decode b_Mod_coefficient 125 = .ok (.iload 9, 2) := by decide +kernel
theorem d_Mod_coefficient_127 : decode b_Mod_coefficient 127 = .ok (.iconst 1, 1) := by decide +kernel
theorem d_Mod_coefficient_128 : decode b_Mod_coefficient 128 = .ok (.ishr, 1) := by decide +kernel
theorem d_Mod_coefficient_129 : decode b_Mod_coefficient 129 = .ok (.istore 9, 2) := by decide +kernel
theorem d_Mod_coefficient_131 : decode b_Mod_coefficient 131 = .ok (.goto (-34), 3) := by decide +kernel
theorem d_Mod_coefficient_134 : decode b_Mod_coefficient 134 = .ok (.iload 7, 2) := by decide +kernel
theorem d_Mod_coefficient_136 : decode b_Mod_coefficient 136 = .ok (.ifCond .ne 7, 3) := by decide +kernel
theorem d_Mod_coefficient_139 : decode b_Mod_coefficient 139 = .ok (.iconst 0, 1) := by decide +kernel
theorem d_Mod_coefficient_140 : decode b_Mod_coefficient 140 = .ok (.goto 14, 3) := by decide +kernel
theorem d_Mod_coefficient_143 : decode b_Mod_coefficient 143 = .ok (.iload 8, 2) := by decide +kernel
theorem d_Mod_coefficient_145 : decode b_Mod_coefficient 145 = .ok (.iconst 1, 1) := by decide +kernel
theorem d_Mod_coefficient_146 : decode b_Mod_coefficient 146 = .ok (.iand, 1) := by decide +kernel
theorem d_Mod_coefficient_147 : decode b_Mod_coefficient 147 = .ok (.iconst 2, 1) := by decide +kernel
theorem d_Mod_coefficient_148 : decode b_Mod_coefficient 148 = .ok (.iload 9, 2) := by decide +kernel
theorem d_Mod_coefficient_150 : decode b_Mod_coefficient 150 = .ok (.iconst 1, 1) := by decide +kernel
theorem d_Mod_coefficient_151 : decode b_Mod_coefficient 151 = .ok (.iand, 1) := by decide +kernel
theorem d_Mod_coefficient_152 : decode b_Mod_coefficient 152 = .ok (.imul, 1) := by decide +kernel
theorem d_Mod_coefficient_153 : decode b_Mod_coefficient 153 = .ok (.iadd, 1) := by decide +kernel
theorem d_Mod_coefficient_154 : decode b_Mod_coefficient 154 = .ok (.istore 10, 2) := by decide +kernel
theorem d_Mod_coefficient_156 : decode b_Mod_coefficient 156 = .ok (.iload 7, 2) := by decide +kernel
theorem d_Mod_coefficient_158 : decode b_Mod_coefficient 158 = .ok (.ifCond .ne 8, 3) := by decide +kernel
theorem d_Mod_coefficient_161 : decode b_Mod_coefficient 161 = .ok (.iload 8, 2) := by decide +kernel
theorem d_Mod_coefficient_163 : decode b_Mod_coefficient 163 = .ok (.goto 7, 3) := by decide +kernel
theorem d_Mod_coefficient_166 : decode b_Mod_coefficient 166 = .ok (.iload 8, 2) := by decide +kernel
theorem d_Mod_coefficient_168 : decode b_Mod_coefficient 168 = .ok (.iconst 1, 1) := by decide +kernel
theorem d_Mod_coefficient_169 : decode b_Mod_coefficient 169 = .ok (.ishr, 1) := by decide +kernel
theorem d_Mod_coefficient_170 : decode b_Mod_coefficient 170 = .ok (.istore 8, 2) := by decide +kernel
theorem d_Mod_coefficient_172 : decode b_Mod_coefficient 172 = .ok (.iload 7, 2) := by decide +kernel
theorem d_Mod_coefficient_174 : decode b_Mod_coefficient 174 = .ok (.ifCond .ne 8, 3) := by decide +kernel
theorem d_Mod_coefficient_177 : decode b_Mod_coefficient 177 = .ok (.iload 9, 2) := by decide +kernel
theorem d_Mod_coefficient_179 : decode b_Mod_coefficient 179 = .ok (.goto 7, 3) := by decide +kernel
theorem d_Mod_coefficient_182 : decode b_Mod_coefficient 182 = .ok (.iload 9, 2) := by decide +kernel
theorem d_Mod_coefficient_184 : decode b_Mod_coefficient 184 = .ok (.iconst 1, 1) := by decide +kernel
theorem d_Mod_coefficient_185 : decode b_Mod_coefficient 185 = .ok (.ishr, 1) := by decide +kernel
theorem d_Mod_coefficient_186 : decode b_Mod_coefficient 186 = .ok (.istore 9, 2) := by decide +kernel
theorem d_Mod_coefficient_188 : decode b_Mod_coefficient 188 = .ok (.iload 5, 2) := by decide +kernel
theorem d_Mod_coefficient_190 : decode b_Mod_coefficient 190 = .ok (.iconst 4, 1) := by decide +kernel
theorem d_Mod_coefficient_191 : decode b_Mod_coefficient 191 = .ok (.if_icmp .ge 38, 3) := by decide +kernel
theorem d_Mod_coefficient_194 : decode b_Mod_coefficient 194 = .ok (.iload 5, 2) := by decide +kernel
theorem d_Mod_coefficient_196 : decode b_Mod_coefficient 196 = .ok (.ifCond .ne 8, 3) := by decide +kernel
theorem d_Mod_coefficient_199 : decode b_Mod_coefficient 199 = .ok (.iload 7, 2) := by decide +kernel
theorem d_Mod_coefficient_201 : decode b_Mod_coefficient 201 = .ok (.goto 27, 3) := by decide +kernel
theorem d_Mod_coefficient_204 : decode b_Mod_coefficient 204 = .ok (.iload 5, 2) := by decide +kernel
theorem d_Mod_coefficient_206 : decode b_Mod_coefficient 206 = .ok (.iconst 1, 1) := by decide +kernel
theorem d_Mod_coefficient_207 : decode b_Mod_coefficient 207 = .ok (.if_icmp .ne 8, 3) := by decide +kernel
theorem d_Mod_coefficient_210 : decode b_Mod_coefficient 210 = .ok (.iload 10, 2) := by decide +kernel
theorem d_Mod_coefficient_212 : decode b_Mod_coefficient 212 = .ok (.goto 16, 3) := by decide +kernel
theorem d_Mod_coefficient_215 : decode b_Mod_coefficient 215 = .ok (.iload 5, 2) := by decide +kernel
theorem d_Mod_coefficient_217 : decode b_Mod_coefficient 217 = .ok (.iconst 2, 1) := by decide +kernel
theorem d_Mod_coefficient_218 : decode b_Mod_coefficient 218 = .ok (.if_icmp .ne 8, 3) := by decide +kernel
theorem d_Mod_coefficient_221 : decode b_Mod_coefficient 221 = .ok (.iload 8, 2) := by decide +kernel
theorem d_Mod_coefficient_223 : decode b_Mod_coefficient 223 = .ok (.goto 5, 3) := by decide +kernel
theorem d_Mod_coefficient_226 : decode b_Mod_coefficient 226 = .ok (.iload 9, 2) := by decide +kernel
theorem d_Mod_coefficient_228 : decode b_Mod_coefficient 228 = .ok (.ireturn, 1) := by decide +kernel
theorem d_Mod_coefficient_229 : decode b_Mod_coefficient 229 = .ok (.aload_n 0, 1) := by decide +kernel
theorem d_Mod_coefficient_230 : decode b_Mod_coefficient 230 = .ok (.iload_n 1, 1) := by decide +kernel
theorem d_Mod_coefficient_231 : decode b_Mod_coefficient 231 = .ok (.iload_n 2, 1) := by decide +kernel
theorem d_Mod_coefficient_232 : decode b_Mod_coefficient 232 = .ok (.iload 7, 2) := by decide +kernel
theorem d_Mod_coefficient_234 : decode b_Mod_coefficient 234 = .ok (.invokevirtual 109, 3) := by decide +kernel
theorem d_Mod_coefficient_237 : decode b_Mod_coefficient 237 = .ok (.istore 11, 2) := by decide +kernel
theorem d_Mod_coefficient_239 : decode b_Mod_coefficient 239 = .ok (.iload 8, 2) := by decide +kernel
theorem d_Mod_coefficient_241 : decode b_Mod_coefficient 241 = .ok (.aload_n 0, 1) := by decide +kernel
theorem d_Mod_coefficient_242 : decode b_Mod_coefficient 242 = .ok (.iload_n 2, 1) := by decide +kernel
theorem d_Mod_coefficient_243 : decode b_Mod_coefficient 243 = .ok (.iload 7, 2) := by decide +kernel
theorem d_Mod_coefficient_245 : decode b_Mod_coefficient 245 = .ok (.invokevirtual 132, 3) := by decide +kernel
theorem d_Mod_coefficient_248 : decode b_Mod_coefficient 248 = .ok (.ishr, 1) := by decide +kernel
theorem d_Mod_coefficient_249 : decode b_Mod_coefficient 249 = .ok (.istore 12, 2) := by decide +kernel
theorem d_Mod_coefficient_251 : decode b_Mod_coefficient 251 = .ok (.iload 9, 2) := by decide +kernel
theorem d_Mod_coefficient_253 : decode b_Mod_coefficient 253 = .ok (.aload_n 0, 1) := by decide +kernel
theorem d_Mod_coefficient_254 : decode b_Mod_coefficient 254 = .ok (.iload_n 2, 1) := by decide +kernel
theorem d_Mod_coefficient_255 : decode b_Mod_coefficient 255 = .ok (.iload 7, 2) := by decide +kernel
theorem d_Mod_coefficient_257 : decode b_Mod_coefficient 257 = .ok (.invokevirtual 135, 3) := by decide +kernel
theorem d_Mod_coefficient_260 : decode b_Mod_coefficient 260 = .ok (.ishr, 1) := by decide +kernel
theorem d_Mod_coefficient_261 : decode b_Mod_coefficient 261 = .ok (.istore 13, 2) := by decide +kernel
theorem d_Mod_coefficient_263 : decode b_Mod_coefficient 263 = .ok (.iload 13, 2) := by decide +kernel
theorem d_Mod_coefficient_265 : decode b_Mod_coefficient 265 = .ok (.aload_n 0, 1) := by decide +kernel
theorem d_Mod_coefficient_266 : decode b_Mod_coefficient 266 = .ok (.getfield 89, 3) := by decide +kernel
theorem d_Mod_coefficient_269 : decode b_Mod_coefficient 269 = .ok (.aload_n 0, 1) := by decide +kernel
theorem d_Mod_coefficient_270 : decode b_Mod_coefficient 270 = .ok (.getfield 28, 3) := by decide +kernel
theorem d_Mod_coefficient_273 : decode b_Mod_coefficient 273 = .ok (.bipush 33, 2) := by decide +kernel
theorem d_Mod_coefficient_275 : decode b_Mod_coefficient 275 = .ok (.iload_n 2, 1) := by decide +kernel
theorem d_Mod_coefficient_276 : decode b_Mod_coefficient 276 = .ok (.imul, 1) := by decide +kernel
theorem d_Mod_coefficient_277 : decode b_Mod_coefficient 277 = .ok (.iload 7, 2) := by decide +kernel
theorem d_Mod_coefficient_279 : decode b_Mod_coefficient 279 = .ok (.iadd, 1) := by decide +kernel
theorem d_Mod_coefficient_280 : decode b_Mod_coefficient 280 = .ok (.iaload, 1) := by decide +kernel
theorem d_Mod_coefficient_281 : decode b_Mod_coefficient 281 = .ok (.ishr, 1) := by decide +kernel
theorem d_Mod_coefficient_282 : decode b_Mod_coefficient 282 = .ok (.isub, 1) := by decide +kernel
theorem d_Mod_coefficient_283 : decode b_Mod_coefficient 283 = .ok (.aload_n 0, 1) := by decide +kernel
theorem d_Mod_coefficient_284 : decode b_Mod_coefficient 284 = .ok (.iload_n 2, 1) := by decide +kernel
theorem d_Mod_coefficient_285 : decode b_Mod_coefficient 285 = .ok (.iload 7, 2) := by decide +kernel
theorem d_Mod_coefficient_287 : decode b_Mod_coefficient 287 = .ok (.invokevirtual 123, 3) := by decide +kernel
theorem d_Mod_coefficient_290 : decode b_Mod_coefficient 290 = .ok (.imul, 1) := by decide +kernel
theorem d_Mod_coefficient_291 : decode b_Mod_coefficient 291 = .ok (.iload 12, 2) := by decide +kernel
theorem d_Mod_coefficient_293 : decode b_Mod_coefficient 293 = .ok (.iadd, 1) := by decide +kernel
theorem d_Mod_coefficient_294 : decode b_Mod_coefficient 294 = .ok (.aload_n 0, 1) := by decide +kernel
theorem d_Mod_coefficient_295 : decode b_Mod_coefficient 295 = .ok (.getfield 86, 3) := by decide +kernel
theorem d_Mod_coefficient_298 : decode b_Mod_coefficient 298 = .ok (.aload_n 0, 1) := by decide +kernel
theorem d_Mod_coefficient_299 : decode b_Mod_coefficient 299 = .ok (.getfield 25, 3) := by decide +kernel
theorem d_Mod_coefficient_302 : decode b_Mod_coefficient 302 = .ok (.bipush 33, 2) := by decide +kernel
theorem d_Mod_coefficient_304 : decode b_Mod_coefficient 304 = .ok (.iload_n 2, 1) := by decide +kernel
theorem d_Mod_coefficient_305 : decode b_Mod_coefficient 305 = .ok (.imul, 1) := by decide +kernel
theorem d_Mod_coefficient_306 : decode b_Mod_coefficient 306 = .ok (.iload 7, 2) := by decide +kernel
theorem d_Mod_coefficient_308 : decode b_Mod_coefficient 308 = .ok (.iadd, 1) := by decide +kernel
theorem d_Mod_coefficient_309 : decode b_Mod_coefficient 309 = .ok (.iaload, 1) := by decide +kernel
theorem d_Mod_coefficient_310 : decode b_Mod_coefficient 310 = .ok (.ishr, 1) := by decide +kernel
theorem d_Mod_coefficient_311 : decode b_Mod_coefficient 311 = .ok (.isub, 1) := by decide +kernel
theorem d_Mod_coefficient_312 : decode b_Mod_coefficient 312 = .ok (.istore 14, 2) := by decide +kernel
theorem d_Mod_coefficient_314 : decode b_Mod_coefficient 314 = .ok (.iload 5, 2) := by decide +kernel
theorem d_Mod_coefficient_316 : decode b_Mod_coefficient 316 = .ok (.iconst 4, 1) := by decide +kernel
theorem d_Mod_coefficient_317 : decode b_Mod_coefficient 317 = .ok (.if_icmp .ne 6, 3) := by decide +kernel
theorem d_Mod_coefficient_320 : decode b_Mod_coefficient 320 = .ok (.iload 14, 2) := by decide +kernel
theorem d_Mod_coefficient_322 : decode b_Mod_coefficient 322 = .ok (.ireturn, 1) := by decide +kernel
theorem d_Mod_coefficient_323 : decode b_Mod_coefficient 323 = .ok (.iload 11, 2) := by decide +kernel
theorem d_Mod_coefficient_325 : decode b_Mod_coefficient 325 = .ok (.ifCond .eq 22, 3) := by decide +kernel
theorem d_Mod_coefficient_328 : decode b_Mod_coefficient 328 = .ok (.aload_n 0, 1) := by decide +kernel
theorem d_Mod_coefficient_329 : decode b_Mod_coefficient 329 = .ok (.iload_n 1, 1) := by decide +kernel
theorem d_Mod_coefficient_330 : decode b_Mod_coefficient 330 = .ok (.iload_n 2, 1) := by decide +kernel
theorem d_Mod_coefficient_331 : decode b_Mod_coefficient 331 = .ok (.iload 7, 2) := by decide +kernel
theorem d_Mod_coefficient_333 : decode b_Mod_coefficient 333 = .ok (.iload 10, 2) := by decide +kernel
theorem d_Mod_coefficient_335 : decode b_Mod_coefficient 335 = .ok (.iload 14, 2) := by decide +kernel
theorem d_Mod_coefficient_337 : decode b_Mod_coefficient 337 = .ok (.invokevirtual 163, 3) := by decide +kernel
theorem d_Mod_coefficient_340 : decode b_Mod_coefficient 340 = .ok (.ifCond .eq 7, 3) := by decide +kernel
theorem d_Mod_coefficient_343 : decode b_Mod_coefficient 343 = .ok (.iconst 1, 1) := by decide +kernel
theorem d_Mod_coefficient_344 : decode b_Mod_coefficient 344 = .ok (.goto 4, 3) := by decide +kernel
theorem d_Mod_coefficient_347 : decode b_Mod_coefficient 347 = .ok (.iconst 0, 1) := by decide +kernel
theorem d_Mod_coefficient_348 : decode b_Mod_coefficient 348 = .ok (.istore 11, 2) := by decide +kernel
theorem d_Mod_coefficient_350 : decode b_Mod_coefficient 350 = .ok (.aload_n 0, 1) := by decide +kernel
theorem d_Mod_coefficient_351 : decode b_Mod_coefficient 351 = .ok (.iload_n 2, 1) := by decide +kernel
theorem d_Mod_coefficient_352 : decode b_Mod_coefficient 352 = .ok (.iload 7, 2) := by decide +kernel
theorem d_Mod_coefficient_354 : decode b_Mod_coefficient 354 = .ok (.invokevirtual 153, 3) := by decide +kernel
theorem d_Mod_coefficient_357 : decode b_Mod_coefficient 357 = .ok (.istore 15, 2) := by decide +kernel
theorem d_Mod_coefficient_359 : decode b_Mod_coefficient 359 = .ok (.aload_n 0, 1) := by decide +kernel
theorem d_Mod_coefficient_360 : decode b_Mod_coefficient 360 = .ok (.iload_n 2, 1) := by decide +kernel
theorem d_Mod_coefficient_361 : decode b_Mod_coefficient 361 = .ok (.iload 7, 2) := by decide +kernel
theorem d_Mod_coefficient_363 : decode b_Mod_coefficient 363 = .ok (.invokevirtual 156, 3) := by decide +kernel
theorem d_Mod_coefficient_366 : decode b_Mod_coefficient 366 = .ok (.istore 16, 2) := by decide +kernel
theorem d_Mod_coefficient_368 : decode b_Mod_coefficient 368 = .ok (.iload 9, 2) := by decide +kernel
theorem d_Mod_coefficient_370 : decode b_Mod_coefficient 370 = .ok (.iload 16, 2) := by decide +kernel
theorem d_Mod_coefficient_372 : decode b_Mod_coefficient 372 = .ok (.ishr, 1) := by decide +kernel
theorem d_Mod_coefficient_373 : decode b_Mod_coefficient 373 = .ok (.aload_n 0, 1) := by decide +kernel
theorem d_Mod_coefficient_374 : decode b_Mod_coefficient 374 = .ok (.getfield 89, 3) := by decide +kernel
theorem d_Mod_coefficient_377 : decode b_Mod_coefficient 377 = .ok (.iload 16, 2) := by decide +kernel
theorem d_Mod_coefficient_379 : decode b_Mod_coefficient 379 = .ok (.ishr, 1) := by decide +kernel
theorem d_Mod_coefficient_380 : decode b_Mod_coefficient 380 = .ok (.isub, 1) := by decide +kernel
theorem d_Mod_coefficient_381 : decode b_Mod_coefficient 381 = .ok (.aload_n 0, 1) := by decide +kernel
theorem d_Mod_coefficient_382 : decode b_Mod_coefficient 382 = .ok (.getfield 86, 3) := by decide +kernel
theorem d_Mod_coefficient_385 : decode b_Mod_coefficient 385 = .ok (.aload_n 0, 1) := by decide +kernel
theorem d_Mod_coefficient_386 : decode b_Mod_coefficient 386 = .ok (.getfield 92, 3) := by decide +kernel
theorem d_Mod_coefficient_389 : decode b_Mod_coefficient 389 = .ok (.iload 15, 2) := by decide +kernel
theorem d_Mod_coefficient_391 : decode b_Mod_coefficient 391 = .ok (.invokestatic 120, 3) := by decide +kernel
theorem d_Mod_coefficient_394 : decode b_Mod_coefficient 394 = .ok (.imul, 1) := by decide +kernel
theorem d_Mod_coefficient_395 : decode b_Mod_coefficient 395 = .ok (.iload 8, 2) := by decide +kernel
theorem d_Mod_coefficient_397 : decode b_Mod_coefficient 397 = .ok (.iload 15, 2) := by decide +kernel
theorem d_Mod_coefficient_399 : decode b_Mod_coefficient 399 = .ok (.ishr, 1) := by decide +kernel
theorem d_Mod_coefficient_400 : decode b_Mod_coefficient 400 = .ok (.iadd, 1) := by decide +kernel
theorem d_Mod_coefficient_401 : decode b_Mod_coefficient 401 = .ok (.aload_n 0, 1) := by decide +kernel
theorem d_Mod_coefficient_402 : decode b_Mod_coefficient 402 = .ok (.getfield 86, 3) := by decide +kernel
theorem d_Mod_coefficient_405 : decode b_Mod_coefficient 405 = .ok (.iload 15, 2) := by decide +kernel
theorem d_Mod_coefficient_407 : decode b_Mod_coefficient 407 = .ok (.ishr, 1) := by decide +kernel
theorem d_Mod_coefficient_408 : decode b_Mod_coefficient 408 = .ok (.isub, 1) := by decide +kernel
theorem d_Mod_coefficient_409 : decode b_Mod_coefficient 409 = .ok (.ireturn, 1) := by decide +kernel
