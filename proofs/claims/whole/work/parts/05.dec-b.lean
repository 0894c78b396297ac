theorem d_Canvas_init_0 : decode b_Canvas_init 0 = .ok (.aload_n 0, 1) := by decide +kernel
theorem d_Canvas_init_1 : decode b_Canvas_init 1 = .ok (.invokespecial 1, 3) := by decide +kernel
theorem d_Canvas_init_4 : decode b_Canvas_init 4 = .ok (.aload_n 0, 1) := by decide +kernel
theorem d_Canvas_init_5 : decode b_Canvas_init 5 = .ok (.new 7, 3) := by decide +kernel
theorem d_Canvas_init_8 : decode b_Canvas_init 8 = .ok (.dup, 1) := by decide +kernel
theorem d_Canvas_init_9 : decode b_Canvas_init 9 = .ok (.invokespecial 9, 3) := by decide +kernel
theorem d_Canvas_init_12 : decode b_Canvas_init 12 = .ok (.putfield 10, 3) := by decide +kernel
theorem d_Canvas_init_15 : decode b_Canvas_init 15 = .ok (.aload_n 0, 1) := by decide +kernel
theorem d_Canvas_init_16 : decode b_Canvas_init 16 = .ok (.new 16, 3) := by decide +kernel
theorem d_Canvas_init_19 : decode b_Canvas_init 19 = .ok (.dup, 1) := by decide +kernel
theorem d_Canvas_init_20 : decode b_Canvas_init 20 = .ok (.invokespecial 18, 3) := by decide +kernel
theorem d_Canvas_init_23 : decode b_Canvas_init 23 = .ok (.putfield 19, 3) := by decide +kernel
theorem d_Canvas_init_26 : decode b_Canvas_init 26 = .ok (.aload_n 0, 1) := by decide +kernel
theorem d_Canvas_init_27 : decode b_Canvas_init 27 = .ok (.bipush 16, 2) := by decide +kernel
theorem d_Canvas_init_29 : decode b_Canvas_init 29 = .ok (.anewarray 23, 3) := by decide +kernel
theorem d_Canvas_init_32 : decode b_Canvas_init 32 = .ok (.putfield 25, 3) := by decide +kernel
theorem d_Canvas_init_35 : decode b_Canvas_init 35 = .ok (.aload_n 0, 1) := by decide +kernel
theorem d_Canvas_init_36 : decode b_Canvas_init 36 = .ok (.iconst 0, 1) := by decide +kernel
theorem d_Canvas_init_37 : decode b_Canvas_init 37 = .ok (.putfield 29, 3) := by decide +kernel
theorem d_Canvas_init_40 : decode b_Canvas_init 40 = .ok (.aload_n 0, 1) := by decide +kernel
theorem d_Canvas_init_41 : decode b_Canvas_init 41 = .ok (.new 7, 3) := by decide +kernel
theorem d_Canvas_init_44 : decode b_Canvas_init 44 = .ok (.dup, 1) := by decide +kernel
theorem d_Canvas_init_45 : decode b_Canvas_init 45 = .ok (.invokespecial 9, 3) := by decide +kernel
theorem d_Canvas_init_48 : decode b_Canvas_init 48 = .ok (.putfield 33, 3) := by decide +kernel
theorem d_Canvas_init_51 : decode b_Canvas_init 51 = .ok (.aload_n 0, 1) := by decide +kernel
theorem d_Canvas_init_52 : decode b_Canvas_init 52 = .ok (.new 7, 3) := by decide +kernel
theorem d_Canvas_init_55 : decode b_Canvas_init 55 = .ok (.dup, 1) := by decide +kernel
theorem d_Canvas_init_56 : decode b_Canvas_init 56 = .ok (.invokespecial 9, 3) := by decide +kernel
theorem d_Canvas_init_59 : decode b_Canvas_init 59 = .ok (.putfield 36, 3) := by decide +kernel
theorem d_Canvas_init_62 : decode b_Canvas_init 62 = .ok (.aload_n 0, 1) := by decide +kernel
theorem d_Canvas_init_63 : decode b_Canvas_init 63 = .ok (.new 7, 3) := by decide +kernel
theorem d_Canvas_init_66 : decode b_Canvas_init 66 = .ok (.dup, 1) := by decide +kernel
theorem d_Canvas_init_67 : decode b_Canvas_init 67 = .ok (.invokespecial 9, 3) := by decide +kernel
theorem d_Canvas_init_70 : decode b_Canvas_init 70 = .ok (.putfield 39, 3) := by decide +kernel
theorem d_Canvas_init_73 : decode b_Canvas_init 73 = .ok (.aload_n 0, 1) := by decide +kernel
theorem d_Canvas_init_74 : decode b_Canvas_init 74 = .ok (.new 7, 3) := by decide +kernel
theorem d_Canvas_init_77 : decode b_Canvas_init 77 = .ok (.dup, 1) := by decide +kernel
theorem d_Canvas_init_78 : decode b_Canvas_init 78 = .ok (.invokespecial 9, 3) := by decide +kernel
theorem d_Canvas_init_81 : decode b_Canvas_init 81 = .ok (.putfield 42, 3) := by decide +kernel
theorem d_Canvas_init_84 : decode b_Canvas_init 84 = .ok (.aload_n 0, 1) := by decide +kernel
theorem d_Canvas_init_85 : decode b_Canvas_init 85 = .ok (.new 7, 3) := by decide +kernel
theorem d_Canvas_init_88 : decode b_Canvas_init 88 = .ok (.dup, 1) := by decide +kernel
theorem d_Canvas_init_89 : decode b_Canvas_init 89 = .ok (.invokespecial 9, 3) := by decide +kernel
theorem d_Canvas_init_92 : decode b_Canvas_init 92 = .ok (.putfield 45, 3) := by decide +kernel
theorem d_Canvas_init_95 : decode b_Canvas_init 95 = .ok (.aload_n 0, 1) := by decide +kernel
theorem d_Canvas_init_96 : decode b_Canvas_init 96 = .ok (.new 7, 3) := by decide +kernel
theorem d_Canvas_init_99 : decode b_Canvas_init 99 = .ok (.dup, 1) := by decide +kernel
theorem d_Canvas_init_100 : decode b_Canvas_init 100 = .ok (.invokespecial 9, 3) := by decide +kernel
theorem d_Canvas_init_103 : decode b_Canvas_init 103 = .ok (.putfield 48, 3) := by decide +kernel
theorem d_Canvas_init_106 : decode b_Canvas_init 106 = .ok (.aload_n 0, 1) := by decide +kernel
theorem d_Canvas_init_107 : decode b_Canvas_init 107 = .ok (.new 16, 3) := by decide +kernel
theorem d_Canvas_init_110 : decode b_Canvas_init 110 = .ok (.dup, 1) := by decide +kernel
theorem d_Canvas_init_111 : decode b_Canvas_init 111 = .ok (.invokespecial 18, 3) := by decide +kernel
theorem d_Canvas_init_114 : decode b_Canvas_init 114 = .ok (.putfield 51, 3) := by decide +kernel
theorem d_Canvas_init_117 : decode b_Canvas_init 117 = .ok (.aload_n 0, 1) := by decide +kernel
theorem d_Canvas_init_118 : decode b_Canvas_init 118 = .ok (.new 16, 3) := by decide +kernel
theorem d_Canvas_init_121 : decode b_Canvas_init 121 = .ok (.dup, 1) := by decide +kernel
theorem d_Canvas_init_122 : decode b_Canvas_init 122 = .ok (.invokespecial 18, 3) := by decide +kernel
theorem d_Canvas_init_125 : decode b_Canvas_init 125 = .ok (.putfield 54, 3) := by decide +kernel
theorem d_Canvas_init_128 : decode b_Canvas_init 128 = .ok (.return_, 1) := by decide +kernel
theorem d_Canvas_area_0 : decode b_Canvas_area 0 = .ok (.iload_n 1, 1) := by decide +kernel
theorem d_Canvas_area_1 : decode b_Canvas_area 1 = .ok (.ifCond .lt 22, 3) := by decide +kernel
theorem d_Canvas_area_4 : decode b_Canvas_area 4 = .ok (.iload_n 2, 1) := by decide +kernel
theorem d_Canvas_area_5 : decode b_Canvas_area 5 = .ok (.ifCond .lt 18, 3) := by decide +kernel
theorem d_Canvas_area_8 : decode b_Canvas_area 8 = .ok (.iload_n 3, 1) := by decide +kernel
theorem d_Canvas_area_9 : decode b_Canvas_area 9 = .ok (.sipush 32767, 3) := by decide +kernel
theorem d_Canvas_area_12 : decode b_Canvas_area 12 = .ok (.if_icmp .gt 11, 3) := by decide +kernel
theorem d_Canvas_area_15 : decode b_Canvas_area 15 = .ok (.iload 4, 2) := by decide +kernel
theorem d_Canvas_area_17 : decode b_Canvas_area 17 = .ok (.sipush 32767, 3) := by decide +kernel
theorem d_Canvas_area_20 : decode b_Canvas_area 20 = .ok (.if_icmp .le 13, 3) := by decide +kernel
theorem d_Canvas_area_23 : decode b_Canvas_area 23 = .ok (.new 57, 3) := by decide +kernel
theorem d_Canvas_area_26 : decode b_Canvas_area 26 = .ok (.dup, 1) := by decide +kernel
theorem d_Canvas_area_27 : decode b_Canvas_area 27 = .ok (.ldc 59, 2) := by decide +kernel
theorem d_Canvas_area_29 : decode b_Canvas_area 29 = .ok (.invokespecial 61, 3) := by decide +kernel
theorem d_Canvas_area_32 : decode b_Canvas_area 32 = .ok (.athrow, 1) := by decide +kernel
theorem d_Canvas_area_33 : decode b_Canvas_area 33 = .ok (.iload_n 1, 1) := by decide +kernel
theorem d_Canvas_area_34 : decode b_Canvas_area 34 = .ok (.iload_n 3, 1) := by decide +kernel
theorem d_Canvas_area_35 : decode b_Canvas_area 35 = .ok (.if_icmp .ge 9, 3) := by decide +kernel
theorem d_Canvas_area_38 : decode b_Canvas_area 38 = .ok (.iload_n 2, 1) := by decide +kernel
theorem d_Canvas_area_39 : decode b_Canvas_area 39 = .ok (.iload 4, 2) := by decide +kernel
theorem d_Canvas_area_41 : decode b_Canvas_area 41 = .ok (.if_icmp .lt 13, 3) := by decide +kernel
theorem d_Canvas_area_44 : decode b_Canvas_area 44 = .ok (.new 57, 3) := by decide +kernel
theorem d_Canvas_area_47 : decode b_Canvas_area 47 = .ok (.dup, 1) := by decide +kernel
theorem d_Canvas_area_48 : decode b_Canvas_area 48 = .ok (.ldc 64, 2) := by decide +kernel
theorem d_Canvas_area_50 : decode b_Canvas_area 50 = .ok (.invokespecial 61, 3) := by decide +kernel
theorem d_Canvas_area_53 : decode b_Canvas_area 53 = .ok (.athrow, 1) := by decide +kernel
theorem d_Canvas_area_54 : decode b_Canvas_area 54 = .ok (.aload_n 0, 1) := by decide +kernel
theorem d_Canvas_area_55 : decode b_Canvas_area 55 = .ok (.getfield 10, 3) := by decide +kernel
theorem d_Canvas_area_58 : decode b_Canvas_area 58 = .ok (.iload_n 1, 1) := by decide +kernel
theorem d_Canvas_area_59 : decode b_Canvas_area 59 = .ok (.iload_n 2, 1) := by decide +kernel
theorem d_Canvas_area_60 : decode b_Canvas_area 60 = .ok (.iload_n 3, 1) := by decide +kernel
theorem d_Canvas_area_61 : decode b_Canvas_area 61 = .ok (.iload 4, 2) := by decide +kernel
theorem d_Canvas_area_63 : decode b_Canvas_area 63 = .ok (.invokevirtual 66, 3) := by decide +kernel
theorem d_Canvas_area_66 : decode b_Canvas_area 66 = .ok (.aload_n 0, 1) := by decide +kernel
theorem d_Canvas_area_67 : decode b_Canvas_area 67 = .ok (.getfield 19, 3) := by decide +kernel
theorem d_Canvas_area_70 : decode b_Canvas_area 70 = .ok (.iconst 0, 1) := by decide +kernel
theorem d_Canvas_area_71 : decode b_Canvas_area 71 = .ok (.iconst 0, 1) := by decide +kernel
theorem d_Canvas_area_72 : decode b_Canvas_area 72 = .ok (.iload_n 3, 1) := by decide +kernel
theorem d_Canvas_area_73 : decode b_Canvas_area 73 = .ok (.iload 4, 2) := by decide +kernel
theorem d_Canvas_area_75 : decode b_Canvas_area 75 = .ok (.aload_n 0, 1) := by decide +kernel
theorem d_Canvas_area_76 : decode b_Canvas_area 76 = .ok (.getfield 10, 3) := by decide +kernel
theorem d_Canvas_area_79 : decode b_Canvas_area 79 = .ok (.invokevirtual 70, 3) := by decide +kernel
theorem d_Canvas_area_82 : decode b_Canvas_area 82 = .ok (.return_, 1) := by decide +kernel
theorem d_Canvas_tiles_0 : decode b_Canvas_tiles 0 = .ok (.aload_n 0, 1) := by decide +kernel
theorem d_Canvas_tiles_1 : decode b_Canvas_tiles 1 = .ok (.getfield 10, 3) := by decide +kernel
theorem d_Canvas_tiles_4 : decode b_Canvas_tiles 4 = .ok (.invokevirtual 74, 3) := by decide +kernel
theorem d_Canvas_tiles_7 : decode b_Canvas_tiles 7 = .ok (.ifCond .eq 13, 3) := by decide +kernel
theorem d_Canvas_tiles_10 : decode b_Canvas_tiles 10 = .ok (.new 78, 3) := by decide +kernel
theorem d_Canvas_tiles_13 : decode b_Canvas_tiles 13 = .ok (.dup, 1) := by decide +kernel
theorem d_Canvas_tiles_14 : decode b_Canvas_tiles 14 = .ok (.ldc 80, 2) := by decide +kernel
theorem d_Canvas_tiles_16 : decode b_Canvas_tiles 16 = .ok (.invokespecial 82, 3) := by decide +kernel
theorem d_Canvas_tiles_19 : decode b_Canvas_tiles 19 = .ok (.athrow, 1) := by decide +kernel
theorem d_Canvas_tiles_20 : decode b_Canvas_tiles 20 = .ok (.iload_n 3, 1) := by decide +kernel
theorem d_Canvas_tiles_21 : decode b_Canvas_tiles 21 = .ok (.iconst 1, 1) := by decide +kernel
theorem d_Canvas_tiles_22 : decode b_Canvas_tiles 22 = .ok (.sipush 32767, 3) := by decide +kernel
theorem d_Canvas_tiles_25 : decode b_Canvas_tiles 25 = .ok (.invokestatic 83, 3) := by decide +kernel
theorem d_Canvas_tiles_28 : decode b_Canvas_tiles 28 = .ok (.ifCond .eq 15, 3) := by decide +kernel
theorem d_Canvas_tiles_31 : decode b_Canvas_tiles 31 = .ok (.iload 4, 2) := by decide +kernel
theorem d_Canvas_tiles_33 : decode b_Canvas_tiles 33 = .ok (.iconst 1, 1) := by decide +kernel
theorem d_Canvas_tiles_34 : decode b_Canvas_tiles 34 = .ok (.sipush 32767, 3) := by decide +kernel
theorem d_Canvas_tiles_37 : decode b_Canvas_tiles 37 = .ok (.invokestatic 83, 3) := by decide +kernel
theorem d_Canvas_tiles_40 : decode b_Canvas_tiles 40 = .ok (.ifCond .ne 13, 3) := by decide +kernel
theorem d_Canvas_tiles_43 : decode b_Canvas_tiles 43 = .ok (.new 57, 3) := by decide +kernel
theorem d_Canvas_tiles_46 : decode b_Canvas_tiles 46 = .ok (.dup, 1) := by decide +kernel
theorem d_Canvas_tiles_47 : decode b_Canvas_tiles 47 = .ok (.ldc 87, 2) := by decide +kernel
theorem d_Canvas_tiles_49 : decode b_Canvas_tiles 49 = .ok (.invokespecial 61, 3) := by decide +kernel
theorem d_Canvas_tiles_52 : decode b_Canvas_tiles 52 = .ok (.athrow, 1) := by decide +kernel
theorem d_Canvas_tiles_53 : decode b_Canvas_tiles 53 = .ok (.iload_n 1, 1) := by decide +kernel
theorem d_Canvas_tiles_54 : decode b_Canvas_tiles 54 = .ok (.iload_n 3, 1) := by decide +kernel
theorem d_Canvas_tiles_55 : decode b_Canvas_tiles 55 = .ok (.aload_n 0, 1) := by decide +kernel
theorem d_Canvas_tiles_56 : decode b_Canvas_tiles 56 = .ok (.getfield 10, 3) := by decide +kernel
theorem d_Canvas_tiles_59 : decode b_Canvas_tiles 59 = .ok (.getfield 89, 3) := by decide +kernel
theorem d_Canvas_tiles_62 : decode b_Canvas_tiles 62 = .ok (.invokestatic 92, 3) := by decide +kernel
theorem d_Canvas_tiles_65 : decode b_Canvas_tiles 65 = .ok (.ifCond .eq 19, 3) := by decide +kernel
theorem d_Canvas_tiles_68 : decode b_Canvas_tiles 68 = .ok (.iload_n 2, 1) := by decide +kernel
theorem d_Canvas_tiles_69 : decode b_Canvas_tiles 69 = .ok (.iload 4, 2) := by decide +kernel
theorem d_Canvas_tiles_71 : decode b_Canvas_tiles 71 = .ok (.aload_n 0, 1) := by decide +kernel
theorem d_Canvas_tiles_72 : decode b_Canvas_tiles 72 = .ok (.getfield 10, 3) := by decide +kernel
theorem d_Canvas_tiles_75 : decode b_Canvas_tiles 75 = .ok (.getfield 95, 3) := by decide +kernel
theorem d_Canvas_tiles_78 : decode b_Canvas_tiles 78 = .ok (.invokestatic 92, 3) := by decide +kernel
theorem d_Canvas_tiles_81 : decode b_Canvas_tiles 81 = .ok (.ifCond .ne 13, 3) := by decide +kernel
theorem d_Canvas_tiles_84 : decode b_Canvas_tiles 84 = .ok (.new 57, 3) := by decide +kernel
theorem d_Canvas_tiles_87 : decode b_Canvas_tiles 87 = .ok (.dup, 1) := by decide +kernel
theorem d_Canvas_tiles_88 : decode b_Canvas_tiles 88 = .ok (.ldc 98, 2) := by decide +kernel
theorem d_Canvas_tiles_90 : decode b_Canvas_tiles 90 = .ok (.invokespecial 61, 3) := by decide +kernel
theorem d_Canvas_tiles_93 : decode b_Canvas_tiles 93 = .ok (.athrow, 1) := by decide +kernel
theorem d_Canvas_tiles_94 : decode b_Canvas_tiles 94 = .ok (.iload_n 1, 1) := by decide +kernel
theorem d_Canvas_tiles_95 : decode b_Canvas_tiles 95 = .ok (.iload_n 3, 1) := by decide +kernel
theorem d_Canvas_tiles_96 : decode b_Canvas_tiles 96 = .ok (.aload_n 0, 1) := by decide +kernel
theorem d_Canvas_tiles_97 : decode b_Canvas_tiles 97 = .ok (.getfield 10, 3) := by decide +kernel
theorem d_Canvas_tiles_100 : decode b_Canvas_tiles 100 = .ok (.getfield 100, 3) := by decide +kernel
theorem d_Canvas_tiles_103 : decode b_Canvas_tiles 103 = .ok (.invokestatic 103, 3) := by decide +kernel
theorem d_Canvas_tiles_106 : decode b_Canvas_tiles 106 = .ok (.istore 5, 2) := by decide +kernel
theorem d_Canvas_tiles_108 : decode b_Canvas_tiles 108 = .ok (.iload_n 2, 1) := by decide +kernel
theorem d_Canvas_tiles_109 : decode b_Canvas_tiles 109 = .ok (.iload 4, 2) := by decide +kernel
theorem d_Canvas_tiles_111 : decode b_Canvas_tiles 111 = .ok (.aload_n 0, 1) := by decide +kernel
theorem d_Canvas_tiles_112 : decode b_Canvas_tiles 112 = .ok (.getfield 10, 3) := by decide +kernel
theorem d_Canvas_tiles_115 : decode b_Canvas_tiles 115 = .ok (.getfield 107, 3) := by decide +kernel
theorem d_Canvas_tiles_118 : decode b_Canvas_tiles 118 = .ok (.invokestatic 103, 3) := by decide +kernel
theorem d_Canvas_tiles_121 : decode b_Canvas_tiles 121 = .ok (.istore 6, 2) := by decide +kernel
theorem d_Canvas_tiles_123 : decode b_Canvas_tiles 123 = .ok (.iload 5, 2) := by decide +kernel
theorem d_Canvas_tiles_125 : decode b_Canvas_tiles 125 = .ok (.iload 6, 2) := by decide +kernel
theorem d_Canvas_tiles_127 : decode b_Canvas_tiles 127 = .ok (.imul, 1) := by decide +kernel
theorem d_Canvas_tiles_128 : decode b_Canvas_tiles 128 = .ok (.ldc 110, 2) := by decide +kernel
theorem d_Canvas_tiles_130 : decode b_Canvas_tiles 130 = .ok (.if_icmp .le 13, 3) := by decide +kernel
theorem d_Canvas_tiles_133 : decode b_Canvas_tiles 133 = .ok (.new 57, 3) := by decide +kernel
theorem d_Canvas_tiles_136 : decode b_Canvas_tiles 136 = .ok (.dup, 1) := by decide +kernel
theorem d_Canvas_tiles_137 : decode b_Canvas_tiles 137 = .ok (.ldc 111, 2) := by decide +kernel
theorem d_Canvas_tiles_139 : decode b_Canvas_tiles 139 = .ok (.invokespecial 61, 3) := by decide +kernel
theorem d_Canvas_tiles_142 : decode b_Canvas_tiles 142 = .ok (.athrow, 1) := by decide +kernel
theorem d_Canvas_tiles_143 : decode b_Canvas_tiles 143 = .ok (.aload_n 0, 1) := by decide +kernel
theorem d_Canvas_tiles_144 : decode b_Canvas_tiles 144 = .ok (.getfield 19, 3) := by decide +kernel
theorem d_Canvas_tiles_147 : decode b_Canvas_tiles 147 = .ok (.iload_n 1, 1) := by decide +kernel
theorem d_Canvas_tiles_148 : decode b_Canvas_tiles 148 = .ok (.iload_n 2, 1) := by decide +kernel
theorem d_Canvas_tiles_149 : decode b_Canvas_tiles 149 = .ok (.iload_n 3, 1) := by decide +kernel
theorem d_Canvas_tiles_150 : decode b_Canvas_tiles 150 = .ok (.iload 4, 2) := by decide +kernel
theorem d_Canvas_tiles_152 : decode b_Canvas_tiles 152 = .ok (.aload_n 0, 1) := by decide +kernel
theorem d_Canvas_tiles_153 : decode b_Canvas_tiles 153 = .ok (.getfield 10, 3) := by decide +kernel
theorem d_Canvas_tiles_156 : decode b_Canvas_tiles 156 = .ok (.invokevirtual 70, 3) := by decide +kernel
theorem d_Canvas_tiles_159 : decode b_Canvas_tiles 159 = .ok (.aload_n 0, 1) := by decide +kernel
theorem d_Canvas_tiles_160 : decode b_Canvas_tiles 160 = .ok (.getfield 19, 3) := by decide +kernel
theorem d_Canvas_tiles_163 : decode b_Canvas_tiles 163 = .ok (.invokevirtual 113, 3) := by decide +kernel
theorem d_Canvas_tiles_166 : decode b_Canvas_tiles 166 = .ok (.ireturn, 1) := by decide +kernel
theorem d_Canvas_component_0 : decode b_Canvas_component 0 = .ok (.iload_n 1, 1) := by decide +kernel
theorem d_Canvas_component_1 : decode b_Canvas_component 1 = .ok (.iconst 1, 1) := by decide +kernel
theorem d_Canvas_component_2 : decode b_Canvas_component 2 = .ok (.sipush 255, 3) := by decide +kernel
theorem d_Canvas_component_5 : decode b_Canvas_component 5 = .ok (.invokestatic 83, 3) := by decide +kernel
theorem d_Canvas_component_8 : decode b_Canvas_component 8 = .ok (.ifCond .eq 14, 3) := by decide +kernel
theorem d_Canvas_component_11 : decode b_Canvas_component 11 = .ok (.iload_n 2, 1) := by decide +kernel
theorem d_Canvas_component_12 : decode b_Canvas_component 12 = .ok (.iconst 1, 1) := by decide +kernel
theorem d_Canvas_component_13 : decode b_Canvas_component 13 = .ok (.sipush 255, 3) := by decide +kernel
theorem d_Canvas_component_16 : decode b_Canvas_component 16 = .ok (.invokestatic 83, 3) := by decide +kernel
theorem d_Canvas_component_19 : decode b_Canvas_component 19 = .ok (.ifCond .ne 13, 3) := by decide +kernel
theorem d_Canvas_component_22 : decode b_Canvas_component 22 = .ok (.new 57, 3) := by decide +kernel
theorem d_Canvas_component_25 : decode b_Canvas_component 25 = .ok (.dup, 1) := by decide +kernel
theorem d_Canvas_component_26 : decode b_Canvas_component 26 = .ok (.ldc 117, 2) := by decide +kernel
theorem d_Canvas_component_28 : decode b_Canvas_component 28 = .ok (.invokespecial 61, 3) := by decide +kernel
theorem d_Canvas_component_31 : decode b_Canvas_component 31 = .ok (.athrow, 1) := by decide +kernel
theorem d_Canvas_component_32 : decode b_Canvas_component 32 = .ok (.aload_n 0, 1) := by decide +kernel
theorem d_Canvas_component_33 : decode b_Canvas_component 33 = .ok (.getfield 29, 3) := by decide +kernel
theorem d_Canvas_component_36 : decode b_Canvas_component 36 = .ok (.bipush 16, 2) := by decide +kernel
theorem d_Canvas_component_38 : decode b_Canvas_component 38 = .ok (.if_icmp .lt 13, 3) := by decide +kernel
theorem d_Canvas_component_41 : decode b_Canvas_component 41 = .ok (.new 78, 3) := by decide +kernel
theorem d_Canvas_component_44 : decode b_Canvas_component 44 = .ok (.dup, 1) := by decide +kernel
theorem d_Canvas_component_45 : decode b_Canvas_component 45 = .ok (.ldc 119, 2) := by decide +kernel
theorem d_Canvas_component_47 : decode b_Canvas_component 47 = .ok (.invokespecial 82, 3) := by decide +kernel
theorem d_Canvas_component_50 : decode b_Canvas_component 50 = .ok (.athrow, 1) := by decide +kernel
theorem d_Canvas_component_51 : decode b_Canvas_component 51 = .ok (.aload_n 0, 1) := by decide +kernel
theorem d_Canvas_component_52 : decode b_Canvas_component 52 = .ok (.getfield 29, 3) := by decide +kernel
theorem d_Canvas_component_55 : decode b_Canvas_component 55 = .ok (.istore_n 3, 1) := by decide +kernel
theorem d_Canvas_component_56 : decode b_Canvas_component 56 = .ok (.aload_n 0, 1) := by decide +kernel
theorem d_Canvas_component_57 : decode b_Canvas_component 57 = .ok (.getfield 25, 3) := by decide +kernel
theorem d_Canvas_component_60 : decode b_Canvas_component 60 = .ok (.iload_n 3, 1) := by decide +kernel
theorem d_Canvas_component_61 : decode b_Canvas_component 61 = .ok (.new 23, 3) := by decide +kernel
theorem d_Canvas_component_64 : decode b_Canvas_component 64 = .ok (.dup, 1) := by decide +kernel
theorem d_Canvas_component_65 : decode b_Canvas_component 65 = .ok (.iload_n 1, 1) := by decide +kernel
theorem d_Canvas_component_66 : decode b_Canvas_component 66 = .ok (.iload_n 2, 1) := by decide +kernel
theorem d_Canvas_component_67 : decode b_Canvas_component 67 = .ok (.invokespecial 121, 3) := by decide +kernel
theorem d_Canvas_component_70 : decode b_Canvas_component 70 = .ok (.aastore, 1) := by decide +kernel
theorem d_Canvas_component_71 : decode b_Canvas_component 71 = .ok (.aload_n 0, 1) := by decide +kernel
theorem d_Canvas_component_72 : decode b_Canvas_component 72 = .ok (.iload_n 3, 1) := by decide +kernel
theorem d_Canvas_component_73 : decode b_Canvas_component 73 = .ok (.iconst 1, 1) := by decide +kernel
theorem d_Canvas_component_74 : decode b_Canvas_component 74 = .ok (.iadd, 1) := by decide +kernel
theorem d_Canvas_component_75 : decode b_Canvas_component 75 = .ok (.putfield 29, 3) := by decide +kernel
theorem d_Canvas_component_78 : decode b_Canvas_component 78 = .ok (.iload_n 3, 1) := by decide +kernel
theorem d_Canvas_component_79 : decode b_Canvas_component 79 = .ok (.ireturn, 1) := by decide +kernel
theorem d_Canvas_coding_0 : decode b_Canvas_coding 0 = .ok (.aload_n 0, 1) := by decide +kernel
theorem d_Canvas_coding_1 : decode b_Canvas_coding 1 = .ok (.iload_n 1, 1) := by decide +kernel
theorem d_Canvas_coding_2 : decode b_Canvas_coding 2 = .ok (.invokevirtual 124, 3) := by decide +kernel
theorem d_Canvas_coding_5 : decode b_Canvas_coding 5 = .ok (.astore 5, 2) := by decide +kernel
theorem d_Canvas_coding_7 : decode b_Canvas_coding 7 = .ok (.aload 5, 2) := by decide +kernel
theorem d_Canvas_coding_9 : decode b_Canvas_coding 9 = .ok (.ifnonnull 13, 3) := by decide +kernel
theorem d_Canvas_coding_12 : decode b_Canvas_coding 12 = .ok (.new 128, 3) := by decide +kernel
theorem d_Canvas_coding_15 : decode b_Canvas_coding 15 = .ok (.dup, 1) := by decide +kernel
theorem d_Canvas_coding_16 : decode b_Canvas_coding 16 = .ok (.ldc 130, 2) := by decide +kernel
theorem d_Canvas_coding_18 : decode b_Canvas_coding 18 = .ok (.invokespecial 132, 3) := by decide +kernel
theorem d_Canvas_coding_21 : decode b_Canvas_coding 21 = .ok (.athrow, 1) := by decide +kernel
theorem d_Canvas_coding_22 : decode b_Canvas_coding 22 = .ok (.iload_n 2, 1) := by decide +kernel
theorem d_Canvas_coding_23 : decode b_Canvas_coding 23 = .ok (.iconst 0, 1) := by decide +kernel
theorem d_Canvas_coding_24 : decode b_Canvas_coding 24 = .ok (.bipush 32, 2) := by decide +kernel
theorem d_Canvas_coding_26 : decode b_Canvas_coding 26 = .ok (.invokestatic 83, 3) := by decide +kernel
theorem d_Canvas_coding_29 : decode b_Canvas_coding 29 = .ok (.ifCond .ne 13, 3) := by decide +kernel
theorem d_Canvas_coding_32 : decode b_Canvas_coding 32 = .ok (.new 57, 3) := by decide +kernel
theorem d_Canvas_coding_35 : decode b_Canvas_coding 35 = .ok (.dup, 1) := by decide +kernel
theorem d_Canvas_coding_36 : decode b_Canvas_coding 36 = .ok (.ldc 133, 2) := by decide +kernel
theorem d_Canvas_coding_38 : decode b_Canvas_coding 38 = .ok (.invokespecial 61, 3) := by decide +kernel
theorem d_Canvas_coding_41 : decode b_Canvas_coding 41 = .ok (.athrow, 1) := by decide +kernel
theorem d_Canvas_coding_42 : decode b_Canvas_coding 42 = .ok (.iload_n 3, 1) := by decide +kernel
theorem d_Canvas_coding_43 : decode b_Canvas_coding 43 = .ok (.invokestatic 135, 3) := by decide +kernel
theorem d_Canvas_coding_46 : decode b_Canvas_coding 46 = .ok (.ifCond .eq 20, 3) := by decide +kernel
theorem d_Canvas_coding_49 : decode b_Canvas_coding 49 = .ok (.iload 4, 2) := by decide +kernel
theorem d_Canvas_coding_51 : decode b_Canvas_coding 51 = .ok (.invokestatic 135, 3) := by decide +kernel
theorem d_Canvas_coding_54 : decode b_Canvas_coding 54 = .ok (.ifCond .eq 12, 3) := by decide +kernel
theorem d_Canvas_coding_57 : decode b_Canvas_coding 57 = .ok (.iload_n 3, 1) := by decide +kernel
theorem d_Canvas_coding_58 : decode b_Canvas_coding 58 = .ok (.iload 4, 2) := by decide +kernel
theorem d_Canvas_coding_60 : decode b_Canvas_coding 60 = .ok (.iadd, 1) := by decide +kernel
theorem d_Canvas_coding_61 : decode b_Canvas_coding 61 = .ok (.bipush 12, 2) := by decide +kernel
theorem d_Canvas_coding_63 : decode b_Canvas_coding 63 = .ok (.if_icmp .le 13, 3) := by decide +kernel
theorem d_Canvas_coding_66 : decode b_Canvas_coding 66 = .ok (.new 57, 3) := by decide +kernel
theorem d_Canvas_coding_69 : decode b_Canvas_coding 69 = .ok (.dup, 1) := by decide +kernel
theorem d_Canvas_coding_70 : decode b_Canvas_coding 70 = .ok (.ldc 139, 2) := by decide +kernel
theorem d_Canvas_coding_72 : decode b_Canvas_coding 72 = .ok (.invokespecial 61, 3) := by decide +kernel
theorem d_Canvas_coding_75 : decode b_Canvas_coding 75 = .ok (.athrow, 1) := by decide +kernel
theorem d_Canvas_coding_76 : decode b_Canvas_coding 76 = .ok (.aload 5, 2) := by decide +kernel
theorem d_Canvas_coding_78 : decode b_Canvas_coding 78 = .ok (.iload_n 2, 1) := by decide +kernel
theorem d_Canvas_coding_79 : decode b_Canvas_coding 79 = .ok (.putfield 141, 3) := by decide +kernel
theorem d_Canvas_coding_82 : decode b_Canvas_coding 82 = .ok (.aload 5, 2) := by decide +kernel
theorem d_Canvas_coding_84 : decode b_Canvas_coding 84 = .ok (.iload_n 3, 1) := by decide +kernel
theorem d_Canvas_coding_85 : decode b_Canvas_coding 85 = .ok (.putfield 144, 3) := by decide +kernel
theorem d_Canvas_coding_88 : decode b_Canvas_coding 88 = .ok (.aload 5, 2) := by decide +kernel
theorem d_Canvas_coding_90 : decode b_Canvas_coding 90 = .ok (.iload 4, 2) := by decide +kernel
theorem d_Canvas_coding_92 : decode b_Canvas_coding 92 = .ok (.putfield 147, 3) := by decide +kernel
theorem d_Canvas_coding_95 : decode b_Canvas_coding 95 = .ok (.return_, 1) := by decide +kernel
theorem d_Canvas_precincts_0 : decode b_Canvas_precincts 0 = .ok (.aload_n 0, 1) := by decide +kernel
theorem d_Canvas_precincts_1 : decode b_Canvas_precincts 1 = .ok (.iload_n 1, 1) := by decide +kernel
theorem d_Canvas_precincts_2 : decode b_Canvas_precincts 2 = .ok (.invokevirtual 124, 3) := by decide +kernel
theorem d_Canvas_precincts_5 : decode b_Canvas_precincts 5 = .ok (.astore 5, 2) := by decide +kernel
theorem d_Canvas_precincts_7 : decode b_Canvas_precincts 7 = .ok (.aload 5, 2) := by decide +kernel
theorem d_Canvas_precincts_9 : decode b_Canvas_precincts 9 = .ok (.ifnull 13, 3) := by decide +kernel
theorem d_Canvas_precincts_12 : decode b_Canvas_precincts 12 = .ok (.iload_n 2, 1) := by decide +kernel
theorem d_Canvas_precincts_13 : decode b_Canvas_precincts 13 = .ok (.iconst 0, 1) := by decide +kernel
theorem d_Canvas_precincts_14 : decode b_Canvas_precincts 14 = .ok (.bipush 32, 2) := by decide +kernel
theorem d_Canvas_precincts_16 : decode b_Canvas_precincts 16 = .ok (.invokestatic 83, 3) := by decide +kernel
theorem d_Canvas_precincts_19 : decode b_Canvas_precincts 19 = .ok (.ifCond .ne 13, 3) := by decide +kernel
theorem d_Canvas_precincts_22 : decode b_Canvas_precincts 22 = .ok (.new 128, 3) := by decide +kernel
theorem d_Canvas_precincts_25 : decode b_Canvas_precincts 25 = .ok (.dup, 1) := by decide +kernel
theorem d_Canvas_precincts_26 : decode b_Canvas_precincts 26 = .ok (.ldc 150, 2) := by decide +kernel
theorem d_Canvas_precincts_28 : decode b_Canvas_precincts 28 = .ok (.invokespecial 132, 3) := by decide +kernel
theorem d_Canvas_precincts_31 : decode b_Canvas_precincts 31 = .ok (.athrow, 1) := by decide +kernel
theorem d_Canvas_precincts_32 : decode b_Canvas_precincts 32 = .ok (.iload_n 2, 1) := by decide +kernel
theorem d_Canvas_precincts_33 : decode b_Canvas_precincts 33 = .ok (.ifCond .ne 7, 3) := by decide +kernel
theorem d_Canvas_precincts_36 : decode b_Canvas_precincts 36 = .ok (.iconst 0, 1) := by decide +kernel
theorem d_Canvas_precincts_37 : decode b_Canvas_precincts 37 = .ok (.goto 4, 3) := by decide +kernel
theorem d_Canvas_precincts_40 : decode b_Canvas_precincts 40 = .ok (.iconst 1, 1) := by decide +kernel
theorem d_Canvas_precincts_41 : decode b_Canvas_precincts 41 = .ok (.istore 6, 2) := by decide +kernel
theorem d_Canvas_precincts_43 : decode b_Canvas_precincts 43 = .ok (.iload_n 3, 1) := by decide +kernel
theorem d_Canvas_precincts_44 : decode b_Canvas_precincts 44 = .ok (.iload 6, 2) := by decide +kernel
theorem d_Canvas_precincts_46 : decode b_Canvas_precincts 46 = .ok (.bipush 15, 2) := by decide +kernel
theorem d_Canvas_precincts_48 : decode b_Canvas_precincts 48 = .ok (.invokestatic 83, 3) := by decide +kernel
theorem d_Canvas_precincts_51 : decode b_Canvas_precincts 51 = .ok (.ifCond .eq 15, 3) := by decide +kernel
theorem d_Canvas_precincts_54 : decode b_Canvas_precincts 54 = .ok (.iload 4, 2) := by decide +kernel
theorem d_Canvas_precincts_56 : decode b_Canvas_precincts 56 = .ok (.iload 6, 2) := by decide +kernel
theorem d_Canvas_precincts_58 : decode b_Canvas_precincts 58 = .ok (.bipush 15, 2) := by decide +kernel
theorem d_Canvas_precincts_60 : decode b_Canvas_precincts 60 = .ok (.invokestatic 83, 3) := by decide +kernel
theorem d_Canvas_precincts_63 : decode b_Canvas_precincts 63 = .ok (.ifCond .ne 13, 3) := by decide +kernel
theorem d_Canvas_precincts_66 : decode b_Canvas_precincts 66 = .ok (.new 57, 3) := by decide +kernel
theorem d_Canvas_precincts_69 : decode b_Canvas_precincts 69 = .ok (.dup, 1) := by decide +kernel
theorem d_Canvas_precincts_70 : decode b_Canvas_precincts 70 = .ok (.ldc 152, 2) := by decide +kernel
theorem d_Canvas_precincts_72 : decode b_Canvas_precincts 72 = .ok (.invokespecial 61, 3) := by decide +kernel
theorem d_Canvas_precincts_75 : decode b_Canvas_precincts 75 = .ok (.athrow, 1) := by decide +kernel
theorem d_Canvas_precincts_76 : decode b_Canvas_precincts 76 = .ok (.aload 5, 2) := by decide +kernel
theorem d_Canvas_precincts_78 : decode b_Canvas_precincts 78 = .ok (.getfield 154, 3) := by decide +kernel
theorem d_Canvas_precincts_81 : decode b_Canvas_precincts 81 = .ok (.iload_n 2, 1) := by decide +kernel
theorem d_Canvas_precincts_82 : decode b_Canvas_precincts 82 = .ok (.iload_n 3, 1) := by decide +kernel
theorem d_Canvas_precincts_83 : decode b_Canvas_precincts 83 = .ok (.iastore, 1) := by decide +kernel
theorem d_Canvas_precincts_84 : decode b_Canvas_precincts 84 = .ok (.aload 5, 2) := by decide +kernel
theorem d_Canvas_precincts_86 : decode b_Canvas_precincts 86 = .ok (.getfield 158, 3) := by decide +kernel
theorem d_Canvas_precincts_89 : decode b_Canvas_precincts 89 = .ok (.iload_n 2, 1) := by decide +kernel
theorem d_Canvas_precincts_90 : decode b_Canvas_precincts 90 = .ok (.iload 4, 2) := by decide +kernel
theorem d_Canvas_precincts_92 : decode b_Canvas_precincts 92 = .ok (.iastore, 1) := by decide +kernel
theorem d_Canvas_precincts_93 : decode b_Canvas_precincts 93 = .ok (.return_, 1) := by decide +kernel
theorem d_Canvas_tile_0 : decode b_Canvas_tile 0 = .ok (.iload_n 2, 1) := by decide +kernel
theorem d_Canvas_tile_1 : decode b_Canvas_tile 1 = .ok (.iconst 0, 1) := by decide +kernel
theorem d_Canvas_tile_2 : decode b_Canvas_tile 2 = .ok (.iconst 3, 1) := by decide +kernel
theorem d_Canvas_tile_3 : decode b_Canvas_tile 3 = .ok (.invokestatic 83, 3) := by decide +kernel
theorem d_Canvas_tile_6 : decode b_Canvas_tile 6 = .ok (.ifCond .eq 11, 3) := by decide +kernel
theorem d_Canvas_tile_9 : decode b_Canvas_tile 9 = .ok (.aload_n 0, 1) := by decide +kernel
theorem d_Canvas_tile_10 : decode b_Canvas_tile 10 = .ok (.iload_n 1, 1) := by decide +kernel
theorem d_Canvas_tile_11 : decode b_Canvas_tile 11 = .ok (.invokevirtual 161, 3) := by decide +kernel
theorem d_Canvas_tile_14 : decode b_Canvas_tile 14 = .ok (.ifCond .ne 13, 3) := by decide +kernel
theorem d_Canvas_tile_17 : decode b_Canvas_tile 17 = .ok (.new 128, 3) := by decide +kernel
theorem d_Canvas_tile_20 : decode b_Canvas_tile 20 = .ok (.dup, 1) := by decide +kernel
theorem d_Canvas_tile_21 : decode b_Canvas_tile 21 = .ok (.ldc 164, 2) := by decide +kernel
theorem d_Canvas_tile_23 : decode b_Canvas_tile 23 = .ok (.invokespecial 132, 3) := by decide +kernel
theorem d_Canvas_tile_26 : decode b_Canvas_tile 26 = .ok (.athrow, 1) := by decide +kernel
theorem d_Canvas_tile_27 : decode b_Canvas_tile 27 = .ok (.aload_n 0, 1) := by decide +kernel
theorem d_Canvas_tile_28 : decode b_Canvas_tile 28 = .ok (.getfield 33, 3) := by decide +kernel
theorem d_Canvas_tile_31 : decode b_Canvas_tile 31 = .ok (.iload_n 2, 1) := by decide +kernel
theorem d_Canvas_tile_32 : decode b_Canvas_tile 32 = .ok (.invokevirtual 166, 3) := by decide +kernel
theorem d_Canvas_tile_35 : decode b_Canvas_tile 35 = .ok (.ireturn, 1) := by decide +kernel
theorem d_Canvas_part_0 : decode b_Canvas_part 0 = .ok (.aload_n 0, 1) := by decide +kernel
theorem d_Canvas_part_1 : decode b_Canvas_part 1 = .ok (.iload_n 2, 1) := by decide +kernel
theorem d_Canvas_part_2 : decode b_Canvas_part 2 = .ok (.invokevirtual 124, 3) := by decide +kernel
theorem d_Canvas_part_5 : decode b_Canvas_part 5 = .ok (.astore 4, 2) := by decide +kernel
theorem d_Canvas_part_7 : decode b_Canvas_part 7 = .ok (.aload 4, 2) := by decide +kernel
theorem d_Canvas_part_9 : decode b_Canvas_part 9 = .ok (.ifnull 22, 3) := by decide +kernel
theorem d_Canvas_part_12 : decode b_Canvas_part 12 = .ok (.iload_n 3, 1) := by decide +kernel
theorem d_Canvas_part_13 : decode b_Canvas_part 13 = .ok (.iconst 0, 1) := by decide +kernel
theorem d_Canvas_part_14 : decode b_Canvas_part 14 = .ok (.iconst 4, 1) := by decide +kernel
theorem d_Canvas_part_15 : decode b_Canvas_part 15 = .ok (.invokestatic 83, 3) := by decide +kernel
theorem d_Canvas_part_18 : decode b_Canvas_part 18 = .ok (.ifCond .eq 13, 3) := by decide +kernel
theorem d_Canvas_part_21 : decode b_Canvas_part 21 = .ok (.aload_n 0, 1) := by decide +kernel
theorem d_Canvas_part_22 : decode b_Canvas_part 22 = .ok (.iload_n 1, 1) := by decide +kernel
theorem d_Canvas_part_23 : decode b_Canvas_part 23 = .ok (.aload 4, 2) := by decide +kernel
theorem d_Canvas_part_25 : decode b_Canvas_part 25 = .ok (.invokevirtual 170, 3) := by decide +kernel
theorem d_Canvas_part_28 : decode b_Canvas_part 28 = .ok (.ifCond .ne 13, 3) := by decide +kernel
theorem d_Canvas_part_31 : decode b_Canvas_part 31 = .ok (.new 128, 3) := by decide +kernel
theorem d_Canvas_part_34 : decode b_Canvas_part 34 = .ok (.dup, 1) := by decide +kernel
theorem d_Canvas_part_35 : decode b_Canvas_part 35 = .ok (.ldc 174, 2) := by decide +kernel
theorem d_Canvas_part_37 : decode b_Canvas_part 37 = .ok (.invokespecial 132, 3) := by decide +kernel
theorem d_Canvas_part_40 : decode b_Canvas_part 40 = .ok (.athrow, 1) := by decide +kernel
theorem d_Canvas_part_41 : decode b_Canvas_part 41 = .ok (.iload_n 3, 1) := by decide +kernel
theorem d_Canvas_part_42 : decode b_Canvas_part 42 = .ok (.iconst 4, 1) := by decide +kernel
theorem d_Canvas_part_43 : decode b_Canvas_part 43 = .ok (.if_icmp .ne 12, 3) := by decide +kernel
theorem d_Canvas_part_46 : decode b_Canvas_part 46 = .ok (.aload_n 0, 1) := by decide +kernel
theorem d_Canvas_part_47 : decode b_Canvas_part 47 = .ok (.aload 4, 2) := by decide +kernel
theorem d_Canvas_part_49 : decode b_Canvas_part 49 = .ok (.invokevirtual 176, 3) := by decide +kernel
theorem d_Canvas_part_52 : decode b_Canvas_part 52 = .ok (.goto 11, 3) := by decide +kernel
theorem d_Canvas_part_55 : decode b_Canvas_part 55 = .ok (.aload_n 0, 1) := by decide +kernel
theorem d_Canvas_part_56 : decode b_Canvas_part 56 = .ok (.getfield 36, 3) := by decide +kernel
theorem d_Canvas_part_59 : decode b_Canvas_part 59 = .ok (.iload_n 3, 1) := by decide +kernel
theorem d_Canvas_part_60 : decode b_Canvas_part 60 = .ok (.invokevirtual 166, 3) := by decide +kernel
theorem d_Canvas_part_63 : decode b_Canvas_part 63 = .ok (.ireturn, 1) := by decide +kernel
theorem d_Canvas_level_0 : decode b_Canvas_level 0 = .ok (.aload_n 0, 1) := by decide +kernel
theorem d_Canvas_level_1 : decode b_Canvas_level 1 = .ok (.iload_n 2, 1) := by decide +kernel
theorem d_Canvas_level_2 : decode b_Canvas_level 2 = .ok (.invokevirtual 124, 3) := by decide +kernel
theorem d_Canvas_level_5 : decode b_Canvas_level 5 = .ok (.astore 5, 2) := by decide +kernel
theorem d_Canvas_level_7 : decode b_Canvas_level 7 = .ok (.aload 5, 2) := by decide +kernel
theorem d_Canvas_level_9 : decode b_Canvas_level 9 = .ok (.ifnull 33, 3) := by decide +kernel
theorem d_Canvas_level_12 : decode b_Canvas_level 12 = .ok (.iload 4, 2) := by decide +kernel
theorem d_Canvas_level_14 : decode b_Canvas_level 14 = .ok (.iconst 0, 1) := by decide +kernel
theorem d_Canvas_level_15 : decode b_Canvas_level 15 = .ok (.iconst 5, 1) := by decide +kernel
theorem d_Canvas_level_16 : decode b_Canvas_level 16 = .ok (.invokestatic 83, 3) := by decide +kernel
theorem d_Canvas_level_19 : decode b_Canvas_level 19 = .ok (.ifCond .eq 23, 3) := by decide +kernel
theorem d_Canvas_level_22 : decode b_Canvas_level 22 = .ok (.aload_n 0, 1) := by decide +kernel
theorem d_Canvas_level_23 : decode b_Canvas_level 23 = .ok (.iload_n 1, 1) := by decide +kernel
theorem d_Canvas_level_24 : decode b_Canvas_level 24 = .ok (.aload 5, 2) := by decide +kernel
theorem d_Canvas_level_26 : decode b_Canvas_level 26 = .ok (.invokevirtual 170, 3) := by decide +kernel
theorem d_Canvas_level_29 : decode b_Canvas_level 29 = .ok (.ifCond .eq 13, 3) := by decide +kernel
theorem d_Canvas_level_32 : decode b_Canvas_level 32 = .ok (.aload_n 0, 1) := by decide +kernel
theorem d_Canvas_level_33 : decode b_Canvas_level 33 = .ok (.aload 5, 2) := by decide +kernel
theorem d_Canvas_level_35 : decode b_Canvas_level 35 = .ok (.iload_n 3, 1) := by decide +kernel
theorem d_Canvas_level_36 : decode b_Canvas_level 36 = .ok (.invokevirtual 180, 3) := by decide +kernel
theorem d_Canvas_level_39 : decode b_Canvas_level 39 = .ok (.ifCond .ne 13, 3) := by decide +kernel
theorem d_Canvas_level_42 : decode b_Canvas_level 42 = .ok (.new 128, 3) := by decide +kernel
theorem d_Canvas_level_45 : decode b_Canvas_level 45 = .ok (.dup, 1) := by decide +kernel
theorem d_Canvas_level_46 : decode b_Canvas_level 46 = .ok (.ldc 184, 2) := by decide +kernel
theorem d_Canvas_level_48 : decode b_Canvas_level 48 = .ok (.invokespecial 132, 3) := by decide +kernel
theorem d_Canvas_level_51 : decode b_Canvas_level 51 = .ok (.athrow, 1) := by decide +kernel
theorem d_Canvas_level_52 : decode b_Canvas_level 52 = .ok (.aload_n 0, 1) := by decide +kernel
theorem d_Canvas_level_53 : decode b_Canvas_level 53 = .ok (.getfield 39, 3) := by decide +kernel
theorem d_Canvas_level_56 : decode b_Canvas_level 56 = .ok (.aload_n 0, 1) := by decide +kernel
theorem d_Canvas_level_57 : decode b_Canvas_level 57 = .ok (.getfield 51, 3) := by decide +kernel
theorem d_Canvas_level_60 : decode b_Canvas_level 60 = .ok (.iload 4, 2) := by decide +kernel
theorem d_Canvas_level_62 : decode b_Canvas_level 62 = .ok (.invokestatic 186, 3) := by decide +kernel
theorem d_Canvas_level_65 : decode b_Canvas_level 65 = .ok (.ireturn, 1) := by decide +kernel
theorem d_Canvas_band_0 : decode b_Canvas_band 0 = .ok (.aload_n 0, 1) := by decide +kernel
theorem d_Canvas_band_1 : decode b_Canvas_band 1 = .ok (.iload_n 2, 1) := by decide +kernel
theorem d_Canvas_band_2 : decode b_Canvas_band 2 = .ok (.invokevirtual 124, 3) := by decide +kernel
theorem d_Canvas_band_5 : decode b_Canvas_band 5 = .ok (.astore 6, 2) := by decide +kernel
theorem d_Canvas_band_7 : decode b_Canvas_band 7 = .ok (.aload 6, 2) := by decide +kernel
theorem d_Canvas_band_9 : decode b_Canvas_band 9 = .ok (.ifnull 35, 3) := by decide +kernel
theorem d_Canvas_band_12 : decode b_Canvas_band 12 = .ok (.iload 5, 2) := by decide +kernel
theorem d_Canvas_band_14 : decode b_Canvas_band 14 = .ok (.iconst 0, 1) := by decide +kernel
theorem d_Canvas_band_15 : decode b_Canvas_band 15 = .ok (.iconst 5, 1) := by decide +kernel
theorem d_Canvas_band_16 : decode b_Canvas_band 16 = .ok (.invokestatic 83, 3) := by decide +kernel
theorem d_Canvas_band_19 : decode b_Canvas_band 19 = .ok (.ifCond .eq 25, 3) := by decide +kernel
theorem d_Canvas_band_22 : decode b_Canvas_band 22 = .ok (.aload_n 0, 1) := by decide +kernel
theorem d_Canvas_band_23 : decode b_Canvas_band 23 = .ok (.iload_n 1, 1) := by decide +kernel
theorem d_Canvas_band_24 : decode b_Canvas_band 24 = .ok (.aload 6, 2) := by decide +kernel
theorem d_Canvas_band_26 : decode b_Canvas_band 26 = .ok (.invokevirtual 170, 3) := by decide +kernel
theorem d_Canvas_band_29 : decode b_Canvas_band 29 = .ok (.ifCond .eq 15, 3) := by decide +kernel
theorem d_Canvas_band_32 : decode b_Canvas_band 32 = .ok (.aload_n 0, 1) := by decide +kernel
theorem d_Canvas_band_33 : decode b_Canvas_band 33 = .ok (.aload 6, 2) := by decide +kernel
theorem d_Canvas_band_35 : decode b_Canvas_band 35 = .ok (.iload_n 3, 1) := by decide +kernel
theorem d_Canvas_band_36 : decode b_Canvas_band 36 = .ok (.iload 4, 2) := by decide +kernel
theorem d_Canvas_band_38 : decode b_Canvas_band 38 = .ok (.invokevirtual 190, 3) := by decide +kernel
theorem d_Canvas_band_41 : decode b_Canvas_band 41 = .ok (.ifCond .ne 13, 3) := by decide +kernel
theorem d_Canvas_band_44 : decode b_Canvas_band 44 = .ok (.new 128, 3) := by decide +kernel
theorem d_Canvas_band_47 : decode b_Canvas_band 47 = .ok (.dup, 1) := by decide +kernel
theorem d_Canvas_band_48 : decode b_Canvas_band 48 = .ok (.ldc 194, 2) := by decide +kernel
theorem d_Canvas_band_50 : decode b_Canvas_band 50 = .ok (.invokespecial 132, 3) := by decide +kernel
theorem d_Canvas_band_53 : decode b_Canvas_band 53 = .ok (.athrow, 1) := by decide +kernel
theorem d_Canvas_band_54 : decode b_Canvas_band 54 = .ok (.iload 5, 2) := by decide +kernel
theorem d_Canvas_band_56 : decode b_Canvas_band 56 = .ok (.iconst 3, 1) := by decide +kernel
theorem d_Canvas_band_57 : decode b_Canvas_band 57 = .ok (.if_icmp .gt 13, 3) := by decide +kernel
theorem d_Canvas_band_60 : decode b_Canvas_band 60 = .ok (.aload_n 0, 1) := by decide +kernel
theorem d_Canvas_band_61 : decode b_Canvas_band 61 = .ok (.getfield 42, 3) := by decide +kernel
theorem d_Canvas_band_64 : decode b_Canvas_band 64 = .ok (.iload 5, 2) := by decide +kernel
theorem d_Canvas_band_66 : decode b_Canvas_band 66 = .ok (.invokevirtual 166, 3) := by decide +kernel
theorem d_Canvas_band_69 : decode b_Canvas_band 69 = .ok (.ireturn, 1) := by decide +kernel
theorem d_Canvas_band_70 : decode b_Canvas_band 70 = .ok (.iload 5, 2) := by decide +kernel
theorem d_Canvas_band_72 : decode b_Canvas_band 72 = .ok (.iconst 4, 1) := by decide +kernel
theorem d_Canvas_band_73 : decode b_Canvas_band 73 = .ok (.if_icmp .ne 12, 3) := by decide +kernel
theorem d_Canvas_band_76 : decode b_Canvas_band 76 = .ok (.aload 6, 2) := by decide +kernel
theorem d_Canvas_band_78 : decode b_Canvas_band 78 = .ok (.iload_n 3, 1) := by decide +kernel
theorem d_Canvas_band_79 : decode b_Canvas_band 79 = .ok (.invokevirtual 196, 3) := by decide +kernel
theorem d_Canvas_band_82 : decode b_Canvas_band 82 = .ok (.goto 9, 3) := by decide +kernel
theorem d_Canvas_band_85 : decode b_Canvas_band 85 = .ok (.aload 6, 2) := by decide +kernel
theorem d_Canvas_band_87 : decode b_Canvas_band 87 = .ok (.iload_n 3, 1) := by decide +kernel
theorem d_Canvas_band_88 : decode b_Canvas_band 88 = .ok (.invokevirtual 199, 3) := by decide +kernel
theorem d_Canvas_band_91 : decode b_Canvas_band 91 = .ok (.ireturn, 1) := by decide +kernel
theorem d_Canvas_precinct_0 : decode b_Canvas_precinct 0 = .ok (.aload_n 0, 1) := by decide +kernel
theorem d_Canvas_precinct_1 : decode b_Canvas_precinct 1 = .ok (.iload_n 2, 1) := by decide +kernel
theorem d_Canvas_precinct_2 : decode b_Canvas_precinct 2 = .ok (.invokevirtual 124, 3) := by decide +kernel
theorem d_Canvas_precinct_5 : decode b_Canvas_precinct 5 = .ok (.astore 6, 2) := by decide +kernel
theorem d_Canvas_precinct_7 : decode b_Canvas_precinct 7 = .ok (.aload 6, 2) := by decide +kernel
theorem d_Canvas_precinct_9 : decode b_Canvas_precinct 9 = .ok (.ifnull 45, 3) := by decide +kernel
theorem d_Canvas_precinct_12 : decode b_Canvas_precinct 12 = .ok (.iload 5, 2) := by decide +kernel
theorem d_Canvas_precinct_14 : decode b_Canvas_precinct 14 = .ok (.iconst 0, 1) := by decide +kernel
theorem d_Canvas_precinct_15 : decode b_Canvas_precinct 15 = .ok (.iconst 3, 1) := by decide +kernel
theorem d_Canvas_precinct_16 : decode b_Canvas_precinct 16 = .ok (.invokestatic 83, 3) := by decide +kernel
theorem d_Canvas_precinct_19 : decode b_Canvas_precinct 19 = .ok (.ifCond .eq 35, 3) := by decide +kernel
theorem d_Canvas_precinct_22 : decode b_Canvas_precinct 22 = .ok (.aload_n 0, 1) := by decide +kernel
theorem d_Canvas_precinct_23 : decode b_Canvas_precinct 23 = .ok (.iload_n 1, 1) := by decide +kernel
theorem d_Canvas_precinct_24 : decode b_Canvas_precinct 24 = .ok (.aload 6, 2) := by decide +kernel
theorem d_Canvas_precinct_26 : decode b_Canvas_precinct 26 = .ok (.invokevirtual 170, 3) := by decide +kernel
theorem d_Canvas_precinct_29 : decode b_Canvas_precinct 29 = .ok (.ifCond .eq 25, 3) := by decide +kernel
theorem d_Canvas_precinct_32 : decode b_Canvas_precinct 32 = .ok (.aload_n 0, 1) := by decide +kernel
theorem d_Canvas_precinct_33 : decode b_Canvas_precinct 33 = .ok (.aload 6, 2) := by decide +kernel
theorem d_Canvas_precinct_35 : decode b_Canvas_precinct 35 = .ok (.iload_n 3, 1) := by decide +kernel
theorem d_Canvas_precinct_36 : decode b_Canvas_precinct 36 = .ok (.invokevirtual 180, 3) := by decide +kernel
theorem d_Canvas_precinct_39 : decode b_Canvas_precinct 39 = .ok (.ifCond .eq 15, 3) := by decide +kernel
theorem d_Canvas_precinct_42 : decode b_Canvas_precinct 42 = .ok (.aload_n 0, 1) := by decide +kernel
theorem d_Canvas_precinct_43 : decode b_Canvas_precinct 43 = .ok (.getfield 51, 3) := by decide +kernel
theorem d_Canvas_precinct_46 : decode b_Canvas_precinct 46 = .ok (.iload 4, 2) := by decide +kernel
theorem d_Canvas_precinct_48 : decode b_Canvas_precinct 48 = .ok (.invokevirtual 202, 3) := by decide +kernel
theorem d_Canvas_precinct_51 : decode b_Canvas_precinct 51 = .ok (.ifCond .ne 13, 3) := by decide +kernel
theorem d_Canvas_precinct_54 : decode b_Canvas_precinct 54 = .ok (.new 128, 3) := by decide +kernel
theorem d_Canvas_precinct_57 : decode b_Canvas_precinct 57 = .ok (.dup, 1) := by decide +kernel
theorem d_Canvas_precinct_58 : decode b_Canvas_precinct 58 = .ok (.ldc 205, 2) := by decide +kernel
theorem d_Canvas_precinct_60 : decode b_Canvas_precinct 60 = .ok (.invokespecial 132, 3) := by decide +kernel
theorem d_Canvas_precinct_63 : decode b_Canvas_precinct 63 = .ok (.athrow, 1) := by decide +kernel
theorem d_Canvas_precinct_64 : decode b_Canvas_precinct 64 = .ok (.aload_n 0, 1) := by decide +kernel
theorem d_Canvas_precinct_65 : decode b_Canvas_precinct 65 = .ok (.getfield 45, 3) := by decide +kernel
theorem d_Canvas_precinct_68 : decode b_Canvas_precinct 68 = .ok (.aload_n 0, 1) := by decide +kernel
theorem d_Canvas_precinct_69 : decode b_Canvas_precinct 69 = .ok (.getfield 39, 3) := by decide +kernel
theorem d_Canvas_precinct_72 : decode b_Canvas_precinct 72 = .ok (.aload_n 0, 1) := by decide +kernel
theorem d_Canvas_precinct_73 : decode b_Canvas_precinct 73 = .ok (.getfield 51, 3) := by decide +kernel
theorem d_Canvas_precinct_76 : decode b_Canvas_precinct 76 = .ok (.iload 4, 2) := by decide +kernel
theorem d_Canvas_precinct_78 : decode b_Canvas_precinct 78 = .ok (.invokevirtual 207, 3) := by decide +kernel
theorem d_Canvas_precinct_81 : decode b_Canvas_precinct 81 = .ok (.aload_n 0, 1) := by decide +kernel
theorem d_Canvas_precinct_82 : decode b_Canvas_precinct 82 = .ok (.getfield 45, 3) := by decide +kernel
theorem d_Canvas_precinct_85 : decode b_Canvas_precinct 85 = .ok (.iload 5, 2) := by decide +kernel
theorem d_Canvas_precinct_87 : decode b_Canvas_precinct 87 = .ok (.invokevirtual 166, 3) := by decide +kernel
theorem d_Canvas_precinct_90 : decode b_Canvas_precinct 90 = .ok (.ireturn, 1) := by decide +kernel
theorem d_Canvas_share_0 : decode b_Canvas_share 0 = .ok (.aload_n 0, 1) := by decide +kernel
theorem d_Canvas_share_1 : decode b_Canvas_share 1 = .ok (.iload_n 2, 1) := by decide +kernel
theorem d_Canvas_share_2 : decode b_Canvas_share 2 = .ok (.invokevirtual 124, 3) := by decide +kernel
theorem d_Canvas_share_5 : decode b_Canvas_share 5 = .ok (.astore 7, 2) := by decide +kernel
theorem d_Canvas_share_7 : decode b_Canvas_share 7 = .ok (.aload 7, 2) := by decide +kernel
theorem d_Canvas_share_9 : decode b_Canvas_share 9 = .ok (.ifnull 37, 3) := by decide +kernel
theorem d_Canvas_share_12 : decode b_Canvas_share 12 = .ok (.iload 6, 2) := by decide +kernel
theorem d_Canvas_share_14 : decode b_Canvas_share 14 = .ok (.iconst 0, 1) := by decide +kernel
theorem d_Canvas_share_15 : decode b_Canvas_share 15 = .ok (.iconst 5, 1) := by decide +kernel
theorem d_Canvas_share_16 : decode b_Canvas_share 16 = .ok (.invokestatic 83, 3) := by decide +kernel
theorem d_Canvas_share_19 : decode b_Canvas_share 19 = .ok (.ifCond .eq 27, 3) := by decide +kernel
theorem d_Canvas_share_22 : decode b_Canvas_share 22 = .ok (.aload_n 0, 1) := by decide +kernel
theorem d_Canvas_share_23 : decode b_Canvas_share 23 = .ok (.iload_n 1, 1) := by decide +kernel
theorem d_Canvas_share_24 : decode b_Canvas_share 24 = .ok (.aload 7, 2) := by decide +kernel
theorem d_Canvas_share_26 : decode b_Canvas_share 26 = .ok (.invokevirtual 170, 3) := by decide +kernel
theorem d_Canvas_share_29 : decode b_Canvas_share 29 = .ok (.ifCond .eq 17, 3) := by decide +kernel
theorem d_Canvas_share_32 : decode b_Canvas_share 32 = .ok (.aload_n 0, 1) := by decide +kernel
theorem d_Canvas_share_33 : decode b_Canvas_share 33 = .ok (.aload 7, 2) := by decide +kernel
theorem d_Canvas_share_35 : decode b_Canvas_share 35 = .ok (.iload_n 3, 1) := by decide +kernel
theorem d_Canvas_share_36 : decode b_Canvas_share 36 = .ok (.iload 4, 2) := by decide +kernel
theorem d_Canvas_share_38 : decode b_Canvas_share 38 = .ok (.iload 5, 2) := by decide +kernel
theorem d_Canvas_share_40 : decode b_Canvas_share 40 = .ok (.invokevirtual 211, 3) := by decide +kernel
theorem d_Canvas_share_43 : decode b_Canvas_share 43 = .ok (.ifCond .ne 13, 3) := by decide +kernel
theorem d_Canvas_share_46 : decode b_Canvas_share 46 = .ok (.new 128, 3) := by decide +kernel
theorem d_Canvas_share_49 : decode b_Canvas_share 49 = .ok (.dup, 1) := by decide +kernel
theorem d_Canvas_share_50 : decode b_Canvas_share 50 = .ok (.ldc 215, 2) := by decide +kernel
theorem d_Canvas_share_52 : decode b_Canvas_share 52 = .ok (.invokespecial 132, 3) := by decide +kernel
theorem d_Canvas_share_55 : decode b_Canvas_share 55 = .ok (.athrow, 1) := by decide +kernel
theorem d_Canvas_share_56 : decode b_Canvas_share 56 = .ok (.aload_n 0, 1) := by decide +kernel
theorem d_Canvas_share_57 : decode b_Canvas_share 57 = .ok (.getfield 48, 3) := by decide +kernel
theorem d_Canvas_share_60 : decode b_Canvas_share 60 = .ok (.aload_n 0, 1) := by decide +kernel
theorem d_Canvas_share_61 : decode b_Canvas_share 61 = .ok (.getfield 54, 3) := by decide +kernel
theorem d_Canvas_share_64 : decode b_Canvas_share 64 = .ok (.iload 6, 2) := by decide +kernel
theorem d_Canvas_share_66 : decode b_Canvas_share 66 = .ok (.invokestatic 186, 3) := by decide +kernel
theorem d_Canvas_share_69 : decode b_Canvas_share 69 = .ok (.ireturn, 1) := by decide +kernel
theorem d_Canvas_block_0 : decode b_Canvas_block 0 = .ok (.aload_n 0, 1) := by decide +kernel
theorem d_Canvas_block_1 : decode b_Canvas_block 1 = .ok (.iload_n 2, 1) := by decide +kernel
theorem d_Canvas_block_2 : decode b_Canvas_block 2 = .ok (.invokevirtual 124, 3) := by decide +kernel
theorem d_Canvas_block_5 : decode b_Canvas_block 5 = .ok (.astore 8, 2) := by decide +kernel
theorem d_Canvas_block_7 : decode b_Canvas_block 7 = .ok (.aload 8, 2) := by decide +kernel
theorem d_Canvas_block_9 : decode b_Canvas_block 9 = .ok (.ifnull 49, 3) := by decide +kernel
theorem d_Canvas_block_12 : decode b_Canvas_block 12 = .ok (.iload 7, 2) := by decide +kernel
theorem d_Canvas_block_14 : decode b_Canvas_block 14 = .ok (.iconst 0, 1) := by decide +kernel
theorem d_Canvas_block_15 : decode b_Canvas_block 15 = .ok (.iconst 3, 1) := by decide +kernel
theorem d_Canvas_block_16 : decode b_Canvas_block 16 = .ok (.invokestatic 83, 3) := by decide +kernel
theorem d_Canvas_block_19 : decode b_Canvas_block 19 = .ok (.ifCond .eq 39, 3) := by decide +kernel
theorem d_Canvas_block_22 : decode b_Canvas_block 22 = .ok (.aload_n 0, 1) := by decide +kernel
theorem d_Canvas_block_23 : decode b_Canvas_block 23 = .ok (.iload_n 1, 1) := by decide +kernel
theorem d_Canvas_block_24 : decode b_Canvas_block 24 = .ok (.aload 8, 2) := by decide +kernel
theorem d_Canvas_block_26 : decode b_Canvas_block 26 = .ok (.invokevirtual 170, 3) := by decide +kernel
theorem d_Canvas_block_29 : decode b_Canvas_block 29 = .ok (.ifCond .eq 29, 3) := by decide +kernel
theorem d_Canvas_block_32 : decode b_Canvas_block 32 = .ok (.aload_n 0, 1) := by decide +kernel
theorem d_Canvas_block_33 : decode b_Canvas_block 33 = .ok (.aload 8, 2) := by decide +kernel
theorem d_Canvas_block_35 : decode b_Canvas_block 35 = .ok (.iload_n 3, 1) := by decide +kernel
theorem d_Canvas_block_36 : decode b_Canvas_block 36 = .ok (.iload 4, 2) := by decide +kernel
theorem d_Canvas_block_38 : decode b_Canvas_block 38 = .ok (.iload 5, 2) := by decide +kernel
theorem d_Canvas_block_40 : decode b_Canvas_block 40 = .ok (.invokevirtual 211, 3) := by decide +kernel
theorem d_Canvas_block_43 : decode b_Canvas_block 43 = .ok (.ifCond .eq 15, 3) := by decide +kernel
theorem d_Canvas_block_46 : decode b_Canvas_block 46 = .ok (.aload_n 0, 1) := by decide +kernel
theorem d_Canvas_block_47 : decode b_Canvas_block 47 = .ok (.getfield 54, 3) := by decide +kernel
theorem d_Canvas_block_50 : decode b_Canvas_block 50 = .ok (.iload 6, 2) := by decide +kernel
theorem d_Canvas_block_52 : decode b_Canvas_block 52 = .ok (.invokevirtual 202, 3) := by decide +kernel
theorem d_Canvas_block_55 : decode b_Canvas_block 55 = .ok (.ifCond .ne 13, 3) := by decide +kernel
theorem d_Canvas_block_58 : decode b_Canvas_block 58 = .ok (.new 128, 3) := by decide +kernel
theorem d_Canvas_block_61 : decode b_Canvas_block 61 = .ok (.dup, 1) := by decide +kernel
theorem d_Canvas_block_62 : decode b_Canvas_block 62 = .ok (.ldc 217, 2) := by decide +kernel
theorem d_Canvas_block_64 : decode b_Canvas_block 64 = .ok (.invokespecial 132, 3) := by decide +kernel
theorem d_Canvas_block_67 : decode b_Canvas_block 67 = .ok (.athrow, 1) := by decide +kernel
theorem d_Canvas_block_68 : decode b_Canvas_block 68 = .ok (.aload_n 0, 1) := by decide +kernel
theorem d_Canvas_block_69 : decode b_Canvas_block 69 = .ok (.getfield 45, 3) := by decide +kernel
theorem d_Canvas_block_72 : decode b_Canvas_block 72 = .ok (.aload_n 0, 1) := by decide +kernel
theorem d_Canvas_block_73 : decode b_Canvas_block 73 = .ok (.getfield 48, 3) := by decide +kernel
theorem d_Canvas_block_76 : decode b_Canvas_block 76 = .ok (.aload_n 0, 1) := by decide +kernel
theorem d_Canvas_block_77 : decode b_Canvas_block 77 = .ok (.getfield 54, 3) := by decide +kernel
theorem d_Canvas_block_80 : decode b_Canvas_block 80 = .ok (.iload 6, 2) := by decide +kernel
theorem d_Canvas_block_82 : decode b_Canvas_block 82 = .ok (.invokevirtual 207, 3) := by decide +kernel
theorem d_Canvas_block_85 : decode b_Canvas_block 85 = .ok (.aload_n 0, 1) := by decide +kernel
theorem d_Canvas_block_86 : decode b_Canvas_block 86 = .ok (.getfield 45, 3) := by decide +kernel
theorem d_Canvas_block_89 : decode b_Canvas_block 89 = .ok (.iload 7, 2) := by decide +kernel
theorem d_Canvas_block_91 : decode b_Canvas_block 91 = .ok (.invokevirtual 166, 3) := by decide +kernel
theorem d_Canvas_block_94 : decode b_Canvas_block 94 = .ok (.ireturn, 1) := by decide +kernel
theorem d_Canvas_where_0 : decode b_Canvas_where 0 = .ok (.aload_n 0, 1) := by decide +kernel
theorem d_Canvas_where_1 : decode b_Canvas_where 1 = .ok (.iload_n 1, 1) := by decide +kernel
theorem d_Canvas_where_2 : decode b_Canvas_where 2 = .ok (.invokevirtual 124, 3) := by decide +kernel
theorem d_Canvas_where_5 : decode b_Canvas_where 5 = .ok (.astore 4, 2) := by decide +kernel
theorem d_Canvas_where_7 : decode b_Canvas_where 7 = .ok (.aload 4, 2) := by decide +kernel
theorem d_Canvas_where_9 : decode b_Canvas_where 9 = .ok (.ifnonnull 13, 3) := by decide +kernel
theorem d_Canvas_where_12 : decode b_Canvas_where 12 = .ok (.new 128, 3) := by decide +kernel
theorem d_Canvas_where_15 : decode b_Canvas_where 15 = .ok (.dup, 1) := by decide +kernel
theorem d_Canvas_where_16 : decode b_Canvas_where 16 = .ok (.ldc 130, 2) := by decide +kernel
theorem d_Canvas_where_18 : decode b_Canvas_where 18 = .ok (.invokespecial 132, 3) := by decide +kernel
theorem d_Canvas_where_21 : decode b_Canvas_where 21 = .ok (.athrow, 1) := by decide +kernel
theorem d_Canvas_where_22 : decode b_Canvas_where 22 = .ok (.iload_n 2, 1) := by decide +kernel
theorem d_Canvas_where_23 : decode b_Canvas_where 23 = .ok (.i2l, 1) := by decide +kernel
theorem d_Canvas_where_24 : decode b_Canvas_where 24 = .ok (.aload 4, 2) := by decide +kernel
theorem d_Canvas_where_26 : decode b_Canvas_where 26 = .ok (.getfield 219, 3) := by decide +kernel
theorem d_Canvas_where_29 : decode b_Canvas_where 29 = .ok (.i2l, 1) := by decide +kernel
theorem d_Canvas_where_30 : decode b_Canvas_where 30 = .ok (.lmul, 1) := by decide +kernel
theorem d_Canvas_where_31 : decode b_Canvas_where 31 = .ok (.lstore 5, 2) := by decide +kernel
theorem d_Canvas_where_33 : decode b_Canvas_where 33 = .ok (.iload_n 3, 1) := by decide +kernel
theorem d_Canvas_where_34 : decode b_Canvas_where 34 = .ok (.i2l, 1) := by decide +kernel
theorem d_Canvas_where_35 : decode b_Canvas_where 35 = .ok (.aload 4, 2) := by decide +kernel
theorem d_Canvas_where_37 : decode b_Canvas_where 37 = .ok (.getfield 222, 3) := by decide +kernel
theorem d_Canvas_where_40 : decode b_Canvas_where 40 = .ok (.i2l, 1) := by decide +kernel
theorem d_Canvas_where_41 : decode b_Canvas_where 41 = .ok (.lmul, 1) := by decide +kernel
theorem d_Canvas_where_42 : decode b_Canvas_where 42 = .ok (.lstore 7, 2) := by decide +kernel
theorem d_Canvas_where_44 : decode b_Canvas_where 44 = .ok (.aload_n 0, 1) := by decide +kernel
theorem d_Canvas_where_45 : decode b_Canvas_where 45 = .ok (.getfield 10, 3) := by decide +kernel
theorem d_Canvas_where_48 : decode b_Canvas_where 48 = .ok (.lload 5, 2) := by decide +kernel
theorem d_Canvas_where_50 : decode b_Canvas_where 50 = .ok (.lload 7, 2) := by decide +kernel
theorem d_Canvas_where_52 : decode b_Canvas_where 52 = .ok (.invokevirtual 225, 3) := by decide +kernel
theorem d_Canvas_where_55 : decode b_Canvas_where 55 = .ok (.ifCond .ne 13, 3) := by decide +kernel
theorem d_Canvas_where_58 : decode b_Canvas_where 58 = .ok (.new 128, 3) := by decide +kernel
theorem d_Canvas_where_61 : decode b_Canvas_where 61 = .ok (.dup, 1) := by decide +kernel
theorem d_Canvas_where_62 : decode b_Canvas_where 62 = .ok (.ldc 228, 2) := by decide +kernel
theorem d_Canvas_where_64 : decode b_Canvas_where 64 = .ok (.invokespecial 132, 3) := by decide +kernel
theorem d_Canvas_where_67 : decode b_Canvas_where 67 = .ok (.athrow, 1) := by decide +kernel
theorem d_Canvas_where_68 : decode b_Canvas_where 68 = .ok (.aload_n 0, 1) := by decide +kernel
theorem d_Canvas_where_69 : decode b_Canvas_where 69 = .ok (.getfield 19, 3) := by decide +kernel
theorem d_Canvas_where_72 : decode b_Canvas_where 72 = .ok (.lload 5, 2) := by decide +kernel
theorem d_Canvas_where_74 : decode b_Canvas_where 74 = .ok (.l2i, 1) := by decide +kernel
theorem d_Canvas_where_75 : decode b_Canvas_where 75 = .ok (.lload 7, 2) := by decide +kernel
theorem d_Canvas_where_77 : decode b_Canvas_where 77 = .ok (.l2i, 1) := by decide +kernel
theorem d_Canvas_where_78 : decode b_Canvas_where 78 = .ok (.invokevirtual 230, 3) := by decide +kernel
theorem d_Canvas_where_81 : decode b_Canvas_where 81 = .ok (.ireturn, 1) := by decide +kernel
theorem d_Canvas_coefficient_0 : decode b_Canvas_coefficient 0 = .ok (.aload_n 0, 1) := by decide +kernel
theorem d_Canvas_coefficient_1 : decode b_Canvas_coefficient 1 = .ok (.iload_n 2, 1) := by decide +kernel
theorem d_Canvas_coefficient_2 : decode b_Canvas_coefficient 2 = .ok (.invokevirtual 124, 3) := by decide +kernel
theorem d_Canvas_coefficient_5 : decode b_Canvas_coefficient 5 = .ok (.astore 6, 2) := by decide +kernel
theorem d_Canvas_coefficient_7 : decode b_Canvas_coefficient 7 = .ok (.aload 6, 2) := by decide +kernel
theorem d_Canvas_coefficient_9 : decode b_Canvas_coefficient 9 = .ok (.ifnull 38, 3) := by decide +kernel
theorem d_Canvas_coefficient_12 : decode b_Canvas_coefficient 12 = .ok (.iload 5, 2) := by decide +kernel
theorem d_Canvas_coefficient_14 : decode b_Canvas_coefficient 14 = .ok (.iconst 0, 1) := by decide +kernel
theorem d_Canvas_coefficient_15 : decode b_Canvas_coefficient 15 = .ok (.iconst 5, 1) := by decide +kernel
theorem d_Canvas_coefficient_16 : decode b_Canvas_coefficient 16 = .ok (.invokestatic 83, 3) := by decide +kernel
theorem d_Canvas_coefficient_19 : decode b_Canvas_coefficient 19 = .ok (.ifCond .eq 28, 3) := by decide +kernel
theorem d_Canvas_coefficient_22 : decode b_Canvas_coefficient 22 = .ok (.aload_n 0, 1) := by decide +kernel
theorem d_Canvas_coefficient_23 : decode b_Canvas_coefficient 23 = .ok (.iload_n 1, 1) := by decide +kernel
theorem d_Canvas_coefficient_24 : decode b_Canvas_coefficient 24 = .ok (.aload 6, 2) := by decide +kernel
theorem d_Canvas_coefficient_26 : decode b_Canvas_coefficient 26 = .ok (.invokevirtual 170, 3) := by decide +kernel
theorem d_Canvas_coefficient_29 : decode b_Canvas_coefficient 29 = .ok (.ifCond .eq 18, 3) := by decide +kernel
theorem d_Canvas_coefficient_32 : decode b_Canvas_coefficient 32 = .ok (.aload_n 0, 1) := by decide +kernel
theorem d_Canvas_coefficient_33 : decode b_Canvas_coefficient 33 = .ok (.getfield 36, 3) := by decide +kernel
theorem d_Canvas_coefficient_36 : decode b_Canvas_coefficient 36 = .ok (.iload_n 3, 1) := by decide +kernel
theorem d_Canvas_coefficient_37 : decode b_Canvas_coefficient 37 = .ok (.i2l, 1) := by decide +kernel
theorem d_Canvas_coefficient_38 : decode b_Canvas_coefficient 38 = .ok (.iload 4, 2) := by decide +kernel
theorem d_Canvas_coefficient_40 : decode b_Canvas_coefficient 40 = .ok (.i2l, 1) := by decide +kernel
theorem d_Canvas_coefficient_41 : decode b_Canvas_coefficient 41 = .ok (.invokevirtual 225, 3) := by decide +kernel
theorem d_Canvas_coefficient_44 : decode b_Canvas_coefficient 44 = .ok (.ifCond .ne 13, 3) := by decide +kernel
theorem d_Canvas_coefficient_47 : decode b_Canvas_coefficient 47 = .ok (.new 128, 3) := by decide +kernel
theorem d_Canvas_coefficient_50 : decode b_Canvas_coefficient 50 = .ok (.dup, 1) := by decide +kernel
theorem d_Canvas_coefficient_51 : decode b_Canvas_coefficient 51 = .ok (.ldc 234, 2) := by decide +kernel
theorem d_Canvas_coefficient_53 : decode b_Canvas_coefficient 53 = .ok (.invokespecial 132, 3) := by decide +kernel
theorem d_Canvas_coefficient_56 : decode b_Canvas_coefficient 56 = .ok (.athrow, 1) := by decide +kernel
theorem d_Canvas_coefficient_57 : decode b_Canvas_coefficient 57 = .ok (.aload 6, 2) := by decide +kernel
theorem d_Canvas_coefficient_59 : decode b_Canvas_coefficient 59 = .ok (.getfield 141, 3) := by decide +kernel
theorem d_Canvas_coefficient_62 : decode b_Canvas_coefficient 62 = .ok (.istore 7, 2) := by decide +kernel
theorem d_Canvas_coefficient_64 : decode b_Canvas_coefficient 64 = .ok (.iload_n 3, 1) := by decide +kernel
theorem d_Canvas_coefficient_65 : decode b_Canvas_coefficient 65 = .ok (.istore 8, 2) := by decide +kernel
theorem d_Canvas_coefficient_67 : decode b_Canvas_coefficient 67 = .ok (.iload 4, 2) := by decide +kernel
theorem d_Canvas_coefficient_69 : decode b_Canvas_coefficient 69 = .ok (.istore 9, 2) := by decide +kernel
theorem d_Canvas_coefficient_71 : decode b_Canvas_coefficient 71 = .ok (.iload 7, 2) := by decide +kernel
theorem d_Canvas_coefficient_73 : decode b_Canvas_coefficient 73 = .ok (.ifCond .le 31, 3) := by decide +kernel
theorem d_Canvas_coefficient_76 : decode b_Canvas_coefficient 76 = .ok (.iload 8, 2) := by decide +kernel
theorem d_Canvas_coefficient_78 : decode b_Canvas_coefficient 78 = .ok (.iload 9, 2) := by decide +kernel
theorem d_Canvas_coefficient_80 : decode b_Canvas_coefficient 80 = .ok (.ior, 1) := by decide +kernel
theorem d_Canvas_coefficient_81 : decode b_Canvas_coefficient 81 = .ok (.iconst 1, 1) := by decide +kernel
theorem d_Canvas_coefficient_82 : decode b_Canvas_coefficient 82 = .ok (.iand, 1) := by decide +kernel
theorem d_Canvas_coefficient_83 : decode b_Canvas_coefficient 83 = .ok (.ifCond .ne 21, 3) := by decide +kernel
theorem d_Canvas_coefficient_86 : decode b_Canvas_coefficient 86 = .ok (.iinc 7 (-1), 3) := by decide +kernel
theorem d_Canvas_coefficient_89 : decode b_Canvas_coefficient 89 = .ok (.iload 8, 2) := by decide +kernel
theorem d_Canvas_coefficient_91 : decode b_Canvas_coefficient 91 = .ok (.iconst 1, 1) := by decide +kernel
theorem d_Canvas_coefficient_92 : decode b_Canvas_coefficient 92 = .ok (.ishr, 1) := by decide +kernel
theorem d_Canvas_coefficient_93 : decode b_Canvas_coefficient 93 = .ok (.istore 8, 2) := by decide +kernel
theorem d_Canvas_coefficient_95 : decode b_Canvas_coefficient 95 = .ok (.iload 9, 2) := by decide +kernel
theorem d_Canvas_coefficient_97 : decode b_Canvas_coefficient 97 = .ok (.iconst 1, 1) := by decide +kernel
theorem d_Canvas_coefficient_98 : decode b_Canvas_coefficient 98 = .ok (.ishr, 1) := by decide +kernel
theorem d_Canvas_coefficient_99 : decode b_Canvas_coefficient 99 = .ok (.istore 9, 2) := by decide +kernel
theorem d_Canvas_coefficient_101 : decode b_Canvas_coefficient 101 = .ok (.goto (-30), 3) := by decide +kernel
theorem d_Canvas_coefficient_104 : decode b_Canvas_coefficient 104 = .ok (.aload_n 0, 1) := by decide +kernel
theorem d_Canvas_coefficient_105 : decode b_Canvas_coefficient 105 = .ok (.aload 6, 2) := by decide +kernel
theorem d_Canvas_coefficient_107 : decode b_Canvas_coefficient 107 = .ok (.iload 7, 2) := by decide +kernel
theorem d_Canvas_coefficient_109 : decode b_Canvas_coefficient 109 = .ok (.iload 8, 2) := by decide +kernel
theorem d_Canvas_coefficient_111 : decode b_Canvas_coefficient 111 = .ok (.iload 9, 2) := by decide +kernel
theorem d_Canvas_coefficient_113 : decode b_Canvas_coefficient 113 = .ok (.iload 5, 2) := by decide +kernel
theorem d_Canvas_coefficient_115 : decode b_Canvas_coefficient 115 = .ok (.invokevirtual 236, 3) := by decide +kernel
theorem d_Canvas_coefficient_118 : decode b_Canvas_coefficient 118 = .ok (.ireturn, 1) := by decide +kernel
theorem d_Canvas_ofCoefficient_0 : decode b_Canvas_ofCoefficient 0 = .ok (.iload_n 2, 1) := by decide +kernel
theorem d_Canvas_ofCoefficient_1 : decode b_Canvas_ofCoefficient 1 = .ok (.ifCond .ne 7, 3) := by decide +kernel
theorem d_Canvas_ofCoefficient_4 : decode b_Canvas_ofCoefficient 4 = .ok (.iconst 0, 1) := by decide +kernel
theorem d_Canvas_ofCoefficient_5 : decode b_Canvas_ofCoefficient 5 = .ok (.goto 13, 3) := by decide +kernel
theorem d_Canvas_ofCoefficient_8 : decode b_Canvas_ofCoefficient 8 = .ok (.iload_n 3, 1) := by decide +kernel
theorem d_Canvas_ofCoefficient_9 : decode b_Canvas_ofCoefficient 9 = .ok (.iconst 1, 1) := by decide +kernel
theorem d_Canvas_ofCoefficient_10 : decode b_Canvas_ofCoefficient 10 = .ok (.iand, 1) := by decide +kernel
theorem d_Canvas_ofCoefficient_11 : decode b_Canvas_ofCoefficient 11 = .ok (.iconst 2, 1) := by decide +kernel
theorem d_Canvas_ofCoefficient_12 : decode b_Canvas_ofCoefficient 12 = .ok (.iload 4, 2) := by decide +kernel
theorem d_Canvas_ofCoefficient_14 : decode b_Canvas_ofCoefficient 14 = .ok (.iconst 1, 1) := by decide +kernel
theorem d_Canvas_ofCoefficient_15 : decode b_Canvas_ofCoefficient 15 = .ok (.iand, 1) := by decide +kernel
theorem d_Canvas_ofCoefficient_16 : decode b_Canvas_ofCoefficient 16 = .ok (.imul, 1) := by decide +kernel
theorem d_Canvas_ofCoefficient_17 : decode b_Canvas_ofCoefficient 17 = .ok (.iadd, 1) := by decide +kernel
theorem d_Canvas_ofCoefficient_18 : decode b_Canvas_ofCoefficient 18 = .ok (.istore 6, 2) := by decide +kernel
theorem d_Canvas_ofCoefficient_20 : decode b_Canvas_ofCoefficient 20 = .ok (.iload_n 3, 1) := by decide +kernel
theorem d_Canvas_ofCoefficient_21 : decode b_Canvas_ofCoefficient 21 = .ok (.iload_n 2, 1) := by decide +kernel
theorem d_Canvas_ofCoefficient_22 : decode b_Canvas_ofCoefficient 22 = .ok (.invokestatic 240, 3) := by decide +kernel
theorem d_Canvas_ofCoefficient_25 : decode b_Canvas_ofCoefficient 25 = .ok (.ishr, 1) := by decide +kernel
theorem d_Canvas_ofCoefficient_26 : decode b_Canvas_ofCoefficient 26 = .ok (.istore 7, 2) := by decide +kernel
theorem d_Canvas_ofCoefficient_28 : decode b_Canvas_ofCoefficient 28 = .ok (.iload 4, 2) := by decide +kernel
theorem d_Canvas_ofCoefficient_30 : decode b_Canvas_ofCoefficient 30 = .ok (.iload_n 2, 1) := by decide +kernel
theorem d_Canvas_ofCoefficient_31 : decode b_Canvas_ofCoefficient 31 = .ok (.invokestatic 240, 3) := by decide +kernel
theorem d_Canvas_ofCoefficient_34 : decode b_Canvas_ofCoefficient 34 = .ok (.ishr, 1) := by decide +kernel
theorem d_Canvas_ofCoefficient_35 : decode b_Canvas_ofCoefficient 35 = .ok (.istore 8, 2) := by decide +kernel
theorem d_Canvas_ofCoefficient_37 : decode b_Canvas_ofCoefficient 37 = .ok (.iload 5, 2) := by decide +kernel
theorem d_Canvas_ofCoefficient_39 : decode b_Canvas_ofCoefficient 39 = .ok (.tableswitch 40 0 3 #[29, 31, 34, 37], 29) := by decide +kernel
theorem d_Canvas_ofCoefficient_68 : decode b_Canvas_ofCoefficient 68 = .ok (.iload_n 2, 1) := by decide +kernel
theorem d_Canvas_ofCoefficient_69 : decode b_Canvas_ofCoefficient 69 = .ok (.ireturn, 1) := by decide +kernel
theorem d_Canvas_ofCoefficient_70 : decode b_Canvas_ofCoefficient 70 = .ok (.iload 6, 2) := by decide +kernel
theorem d_Canvas_ofCoefficient_72 : decode b_Canvas_ofCoefficient 72 = .ok (.ireturn, 1) := by decide +kernel
theorem d_Canvas_ofCoefficient_73 : decode b_Canvas_ofCoefficient 73 = .ok (.iload 7, 2) := by decide +kernel
theorem d_Canvas_ofCoefficient_75 : decode b_Canvas_ofCoefficient 75 = .ok (.ireturn, 1) := by decide +kernel
theorem d_Canvas_ofCoefficient_76 : decode b_Canvas_ofCoefficient 76 = .ok (.iload 8, 2) := by decide +kernel
theorem d_Canvas_ofCoefficient_78 : decode b_Canvas_ofCoefficient 78 = .ok (.ireturn, 1) := by decide +kernel
theorem d_Canvas_ofCoefficient_79 : decode b_Canvas_ofCoefficient 79 = .ok (.aload_n 0, 1) := by decide +kernel
theorem d_Canvas_ofCoefficient_80 : decode b_Canvas_ofCoefficient 80 = .ok (.aload_n 1, 1) := by decide +kernel
theorem d_Canvas_ofCoefficient_81 : decode b_Canvas_ofCoefficient 81 = .ok (.iload_n 2, 1) := by decide +kernel
theorem d_Canvas_ofCoefficient_82 : decode b_Canvas_ofCoefficient 82 = .ok (.invokevirtual 243, 3) := by decide +kernel
theorem d_Canvas_ofCoefficient_85 : decode b_Canvas_ofCoefficient 85 = .ok (.aload_n 0, 1) := by decide +kernel
theorem d_Canvas_ofCoefficient_86 : decode b_Canvas_ofCoefficient 86 = .ok (.getfield 51, 3) := by decide +kernel
theorem d_Canvas_ofCoefficient_89 : decode b_Canvas_ofCoefficient 89 = .ok (.iload_n 3, 1) := by decide +kernel
theorem d_Canvas_ofCoefficient_90 : decode b_Canvas_ofCoefficient 90 = .ok (.iload 4, 2) := by decide +kernel
theorem d_Canvas_ofCoefficient_92 : decode b_Canvas_ofCoefficient 92 = .ok (.invokevirtual 230, 3) := by decide +kernel
theorem d_Canvas_ofCoefficient_95 : decode b_Canvas_ofCoefficient 95 = .ok (.istore 9, 2) := by decide +kernel
theorem d_Canvas_ofCoefficient_97 : decode b_Canvas_ofCoefficient 97 = .ok (.iload 5, 2) := by decide +kernel
theorem d_Canvas_ofCoefficient_99 : decode b_Canvas_ofCoefficient 99 = .ok (.iconst 4, 1) := by decide +kernel
theorem d_Canvas_ofCoefficient_100 : decode b_Canvas_ofCoefficient 100 = .ok (.if_icmp .ne 6, 3) := by decide +kernel
theorem d_Canvas_ofCoefficient_103 : decode b_Canvas_ofCoefficient 103 = .ok (.iload 9, 2) := by decide +kernel
theorem d_Canvas_ofCoefficient_105 : decode b_Canvas_ofCoefficient 105 = .ok (.ireturn, 1) := by decide +kernel
theorem d_Canvas_ofCoefficient_106 : decode b_Canvas_ofCoefficient 106 = .ok (.aload_n 0, 1) := by decide +kernel
theorem d_Canvas_ofCoefficient_107 : decode b_Canvas_ofCoefficient 107 = .ok (.aload_n 1, 1) := by decide +kernel
theorem d_Canvas_ofCoefficient_108 : decode b_Canvas_ofCoefficient 108 = .ok (.iload_n 2, 1) := by decide +kernel
theorem d_Canvas_ofCoefficient_109 : decode b_Canvas_ofCoefficient 109 = .ok (.iload 6, 2) := by decide +kernel
theorem d_Canvas_ofCoefficient_111 : decode b_Canvas_ofCoefficient 111 = .ok (.invokevirtual 247, 3) := by decide +kernel
theorem d_Canvas_ofCoefficient_114 : decode b_Canvas_ofCoefficient 114 = .ok (.aload_n 0, 1) := by decide +kernel
theorem d_Canvas_ofCoefficient_115 : decode b_Canvas_ofCoefficient 115 = .ok (.aload_n 1, 1) := by decide +kernel
theorem d_Canvas_ofCoefficient_116 : decode b_Canvas_ofCoefficient 116 = .ok (.iload_n 2, 1) := by decide +kernel
theorem d_Canvas_ofCoefficient_117 : decode b_Canvas_ofCoefficient 117 = .ok (.iload 9, 2) := by decide +kernel
theorem d_Canvas_ofCoefficient_119 : decode b_Canvas_ofCoefficient 119 = .ok (.invokevirtual 251, 3) := by decide +kernel
theorem d_Canvas_ofCoefficient_122 : decode b_Canvas_ofCoefficient 122 = .ok (.aload_n 0, 1) := by decide +kernel
theorem d_Canvas_ofCoefficient_123 : decode b_Canvas_ofCoefficient 123 = .ok (.getfield 54, 3) := by decide +kernel
theorem d_Canvas_ofCoefficient_126 : decode b_Canvas_ofCoefficient 126 = .ok (.iload 7, 2) := by decide +kernel
theorem d_Canvas_ofCoefficient_128 : decode b_Canvas_ofCoefficient 128 = .ok (.iload 8, 2) := by decide +kernel
theorem d_Canvas_ofCoefficient_130 : decode b_Canvas_ofCoefficient 130 = .ok (.invokevirtual 230, 3) := by decide +kernel
theorem d_Canvas_ofCoefficient_133 : decode b_Canvas_ofCoefficient 133 = .ok (.ireturn, 1) := by decide +kernel
theorem d_Canvas_isWithin_0 : decode b_Canvas_isWithin 0 = .ok (.iload_n 0, 1) := by decide +kernel
theorem d_Canvas_isWithin_1 : decode b_Canvas_isWithin 1 = .ok (.iload_n 1, 1) := by decide +kernel
theorem d_Canvas_isWithin_2 : decode b_Canvas_isWithin 2 = .ok (.if_icmp .lt 12, 3) := by decide +kernel
theorem d_Canvas_isWithin_5 : decode b_Canvas_isWithin 5 = .ok (.iload_n 0, 1) := by decide +kernel
theorem d_Canvas_isWithin_6 : decode b_Canvas_isWithin 6 = .ok (.iload_n 2, 1) := by decide +kernel
theorem d_Canvas_isWithin_7 : decode b_Canvas_isWithin 7 = .ok (.if_icmp .gt 7, 3) := by decide +kernel
theorem d_Canvas_isWithin_10 : decode b_Canvas_isWithin 10 = .ok (.iconst 1, 1) := by decide +kernel
theorem d_Canvas_isWithin_11 : decode b_Canvas_isWithin 11 = .ok (.goto 4, 3) := by decide +kernel
theorem d_Canvas_isWithin_14 : decode b_Canvas_isWithin 14 = .ok (.iconst 0, 1) := by decide +kernel
theorem d_Canvas_isWithin_15 : decode b_Canvas_isWithin 15 = .ok (.ireturn, 1) := by decide +kernel
theorem d_Canvas_isBlockExponent_0 : decode b_Canvas_isBlockExponent 0 = .ok (.iload_n 0, 1) := by decide +kernel
theorem d_Canvas_isBlockExponent_1 : decode b_Canvas_isBlockExponent 1 = .ok (.iconst 2, 1) := by decide +kernel
theorem d_Canvas_isBlockExponent_2 : decode b_Canvas_isBlockExponent 2 = .ok (.bipush 10, 2) := by decide +kernel
theorem d_Canvas_isBlockExponent_4 : decode b_Canvas_isBlockExponent 4 = .ok (.invokestatic 83, 3) := by decide +kernel
theorem d_Canvas_isBlockExponent_7 : decode b_Canvas_isBlockExponent 7 = .ok (.ireturn, 1) := by decide +kernel
theorem d_Canvas_isFirstTile_0 : decode b_Canvas_isFirstTile 0 = .ok (.iload_n 0, 1) := by decide +kernel
theorem d_Canvas_isFirstTile_1 : decode b_Canvas_isFirstTile 1 = .ok (.iconst 0, 1) := by decide +kernel
theorem d_Canvas_isFirstTile_2 : decode b_Canvas_isFirstTile 2 = .ok (.iload_n 2, 1) := by decide +kernel
theorem d_Canvas_isFirstTile_3 : decode b_Canvas_isFirstTile 3 = .ok (.invokestatic 83, 3) := by decide +kernel
theorem d_Canvas_isFirstTile_6 : decode b_Canvas_isFirstTile 6 = .ok (.ifCond .eq 14, 3) := by decide +kernel
theorem d_Canvas_isFirstTile_9 : decode b_Canvas_isFirstTile 9 = .ok (.iload_n 0, 1) := by decide +kernel
theorem d_Canvas_isFirstTile_10 : decode b_Canvas_isFirstTile 10 = .ok (.iload_n 1, 1) := by decide +kernel
theorem d_Canvas_isFirstTile_11 : decode b_Canvas_isFirstTile 11 = .ok (.iadd, 1) := by decide +kernel
theorem d_Canvas_isFirstTile_12 : decode b_Canvas_isFirstTile 12 = .ok (.iload_n 2, 1) := by decide +kernel
theorem d_Canvas_isFirstTile_13 : decode b_Canvas_isFirstTile 13 = .ok (.if_icmp .le 7, 3) := by decide +kernel
theorem d_Canvas_isFirstTile_16 : decode b_Canvas_isFirstTile 16 = .ok (.iconst 1, 1) := by decide +kernel
theorem d_Canvas_isFirstTile_17 : decode b_Canvas_isFirstTile 17 = .ok (.goto 4, 3) := by decide +kernel
theorem d_Canvas_isFirstTile_20 : decode b_Canvas_isFirstTile 20 = .ok (.iconst 0, 1) := by decide +kernel
theorem d_Canvas_isFirstTile_21 : decode b_Canvas_isFirstTile 21 = .ok (.ireturn, 1) := by decide +kernel
theorem d_Canvas_componentAt_0 : decode b_Canvas_componentAt 0 = .ok (.iload_n 1, 1) := by decide +kernel
theorem d_Canvas_componentAt_1 : decode b_Canvas_componentAt 1 = .ok (.ifCond .lt 20, 3) := by decide +kernel
theorem d_Canvas_componentAt_4 : decode b_Canvas_componentAt 4 = .ok (.iload_n 1, 1) := by decide +kernel
theorem d_Canvas_componentAt_5 : decode b_Canvas_componentAt 5 = .ok (.aload_n 0, 1) := by decide +kernel
theorem d_Canvas_componentAt_6 : decode b_Canvas_componentAt 6 = .ok (.getfield 29, 3) := by decide +kernel
theorem d_Canvas_componentAt_9 : decode b_Canvas_componentAt 9 = .ok (.if_icmp .ge 12, 3) := by decide +kernel
theorem d_Canvas_componentAt_12 : decode b_Canvas_componentAt 12 = .ok (.aload_n 0, 1) := by decide +kernel
theorem d_Canvas_componentAt_13 : decode b_Canvas_componentAt 13 = .ok (.getfield 25, 3) := by decide +kernel
theorem d_Canvas_componentAt_16 : decode b_Canvas_componentAt 16 = .ok (.iload_n 1, 1) := by decide +kernel
theorem d_Canvas_componentAt_17 : decode b_Canvas_componentAt 17 = .ok (.aaload, 1) := by decide +kernel
theorem d_Canvas_componentAt_18 : decode b_Canvas_componentAt 18 = .ok (.goto 4, 3) := by decide +kernel
theorem d_Canvas_componentAt_21 : decode b_Canvas_componentAt 21 = .ok (.aconst_null, 1) := by decide +kernel
theorem d_Canvas_componentAt_22 : decode b_Canvas_componentAt 22 = .ok (.areturn, 1) := by decide +kernel
theorem d_Canvas_findTile_0 : decode b_Canvas_findTile 0 = .ok (.aload_n 0, 1) := by decide +kernel
theorem d_Canvas_findTile_1 : decode b_Canvas_findTile 1 = .ok (.getfield 19, 3) := by decide +kernel
theorem d_Canvas_findTile_4 : decode b_Canvas_findTile 4 = .ok (.iload_n 1, 1) := by decide +kernel
theorem d_Canvas_findTile_5 : decode b_Canvas_findTile 5 = .ok (.invokevirtual 202, 3) := by decide +kernel
theorem d_Canvas_findTile_8 : decode b_Canvas_findTile 8 = .ok (.ifCond .ne 5, 3) := by decide +kernel
theorem d_Canvas_findTile_11 : decode b_Canvas_findTile 11 = .ok (.iconst 0, 1) := by decide +kernel
theorem d_Canvas_findTile_12 : decode b_Canvas_findTile 12 = .ok (.ireturn, 1) := by decide +kernel
theorem d_Canvas_findTile_13 : decode b_Canvas_findTile 13 = .ok (.aload_n 0, 1) := by decide +kernel
theorem d_Canvas_findTile_14 : decode b_Canvas_findTile 14 = .ok (.getfield 33, 3) := by decide +kernel
theorem d_Canvas_findTile_17 : decode b_Canvas_findTile 17 = .ok (.aload_n 0, 1) := by decide +kernel
theorem d_Canvas_findTile_18 : decode b_Canvas_findTile 18 = .ok (.getfield 10, 3) := by decide +kernel
theorem d_Canvas_findTile_21 : decode b_Canvas_findTile 21 = .ok (.aload_n 0, 1) := by decide +kernel
theorem d_Canvas_findTile_22 : decode b_Canvas_findTile 22 = .ok (.getfield 19, 3) := by decide +kernel
theorem d_Canvas_findTile_25 : decode b_Canvas_findTile 25 = .ok (.iload_n 1, 1) := by decide +kernel
theorem d_Canvas_findTile_26 : decode b_Canvas_findTile 26 = .ok (.invokevirtual 207, 3) := by decide +kernel
theorem d_Canvas_findTile_29 : decode b_Canvas_findTile 29 = .ok (.iconst 1, 1) := by decide +kernel
theorem d_Canvas_findTile_30 : decode b_Canvas_findTile 30 = .ok (.ireturn, 1) := by decide +kernel
theorem d_Canvas_findPart_0 : decode b_Canvas_findPart 0 = .ok (.aload_n 0, 1) := by decide +kernel
theorem d_Canvas_findPart_1 : decode b_Canvas_findPart 1 = .ok (.iload_n 1, 1) := by decide +kernel
theorem d_Canvas_findPart_2 : decode b_Canvas_findPart 2 = .ok (.invokevirtual 161, 3) := by decide +kernel
theorem d_Canvas_findPart_5 : decode b_Canvas_findPart 5 = .ok (.ifCond .ne 5, 3) := by decide +kernel
theorem d_Canvas_findPart_8 : decode b_Canvas_findPart 8 = .ok (.iconst 0, 1) := by decide +kernel
theorem d_Canvas_findPart_9 : decode b_Canvas_findPart 9 = .ok (.ireturn, 1) := by decide +kernel
theorem d_Canvas_findPart_10 : decode b_Canvas_findPart 10 = .ok (.aload_n 0, 1) := by decide +kernel
theorem d_Canvas_findPart_11 : decode b_Canvas_findPart 11 = .ok (.getfield 36, 3) := by decide +kernel
theorem d_Canvas_findPart_14 : decode b_Canvas_findPart 14 = .ok (.aload_n 0, 1) := by decide +kernel
theorem d_Canvas_findPart_15 : decode b_Canvas_findPart 15 = .ok (.getfield 33, 3) := by decide +kernel
theorem d_Canvas_findPart_18 : decode b_Canvas_findPart 18 = .ok (.aload_n 2, 1) := by decide +kernel
theorem d_Canvas_findPart_19 : decode b_Canvas_findPart 19 = .ok (.getfield 219, 3) := by decide +kernel
theorem d_Canvas_findPart_22 : decode b_Canvas_findPart 22 = .ok (.aload_n 2, 1) := by decide +kernel
theorem d_Canvas_findPart_23 : decode b_Canvas_findPart 23 = .ok (.getfield 222, 3) := by decide +kernel
theorem d_Canvas_findPart_26 : decode b_Canvas_findPart 26 = .ok (.invokevirtual 254, 3) := by decide +kernel
theorem d_Canvas_findPart_29 : decode b_Canvas_findPart 29 = .ok (.iconst 1, 1) := by decide +kernel
theorem d_Canvas_findPart_30 : decode b_Canvas_findPart 30 = .ok (.ireturn, 1) := by decide +kernel
theorem d_Canvas_findLevel_0 : decode b_Canvas_findLevel 0 = .ok (.iload_n 2, 1) := by decide +kernel
theorem d_Canvas_findLevel_1 : decode b_Canvas_findLevel 1 = .ok (.iconst 0, 1) := by decide +kernel
theorem d_Canvas_findLevel_2 : decode b_Canvas_findLevel 2 = .ok (.aload_n 1, 1) := by decide +kernel
theorem d_Canvas_findLevel_3 : decode b_Canvas_findLevel 3 = .ok (.getfield 141, 3) := by decide +kernel
theorem d_Canvas_findLevel_6 : decode b_Canvas_findLevel 6 = .ok (.invokestatic 83, 3) := by decide +kernel
theorem d_Canvas_findLevel_9 : decode b_Canvas_findLevel 9 = .ok (.ifCond .ne 5, 3) := by decide +kernel
theorem d_Canvas_findLevel_12 : decode b_Canvas_findLevel 12 = .ok (.iconst 0, 1) := by decide +kernel
theorem d_Canvas_findLevel_13 : decode b_Canvas_findLevel 13 = .ok (.ireturn, 1) := by decide +kernel
theorem d_Canvas_findLevel_14 : decode b_Canvas_findLevel 14 = .ok (.aload_n 0, 1) := by decide +kernel
theorem d_Canvas_findLevel_15 : decode b_Canvas_findLevel 15 = .ok (.aload_n 1, 1) := by decide +kernel
theorem d_Canvas_findLevel_16 : decode b_Canvas_findLevel 16 = .ok (.iload_n 2, 1) := by decide +kernel
theorem d_Canvas_findLevel_17 : decode b_Canvas_findLevel 17 = .ok (.invokevirtual 243, 3) := by decide +kernel
theorem d_Canvas_findLevel_20 : decode b_Canvas_findLevel 20 = .ok (.iconst 1, 1) := by decide +kernel
theorem d_Canvas_findLevel_21 : decode b_Canvas_findLevel 21 = .ok (.ireturn, 1) := by decide +kernel
theorem d_Canvas_findBand_0 : decode b_Canvas_findBand 0 = .ok (.iload_n 2, 1) := by decide +kernel
theorem d_Canvas_findBand_1 : decode b_Canvas_findBand 1 = .ok (.iconst 0, 1) := by decide +kernel
theorem d_Canvas_findBand_2 : decode b_Canvas_findBand 2 = .ok (.aload_n 1, 1) := by decide +kernel
theorem d_Canvas_findBand_3 : decode b_Canvas_findBand 3 = .ok (.getfield 141, 3) := by decide +kernel
theorem d_Canvas_findBand_6 : decode b_Canvas_findBand 6 = .ok (.invokestatic 83, 3) := by decide +kernel
theorem d_Canvas_findBand_9 : decode b_Canvas_findBand 9 = .ok (.ifCond .eq 18, 3) := by decide +kernel
theorem d_Canvas_findBand_12 : decode b_Canvas_findBand 12 = .ok (.iload_n 3, 1) := by decide +kernel
theorem d_Canvas_findBand_13 : decode b_Canvas_findBand 13 = .ok (.iload_n 2, 1) := by decide +kernel
theorem d_Canvas_findBand_14 : decode b_Canvas_findBand 14 = .ok (.invokestatic 258, 3) := by decide +kernel
theorem d_Canvas_findBand_17 : decode b_Canvas_findBand 17 = .ok (.iload_n 2, 1) := by decide +kernel
theorem d_Canvas_findBand_18 : decode b_Canvas_findBand 18 = .ok (.invokestatic 261, 3) := by decide +kernel
theorem d_Canvas_findBand_21 : decode b_Canvas_findBand 21 = .ok (.invokestatic 83, 3) := by decide +kernel
theorem d_Canvas_findBand_24 : decode b_Canvas_findBand 24 = .ok (.ifCond .ne 5, 3) := by decide +kernel
theorem d_Canvas_findBand_27 : decode b_Canvas_findBand 27 = .ok (.iconst 0, 1) := by decide +kernel
theorem d_Canvas_findBand_28 : decode b_Canvas_findBand 28 = .ok (.ireturn, 1) := by decide +kernel
theorem d_Canvas_findBand_29 : decode b_Canvas_findBand 29 = .ok (.aload_n 0, 1) := by decide +kernel
theorem d_Canvas_findBand_30 : decode b_Canvas_findBand 30 = .ok (.aload_n 1, 1) := by decide +kernel
theorem d_Canvas_findBand_31 : decode b_Canvas_findBand 31 = .ok (.iload_n 2, 1) := by decide +kernel
theorem d_Canvas_findBand_32 : decode b_Canvas_findBand 32 = .ok (.iload_n 3, 1) := by decide +kernel
theorem d_Canvas_findBand_33 : decode b_Canvas_findBand 33 = .ok (.invokevirtual 247, 3) := by decide +kernel
theorem d_Canvas_findBand_36 : decode b_Canvas_findBand 36 = .ok (.iconst 1, 1) := by decide +kernel
theorem d_Canvas_findBand_37 : decode b_Canvas_findBand 37 = .ok (.ireturn, 1) := by decide +kernel
theorem d_Canvas_findShare_0 : decode b_Canvas_findShare 0 = .ok (.aload_n 0, 1) := by decide +kernel
theorem d_Canvas_findShare_1 : decode b_Canvas_findShare 1 = .ok (.aload_n 1, 1) := by decide +kernel
theorem d_Canvas_findShare_2 : decode b_Canvas_findShare 2 = .ok (.iload_n 2, 1) := by decide +kernel
theorem d_Canvas_findShare_3 : decode b_Canvas_findShare 3 = .ok (.invokevirtual 180, 3) := by decide +kernel
theorem d_Canvas_findShare_6 : decode b_Canvas_findShare 6 = .ok (.ifCond .eq 25, 3) := by decide +kernel
theorem d_Canvas_findShare_9 : decode b_Canvas_findShare 9 = .ok (.aload_n 0, 1) := by decide +kernel
theorem d_Canvas_findShare_10 : decode b_Canvas_findShare 10 = .ok (.aload_n 1, 1) := by decide +kernel
theorem d_Canvas_findShare_11 : decode b_Canvas_findShare 11 = .ok (.iload_n 2, 1) := by decide +kernel
theorem d_Canvas_findShare_12 : decode b_Canvas_findShare 12 = .ok (.iload_n 3, 1) := by decide +kernel
theorem d_Canvas_findShare_13 : decode b_Canvas_findShare 13 = .ok (.invokevirtual 190, 3) := by decide +kernel
theorem d_Canvas_findShare_16 : decode b_Canvas_findShare 16 = .ok (.ifCond .eq 15, 3) := by decide +kernel
theorem d_Canvas_findShare_19 : decode b_Canvas_findShare 19 = .ok (.aload_n 0, 1) := by decide +kernel
theorem d_Canvas_findShare_20 : decode b_Canvas_findShare 20 = .ok (.getfield 51, 3) := by decide +kernel
theorem d_Canvas_findShare_23 : decode b_Canvas_findShare 23 = .ok (.iload 4, 2) := by decide +kernel
theorem d_Canvas_findShare_25 : decode b_Canvas_findShare 25 = .ok (.invokevirtual 202, 3) := by decide +kernel
theorem d_Canvas_findShare_28 : decode b_Canvas_findShare 28 = .ok (.ifCond .ne 5, 3) := by decide +kernel
theorem d_Canvas_findShare_31 : decode b_Canvas_findShare 31 = .ok (.iconst 0, 1) := by decide +kernel
theorem d_Canvas_findShare_32 : decode b_Canvas_findShare 32 = .ok (.ireturn, 1) := by decide +kernel
theorem d_Canvas_findShare_33 : decode b_Canvas_findShare 33 = .ok (.aload_n 0, 1) := by decide +kernel
theorem d_Canvas_findShare_34 : decode b_Canvas_findShare 34 = .ok (.aload_n 1, 1) := by decide +kernel
theorem d_Canvas_findShare_35 : decode b_Canvas_findShare 35 = .ok (.iload_n 2, 1) := by decide +kernel
theorem d_Canvas_findShare_36 : decode b_Canvas_findShare 36 = .ok (.iload 4, 2) := by decide +kernel
theorem d_Canvas_findShare_38 : decode b_Canvas_findShare 38 = .ok (.invokevirtual 251, 3) := by decide +kernel
theorem d_Canvas_findShare_41 : decode b_Canvas_findShare 41 = .ok (.iconst 1, 1) := by decide +kernel
theorem d_Canvas_findShare_42 : decode b_Canvas_findShare 42 = .ok (.ireturn, 1) := by decide +kernel
theorem d_Canvas_firstBand_0 : decode b_Canvas_firstBand 0 = .ok (.iload_n 0, 1) := by decide +kernel
theorem d_Canvas_firstBand_1 : decode b_Canvas_firstBand 1 = .ok (.ifCond .ne 7, 3) := by decide +kernel
theorem d_Canvas_firstBand_4 : decode b_Canvas_firstBand 4 = .ok (.iconst 0, 1) := by decide +kernel
theorem d_Canvas_firstBand_5 : decode b_Canvas_firstBand 5 = .ok (.goto 4, 3) := by decide +kernel
theorem d_Canvas_firstBand_8 : decode b_Canvas_firstBand 8 = .ok (.iconst 1, 1) := by decide +kernel
theorem d_Canvas_firstBand_9 : decode b_Canvas_firstBand 9 = .ok (.ireturn, 1) := by decide +kernel
theorem d_Canvas_lastBand_0 : decode b_Canvas_lastBand 0 = .ok (.iload_n 0, 1) := by decide +kernel
theorem d_Canvas_lastBand_1 : decode b_Canvas_lastBand 1 = .ok (.ifCond .ne 7, 3) := by decide +kernel
theorem d_Canvas_lastBand_4 : decode b_Canvas_lastBand 4 = .ok (.iconst 0, 1) := by decide +kernel
theorem d_Canvas_lastBand_5 : decode b_Canvas_lastBand 5 = .ok (.goto 4, 3) := by decide +kernel
theorem d_Canvas_lastBand_8 : decode b_Canvas_lastBand 8 = .ok (.iconst 3, 1) := by decide +kernel
theorem d_Canvas_lastBand_9 : decode b_Canvas_lastBand 9 = .ok (.ireturn, 1) := by decide +kernel
theorem d_Canvas_halvingsOfBand_0 : decode b_Canvas_halvingsOfBand 0 = .ok (.iload_n 0, 1) := by decide +kernel
theorem d_Canvas_halvingsOfBand_1 : decode b_Canvas_halvingsOfBand 1 = .ok (.ifCond .ne 7, 3) := by decide +kernel
theorem d_Canvas_halvingsOfBand_4 : decode b_Canvas_halvingsOfBand 4 = .ok (.iconst 0, 1) := by decide +kernel
theorem d_Canvas_halvingsOfBand_5 : decode b_Canvas_halvingsOfBand 5 = .ok (.goto 4, 3) := by decide +kernel
theorem d_Canvas_halvingsOfBand_8 : decode b_Canvas_halvingsOfBand 8 = .ok (.iconst 1, 1) := by decide +kernel
theorem d_Canvas_halvingsOfBand_9 : decode b_Canvas_halvingsOfBand 9 = .ok (.ireturn, 1) := by decide +kernel
theorem d_Canvas_lookAtLevel_0 : decode b_Canvas_lookAtLevel 0 = .ok (.aload_n 0, 1) := by decide +kernel
theorem d_Canvas_lookAtLevel_1 : decode b_Canvas_lookAtLevel 1 = .ok (.getfield 39, 3) := by decide +kernel
theorem d_Canvas_lookAtLevel_4 : decode b_Canvas_lookAtLevel 4 = .ok (.aload_n 0, 1) := by decide +kernel
theorem d_Canvas_lookAtLevel_5 : decode b_Canvas_lookAtLevel 5 = .ok (.getfield 36, 3) := by decide +kernel
theorem d_Canvas_lookAtLevel_8 : decode b_Canvas_lookAtLevel 8 = .ok (.aload_n 1, 1) := by decide +kernel
theorem d_Canvas_lookAtLevel_9 : decode b_Canvas_lookAtLevel 9 = .ok (.getfield 141, 3) := by decide +kernel
theorem d_Canvas_lookAtLevel_12 : decode b_Canvas_lookAtLevel 12 = .ok (.iload_n 2, 1) := by decide +kernel
theorem d_Canvas_lookAtLevel_13 : decode b_Canvas_lookAtLevel 13 = .ok (.isub, 1) := by decide +kernel
theorem d_Canvas_lookAtLevel_14 : decode b_Canvas_lookAtLevel 14 = .ok (.iconst 0, 1) := by decide +kernel
theorem d_Canvas_lookAtLevel_15 : decode b_Canvas_lookAtLevel 15 = .ok (.iconst 0, 1) := by decide +kernel
theorem d_Canvas_lookAtLevel_16 : decode b_Canvas_lookAtLevel 16 = .ok (.invokevirtual 264, 3) := by decide +kernel
theorem d_Canvas_lookAtLevel_19 : decode b_Canvas_lookAtLevel 19 = .ok (.aload_n 0, 1) := by decide +kernel
theorem d_Canvas_lookAtLevel_20 : decode b_Canvas_lookAtLevel 20 = .ok (.getfield 51, 3) := by decide +kernel
theorem d_Canvas_lookAtLevel_23 : decode b_Canvas_lookAtLevel 23 = .ok (.aload_n 0, 1) := by decide +kernel
theorem d_Canvas_lookAtLevel_24 : decode b_Canvas_lookAtLevel 24 = .ok (.getfield 39, 3) := by decide +kernel
theorem d_Canvas_lookAtLevel_27 : decode b_Canvas_lookAtLevel 27 = .ok (.aload_n 1, 1) := by decide +kernel
theorem d_Canvas_lookAtLevel_28 : decode b_Canvas_lookAtLevel 28 = .ok (.getfield 154, 3) := by decide +kernel
theorem d_Canvas_lookAtLevel_31 : decode b_Canvas_lookAtLevel 31 = .ok (.iload_n 2, 1) := by decide +kernel
theorem d_Canvas_lookAtLevel_32 : decode b_Canvas_lookAtLevel 32 = .ok (.iaload, 1) := by decide +kernel
theorem d_Canvas_lookAtLevel_33 : decode b_Canvas_lookAtLevel 33 = .ok (.aload_n 1, 1) := by decide +kernel
theorem d_Canvas_lookAtLevel_34 : decode b_Canvas_lookAtLevel 34 = .ok (.getfield 158, 3) := by decide +kernel
theorem d_Canvas_lookAtLevel_37 : decode b_Canvas_lookAtLevel 37 = .ok (.iload_n 2, 1) := by decide +kernel
theorem d_Canvas_lookAtLevel_38 : decode b_Canvas_lookAtLevel 38 = .ok (.iaload, 1) := by decide +kernel
theorem d_Canvas_lookAtLevel_39 : decode b_Canvas_lookAtLevel 39 = .ok (.invokevirtual 268, 3) := by decide +kernel
theorem d_Canvas_lookAtLevel_42 : decode b_Canvas_lookAtLevel 42 = .ok (.return_, 1) := by decide +kernel
theorem d_Canvas_lookAtBand_0 : decode b_Canvas_lookAtBand 0 = .ok (.aload_n 1, 1) := by decide +kernel
theorem d_Canvas_lookAtBand_1 : decode b_Canvas_lookAtBand 1 = .ok (.getfield 141, 3) := by decide +kernel
theorem d_Canvas_lookAtBand_4 : decode b_Canvas_lookAtBand 4 = .ok (.iload_n 2, 1) := by decide +kernel
theorem d_Canvas_lookAtBand_5 : decode b_Canvas_lookAtBand 5 = .ok (.isub, 1) := by decide +kernel
theorem d_Canvas_lookAtBand_6 : decode b_Canvas_lookAtBand 6 = .ok (.iload_n 2, 1) := by decide +kernel
theorem d_Canvas_lookAtBand_7 : decode b_Canvas_lookAtBand 7 = .ok (.invokestatic 240, 3) := by decide +kernel
theorem d_Canvas_lookAtBand_10 : decode b_Canvas_lookAtBand 10 = .ok (.iadd, 1) := by decide +kernel
theorem d_Canvas_lookAtBand_11 : decode b_Canvas_lookAtBand 11 = .ok (.istore 4, 2) := by decide +kernel
theorem d_Canvas_lookAtBand_13 : decode b_Canvas_lookAtBand 13 = .ok (.aload_n 0, 1) := by decide +kernel
theorem d_Canvas_lookAtBand_14 : decode b_Canvas_lookAtBand 14 = .ok (.getfield 42, 3) := by decide +kernel
theorem d_Canvas_lookAtBand_17 : decode b_Canvas_lookAtBand 17 = .ok (.aload_n 0, 1) := by decide +kernel
theorem d_Canvas_lookAtBand_18 : decode b_Canvas_lookAtBand 18 = .ok (.getfield 36, 3) := by decide +kernel
theorem d_Canvas_lookAtBand_21 : decode b_Canvas_lookAtBand 21 = .ok (.iload 4, 2) := by decide +kernel
theorem d_Canvas_lookAtBand_23 : decode b_Canvas_lookAtBand 23 = .ok (.iload_n 3, 1) := by decide +kernel
theorem d_Canvas_lookAtBand_24 : decode b_Canvas_lookAtBand 24 = .ok (.iconst 1, 1) := by decide +kernel
theorem d_Canvas_lookAtBand_25 : decode b_Canvas_lookAtBand 25 = .ok (.iand, 1) := by decide +kernel
theorem d_Canvas_lookAtBand_26 : decode b_Canvas_lookAtBand 26 = .ok (.iload_n 3, 1) := by decide +kernel
theorem d_Canvas_lookAtBand_27 : decode b_Canvas_lookAtBand 27 = .ok (.iconst 1, 1) := by decide +kernel
theorem d_Canvas_lookAtBand_28 : decode b_Canvas_lookAtBand 28 = .ok (.ishr, 1) := by decide +kernel
theorem d_Canvas_lookAtBand_29 : decode b_Canvas_lookAtBand 29 = .ok (.invokevirtual 264, 3) := by decide +kernel
theorem d_Canvas_lookAtBand_32 : decode b_Canvas_lookAtBand 32 = .ok (.return_, 1) := by decide +kernel
theorem d_Canvas_lookAtShare_0 : decode b_Canvas_lookAtShare 0 = .ok (.iload_n 2, 1) := by decide +kernel
theorem d_Canvas_lookAtShare_1 : decode b_Canvas_lookAtShare 1 = .ok (.invokestatic 240, 3) := by decide +kernel
theorem d_Canvas_lookAtShare_4 : decode b_Canvas_lookAtShare 4 = .ok (.istore 4, 2) := by decide +kernel
theorem d_Canvas_lookAtShare_6 : decode b_Canvas_lookAtShare 6 = .ok (.aload_n 0, 1) := by decide +kernel
theorem d_Canvas_lookAtShare_7 : decode b_Canvas_lookAtShare 7 = .ok (.getfield 48, 3) := by decide +kernel
theorem d_Canvas_lookAtShare_10 : decode b_Canvas_lookAtShare 10 = .ok (.aload_n 0, 1) := by decide +kernel
theorem d_Canvas_lookAtShare_11 : decode b_Canvas_lookAtShare 11 = .ok (.getfield 42, 3) := by decide +kernel
theorem d_Canvas_lookAtShare_14 : decode b_Canvas_lookAtShare 14 = .ok (.aload_n 0, 1) := by decide +kernel
theorem d_Canvas_lookAtShare_15 : decode b_Canvas_lookAtShare 15 = .ok (.getfield 51, 3) := by decide +kernel
theorem d_Canvas_lookAtShare_18 : decode b_Canvas_lookAtShare 18 = .ok (.iload_n 3, 1) := by decide +kernel
theorem d_Canvas_lookAtShare_19 : decode b_Canvas_lookAtShare 19 = .ok (.invokevirtual 271, 3) := by decide +kernel
theorem d_Canvas_lookAtShare_22 : decode b_Canvas_lookAtShare 22 = .ok (.iload 4, 2) := by decide +kernel
theorem d_Canvas_lookAtShare_24 : decode b_Canvas_lookAtShare 24 = .ok (.ishr, 1) := by decide +kernel
theorem d_Canvas_lookAtShare_25 : decode b_Canvas_lookAtShare 25 = .ok (.aload_n 0, 1) := by decide +kernel
theorem d_Canvas_lookAtShare_26 : decode b_Canvas_lookAtShare 26 = .ok (.getfield 51, 3) := by decide +kernel
theorem d_Canvas_lookAtShare_29 : decode b_Canvas_lookAtShare 29 = .ok (.iload_n 3, 1) := by decide +kernel
theorem d_Canvas_lookAtShare_30 : decode b_Canvas_lookAtShare 30 = .ok (.invokevirtual 274, 3) := by decide +kernel
theorem d_Canvas_lookAtShare_33 : decode b_Canvas_lookAtShare 33 = .ok (.iload 4, 2) := by decide +kernel
theorem d_Canvas_lookAtShare_35 : decode b_Canvas_lookAtShare 35 = .ok (.ishr, 1) := by decide +kernel
theorem d_Canvas_lookAtShare_36 : decode b_Canvas_lookAtShare 36 = .ok (.aload_n 0, 1) := by decide +kernel
theorem d_Canvas_lookAtShare_37 : decode b_Canvas_lookAtShare 37 = .ok (.getfield 51, 3) := by decide +kernel
theorem d_Canvas_lookAtShare_40 : decode b_Canvas_lookAtShare 40 = .ok (.getfield 277, 3) := by decide +kernel
theorem d_Canvas_lookAtShare_43 : decode b_Canvas_lookAtShare 43 = .ok (.iload 4, 2) := by decide +kernel
theorem d_Canvas_lookAtShare_45 : decode b_Canvas_lookAtShare 45 = .ok (.ishr, 1) := by decide +kernel
theorem d_Canvas_lookAtShare_46 : decode b_Canvas_lookAtShare 46 = .ok (.aload_n 0, 1) := by decide +kernel
theorem d_Canvas_lookAtShare_47 : decode b_Canvas_lookAtShare 47 = .ok (.getfield 51, 3) := by decide +kernel
theorem d_Canvas_lookAtShare_50 : decode b_Canvas_lookAtShare 50 = .ok (.getfield 280, 3) := by decide +kernel
theorem d_Canvas_lookAtShare_53 : decode b_Canvas_lookAtShare 53 = .ok (.iload 4, 2) := by decide +kernel
theorem d_Canvas_lookAtShare_55 : decode b_Canvas_lookAtShare 55 = .ok (.ishr, 1) := by decide +kernel
theorem d_Canvas_lookAtShare_56 : decode b_Canvas_lookAtShare 56 = .ok (.invokevirtual 283, 3) := by decide +kernel
theorem d_Canvas_lookAtShare_59 : decode b_Canvas_lookAtShare 59 = .ok (.aload_n 0, 1) := by decide +kernel
theorem d_Canvas_lookAtShare_60 : decode b_Canvas_lookAtShare 60 = .ok (.getfield 48, 3) := by decide +kernel
theorem d_Canvas_lookAtShare_63 : decode b_Canvas_lookAtShare 63 = .ok (.invokevirtual 74, 3) := by decide +kernel
theorem d_Canvas_lookAtShare_66 : decode b_Canvas_lookAtShare 66 = .ok (.ifCond .eq 14, 3) := by decide +kernel
theorem d_Canvas_lookAtShare_69 : decode b_Canvas_lookAtShare 69 = .ok (.aload_n 0, 1) := by decide +kernel
theorem d_Canvas_lookAtShare_70 : decode b_Canvas_lookAtShare 70 = .ok (.getfield 48, 3) := by decide +kernel
theorem d_Canvas_lookAtShare_73 : decode b_Canvas_lookAtShare 73 = .ok (.iconst 0, 1) := by decide +kernel
theorem d_Canvas_lookAtShare_74 : decode b_Canvas_lookAtShare 74 = .ok (.iconst 0, 1) := by decide +kernel
theorem d_Canvas_lookAtShare_75 : decode b_Canvas_lookAtShare 75 = .ok (.iconst 0, 1) := by decide +kernel
theorem d_Canvas_lookAtShare_76 : decode b_Canvas_lookAtShare 76 = .ok (.iconst 0, 1) := by decide +kernel
theorem d_Canvas_lookAtShare_77 : decode b_Canvas_lookAtShare 77 = .ok (.invokevirtual 66, 3) := by decide +kernel
theorem d_Canvas_lookAtShare_80 : decode b_Canvas_lookAtShare 80 = .ok (.aload_n 0, 1) := by decide +kernel
theorem d_Canvas_lookAtShare_81 : decode b_Canvas_lookAtShare 81 = .ok (.aload_n 0, 1) := by decide +kernel
theorem d_Canvas_lookAtShare_82 : decode b_Canvas_lookAtShare 82 = .ok (.getfield 48, 3) := by decide +kernel
theorem d_Canvas_lookAtShare_85 : decode b_Canvas_lookAtShare 85 = .ok (.aload_n 1, 1) := by decide +kernel
theorem d_Canvas_lookAtShare_86 : decode b_Canvas_lookAtShare 86 = .ok (.iload_n 2, 1) := by decide +kernel
theorem d_Canvas_lookAtShare_87 : decode b_Canvas_lookAtShare 87 = .ok (.invokevirtual 287, 3) := by decide +kernel
theorem d_Canvas_lookAtShare_90 : decode b_Canvas_lookAtShare 90 = .ok (.return_, 1) := by decide +kernel
theorem d_Canvas_layBlocks_0 : decode b_Canvas_layBlocks 0 = .ok (.aload_n 0, 1) := by decide +kernel
theorem d_Canvas_layBlocks_1 : decode b_Canvas_layBlocks 1 = .ok (.getfield 54, 3) := by decide +kernel
theorem d_Canvas_layBlocks_4 : decode b_Canvas_layBlocks 4 = .ok (.aload_n 1, 1) := by decide +kernel
theorem d_Canvas_layBlocks_5 : decode b_Canvas_layBlocks 5 = .ok (.aload_n 2, 1) := by decide +kernel
theorem d_Canvas_layBlocks_6 : decode b_Canvas_layBlocks 6 = .ok (.iload_n 3, 1) := by decide +kernel
theorem d_Canvas_layBlocks_7 : decode b_Canvas_layBlocks 7 = .ok (.invokevirtual 196, 3) := by decide +kernel
theorem d_Canvas_layBlocks_10 : decode b_Canvas_layBlocks 10 = .ok (.aload_n 2, 1) := by decide +kernel
theorem d_Canvas_layBlocks_11 : decode b_Canvas_layBlocks 11 = .ok (.iload_n 3, 1) := by decide +kernel
theorem d_Canvas_layBlocks_12 : decode b_Canvas_layBlocks 12 = .ok (.invokevirtual 199, 3) := by decide +kernel
theorem d_Canvas_layBlocks_15 : decode b_Canvas_layBlocks 15 = .ok (.invokevirtual 268, 3) := by decide +kernel
theorem d_Canvas_layBlocks_18 : decode b_Canvas_layBlocks 18 = .ok (.return_, 1) := by decide +kernel
theorem d_Canvas_countBlocks_0 : decode b_Canvas_countBlocks 0 = .ok (.iconst 0, 1) := by decide +kernel
theorem d_Canvas_countBlocks_1 : decode b_Canvas_countBlocks 1 = .ok (.istore_n 2, 1) := by decide +kernel
theorem d_Canvas_countBlocks_2 : decode b_Canvas_countBlocks 2 = .ok (.iconst 0, 1) := by decide +kernel
theorem d_Canvas_countBlocks_3 : decode b_Canvas_countBlocks 3 = .ok (.istore_n 3, 1) := by decide +kernel
theorem d_Canvas_countBlocks_4 : decode b_Canvas_countBlocks 4 = .ok (.iload_n 3, 1) := by decide +kernel
theorem d_Canvas_countBlocks_5 : decode b_Canvas_countBlocks 5 = .ok (.aload_n 1, 1) := by decide +kernel
theorem d_Canvas_countBlocks_6 : decode b_Canvas_countBlocks 6 = .ok (.getfield 141, 3) := by decide +kernel
theorem d_Canvas_countBlocks_9 : decode b_Canvas_countBlocks 9 = .ok (.if_icmp .gt 58, 3) := by decide +kernel
theorem d_Canvas_countBlocks_12 : decode b_Canvas_countBlocks 12 = .ok (.iload_n 3, 1) := by decide +kernel
theorem d_Canvas_countBlocks_13 : decode b_Canvas_countBlocks 13 = .ok (.invokestatic 258, 3) := by decide +kernel
theorem d_Canvas_countBlocks_16 : decode b_Canvas_countBlocks 16 = .ok (.istore 4, 2) := by decide +kernel
theorem d_Canvas_countBlocks_18 : decode b_Canvas_countBlocks 18 = .ok (.iload 4, 2) := by decide +kernel
theorem d_Canvas_countBlocks_20 : decode b_Canvas_countBlocks 20 = .ok (.iload_n 3, 1) := by decide +kernel
theorem d_Canvas_countBlocks_21 : decode b_Canvas_countBlocks 21 = .ok (.invokestatic 261, 3) := by decide +kernel
theorem d_Canvas_countBlocks_24 : decode b_Canvas_countBlocks 24 = .ok (.if_icmp .gt 37, 3) := by decide +kernel
theorem d_Canvas_countBlocks_27 : decode b_Canvas_countBlocks 27 = .ok (.aload_n 0, 1) := by decide +kernel
theorem d_Canvas_countBlocks_28 : decode b_Canvas_countBlocks 28 = .ok (.aload_n 1, 1) := by decide +kernel
theorem d_Canvas_countBlocks_29 : decode b_Canvas_countBlocks 29 = .ok (.iload_n 3, 1) := by decide +kernel
theorem d_Canvas_countBlocks_30 : decode b_Canvas_countBlocks 30 = .ok (.iload 4, 2) := by decide +kernel
theorem d_Canvas_countBlocks_32 : decode b_Canvas_countBlocks 32 = .ok (.invokevirtual 247, 3) := by decide +kernel
theorem d_Canvas_countBlocks_35 : decode b_Canvas_countBlocks 35 = .ok (.aload_n 0, 1) := by decide +kernel
theorem d_Canvas_countBlocks_36 : decode b_Canvas_countBlocks 36 = .ok (.aload_n 0, 1) := by decide +kernel
theorem d_Canvas_countBlocks_37 : decode b_Canvas_countBlocks 37 = .ok (.getfield 42, 3) := by decide +kernel
theorem d_Canvas_countBlocks_40 : decode b_Canvas_countBlocks 40 = .ok (.aload_n 1, 1) := by decide +kernel
theorem d_Canvas_countBlocks_41 : decode b_Canvas_countBlocks 41 = .ok (.iload_n 3, 1) := by decide +kernel
theorem d_Canvas_countBlocks_42 : decode b_Canvas_countBlocks 42 = .ok (.invokevirtual 287, 3) := by decide +kernel
theorem d_Canvas_countBlocks_45 : decode b_Canvas_countBlocks 45 = .ok (.iload_n 2, 1) := by decide +kernel
theorem d_Canvas_countBlocks_46 : decode b_Canvas_countBlocks 46 = .ok (.aload_n 0, 1) := by decide +kernel
theorem d_Canvas_countBlocks_47 : decode b_Canvas_countBlocks 47 = .ok (.getfield 54, 3) := by decide +kernel
theorem d_Canvas_countBlocks_50 : decode b_Canvas_countBlocks 50 = .ok (.invokevirtual 113, 3) := by decide +kernel
theorem d_Canvas_countBlocks_53 : decode b_Canvas_countBlocks 53 = .ok (.iadd, 1) := by decide +kernel
theorem d_Canvas_countBlocks_54 : decode b_Canvas_countBlocks 54 = .ok (.istore_n 2, 1) := by decide +kernel
theorem d_Canvas_countBlocks_55 : decode b_Canvas_countBlocks 55 = .ok (.iinc 4 1, 3) := by decide +kernel
theorem d_Canvas_countBlocks_58 : decode b_Canvas_countBlocks 58 = .ok (.goto (-40), 3) := by decide +kernel
theorem d_Canvas_countBlocks_61 : decode b_Canvas_countBlocks 61 = .ok (.iinc 3 1, 3) := by decide +kernel
theorem d_Canvas_countBlocks_64 : decode b_Canvas_countBlocks 64 = .ok (.goto (-60), 3) := by decide +kernel
theorem d_Canvas_countBlocks_67 : decode b_Canvas_countBlocks 67 = .ok (.iload_n 2, 1) := by decide +kernel
theorem d_Canvas_countBlocks_68 : decode b_Canvas_countBlocks 68 = .ok (.ireturn, 1) := by decide +kernel
theorem d_Canvas_edgeOrCount_0 : decode b_Canvas_edgeOrCount 0 = .ok (.iload_n 2, 1) := by decide +kernel
theorem d_Canvas_edgeOrCount_1 : decode b_Canvas_edgeOrCount 1 = .ok (.iconst 3, 1) := by decide +kernel
theorem d_Canvas_edgeOrCount_2 : decode b_Canvas_edgeOrCount 2 = .ok (.if_icmp .gt 9, 3) := by decide +kernel
theorem d_Canvas_edgeOrCount_5 : decode b_Canvas_edgeOrCount 5 = .ok (.aload_n 0, 1) := by decide +kernel
theorem d_Canvas_edgeOrCount_6 : decode b_Canvas_edgeOrCount 6 = .ok (.iload_n 2, 1) := by decide +kernel
theorem d_Canvas_edgeOrCount_7 : decode b_Canvas_edgeOrCount 7 = .ok (.invokevirtual 166, 3) := by decide +kernel
theorem d_Canvas_edgeOrCount_10 : decode b_Canvas_edgeOrCount 10 = .ok (.ireturn, 1) := by decide +kernel
theorem d_Canvas_edgeOrCount_11 : decode b_Canvas_edgeOrCount 11 = .ok (.iload_n 2, 1) := by decide +kernel
theorem d_Canvas_edgeOrCount_12 : decode b_Canvas_edgeOrCount 12 = .ok (.iconst 4, 1) := by decide +kernel
theorem d_Canvas_edgeOrCount_13 : decode b_Canvas_edgeOrCount 13 = .ok (.if_icmp .ne 10, 3) := by decide +kernel
theorem d_Canvas_edgeOrCount_16 : decode b_Canvas_edgeOrCount 16 = .ok (.aload_n 1, 1) := by decide +kernel
theorem d_Canvas_edgeOrCount_17 : decode b_Canvas_edgeOrCount 17 = .ok (.getfield 291, 3) := by decide +kernel
theorem d_Canvas_edgeOrCount_20 : decode b_Canvas_edgeOrCount 20 = .ok (.goto 7, 3) := by decide +kernel
theorem d_Canvas_edgeOrCount_23 : decode b_Canvas_edgeOrCount 23 = .ok (.aload_n 1, 1) := by decide +kernel
theorem d_Canvas_edgeOrCount_24 : decode b_Canvas_edgeOrCount 24 = .ok (.getfield 294, 3) := by decide +kernel
theorem d_Canvas_edgeOrCount_27 : decode b_Canvas_edgeOrCount 27 = .ok (.ireturn, 1) := by decide +kernel
