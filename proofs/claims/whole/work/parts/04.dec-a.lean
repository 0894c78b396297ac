theorem d_Box_init_0 : decode b_Box_init 0 = .ok (.aload_n 0, 1) := by decide +kernel
theorem d_Box_init_1 : decode b_Box_init 1 = .ok (.invokespecial 1, 3) := by decide +kernel
theorem d_Box_init_4 : decode b_Box_init 4 = .ok (.aload_n 0, 1) := by decide +kernel
theorem d_Box_init_5 : decode b_Box_init 5 = .ok (.iconst 0, 1) := by decide +kernel
theorem d_Box_init_6 : decode b_Box_init 6 = .ok (.putfield 7, 3) := by decide +kernel
theorem d_Box_init_9 : decode b_Box_init 9 = .ok (.aload_n 0, 1) := by decide +kernel
theorem d_Box_init_10 : decode b_Box_init 10 = .ok (.iconst 0, 1) := by decide +kernel
theorem d_Box_init_11 : decode b_Box_init 11 = .ok (.putfield 13, 3) := by decide +kernel
theorem d_Box_init_14 : decode b_Box_init 14 = .ok (.aload_n 0, 1) := by decide +kernel
theorem d_Box_init_15 : decode b_Box_init 15 = .ok (.iconst 0, 1) := by decide +kernel
theorem d_Box_init_16 : decode b_Box_init 16 = .ok (.putfield 16, 3) := by decide +kernel
theorem d_Box_init_19 : decode b_Box_init 19 = .ok (.aload_n 0, 1) := by decide +kernel
theorem d_Box_init_20 : decode b_Box_init 20 = .ok (.iconst 0, 1) := by decide +kernel
theorem d_Box_init_21 : decode b_Box_init 21 = .ok (.putfield 19, 3) := by decide +kernel
theorem d_Box_init_24 : decode b_Box_init 24 = .ok (.return_, 1) := by decide +kernel
theorem d_Box_set_0 : decode b_Box_set 0 = .ok (.aload_n 0, 1) := by decide +kernel
theorem d_Box_set_1 : decode b_Box_set 1 = .ok (.iload_n 1, 1) := by decide +kernel
theorem d_Box_set_2 : decode b_Box_set 2 = .ok (.putfield 7, 3) := by decide +kernel
theorem d_Box_set_5 : decode b_Box_set 5 = .ok (.aload_n 0, 1) := by decide +kernel
theorem d_Box_set_6 : decode b_Box_set 6 = .ok (.iload_n 2, 1) := by decide +kernel
theorem d_Box_set_7 : decode b_Box_set 7 = .ok (.putfield 13, 3) := by decide +kernel
theorem d_Box_set_10 : decode b_Box_set 10 = .ok (.aload_n 0, 1) := by decide +kernel
theorem d_Box_set_11 : decode b_Box_set 11 = .ok (.iload_n 3, 1) := by decide +kernel
theorem d_Box_set_12 : decode b_Box_set 12 = .ok (.putfield 16, 3) := by decide +kernel
theorem d_Box_set_15 : decode b_Box_set 15 = .ok (.aload_n 0, 1) := by decide +kernel
theorem d_Box_set_16 : decode b_Box_set 16 = .ok (.iload 4, 2) := by decide +kernel
theorem d_Box_set_18 : decode b_Box_set 18 = .ok (.putfield 19, 3) := by decide +kernel
theorem d_Box_set_21 : decode b_Box_set 21 = .ok (.return_, 1) := by decide +kernel
theorem d_Box_isEmpty_0 : decode b_Box_isEmpty 0 = .ok (.aload_n 0, 1) := by decide +kernel
theorem d_Box_isEmpty_1 : decode b_Box_isEmpty 1 = .ok (.getfield 7, 3) := by decide +kernel
theorem d_Box_isEmpty_4 : decode b_Box_isEmpty 4 = .ok (.aload_n 0, 1) := by decide +kernel
theorem d_Box_isEmpty_5 : decode b_Box_isEmpty 5 = .ok (.getfield 16, 3) := by decide +kernel
theorem d_Box_isEmpty_8 : decode b_Box_isEmpty 8 = .ok (.if_icmp .ge 14, 3) := by decide +kernel
theorem d_Box_isEmpty_11 : decode b_Box_isEmpty 11 = .ok (.aload_n 0, 1) := by decide +kernel
theorem d_Box_isEmpty_12 : decode b_Box_isEmpty 12 = .ok (.getfield 13, 3) := by decide +kernel
theorem d_Box_isEmpty_15 : decode b_Box_isEmpty 15 = .ok (.aload_n 0, 1) := by decide +kernel
theorem d_Box_isEmpty_16 : decode b_Box_isEmpty 16 = .ok (.getfield 19, 3) := by decide +kernel
theorem d_Box_isEmpty_19 : decode b_Box_isEmpty 19 = .ok (.if_icmp .lt 7, 3) := by decide +kernel
theorem d_Box_isEmpty_22 : decode b_Box_isEmpty 22 = .ok (.iconst 1, 1) := by decide +kernel
theorem d_Box_isEmpty_23 : decode b_Box_isEmpty 23 = .ok (.goto 4, 3) := by decide +kernel
theorem d_Box_isEmpty_26 : decode b_Box_isEmpty 26 = .ok (.iconst 0, 1) := by decide +kernel
theorem d_Box_isEmpty_27 : decode b_Box_isEmpty 27 = .ok (.ireturn, 1) := by decide +kernel
theorem d_Box_has_0 : decode b_Box_has 0 = .ok (.lload_n 1, 1) := by decide +kernel
theorem d_Box_has_1 : decode b_Box_has 1 = .ok (.aload_n 0, 1) := by decide +kernel
theorem d_Box_has_2 : decode b_Box_has 2 = .ok (.getfield 7, 3) := by decide +kernel
theorem d_Box_has_5 : decode b_Box_has 5 = .ok (.i2l, 1) := by decide +kernel
theorem d_Box_has_6 : decode b_Box_has 6 = .ok (.lcmp, 1) := by decide +kernel
theorem d_Box_has_7 : decode b_Box_has 7 = .ok (.ifCond .lt 37, 3) := by decide +kernel
theorem d_Box_has_10 : decode b_Box_has 10 = .ok (.lload_n 1, 1) := by decide +kernel
theorem d_Box_has_11 : decode b_Box_has 11 = .ok (.aload_n 0, 1) := by decide +kernel
theorem d_Box_has_12 : decode b_Box_has 12 = .ok (.getfield 16, 3) := by decide +kernel
theorem d_Box_has_15 : decode b_Box_has 15 = .ok (.i2l, 1) := by decide +kernel
theorem d_Box_has_16 : decode b_Box_has 16 = .ok (.lcmp, 1) := by decide +kernel
theorem d_Box_has_17 : decode b_Box_has 17 = .ok (.ifCond .ge 27, 3) := by decide +kernel
theorem d_Box_has_20 : decode b_Box_has 20 = .ok (.lload_n 3, 1) := by decide +kernel
theorem d_Box_has_21 : decode b_Box_has 21 = .ok (.aload_n 0, 1) := by decide +kernel
theorem d_Box_has_22 : decode b_Box_has 22 = .ok (.getfield 13, 3) := by decide +kernel
theorem d_Box_has_25 : decode b_Box_has 25 = .ok (.i2l, 1) := by decide +kernel
theorem d_Box_has_26 : decode b_Box_has 26 = .ok (.lcmp, 1) := by decide +kernel
theorem d_Box_has_27 : decode b_Box_has 27 = .ok (.ifCond .lt 17, 3) := by decide +kernel
theorem d_Box_has_30 : decode b_Box_has 30 = .ok (.lload_n 3, 1) := by decide +kernel
theorem d_Box_has_31 : decode b_Box_has 31 = .ok (.aload_n 0, 1) := by decide +kernel
theorem d_Box_has_32 : decode b_Box_has 32 = .ok (.getfield 19, 3) := by decide +kernel
theorem d_Box_has_35 : decode b_Box_has 35 = .ok (.i2l, 1) := by decide +kernel
theorem d_Box_has_36 : decode b_Box_has 36 = .ok (.lcmp, 1) := by decide +kernel
theorem d_Box_has_37 : decode b_Box_has 37 = .ok (.ifCond .ge 7, 3) := by decide +kernel
theorem d_Box_has_40 : decode b_Box_has 40 = .ok (.iconst 1, 1) := by decide +kernel
theorem d_Box_has_41 : decode b_Box_has 41 = .ok (.goto 4, 3) := by decide +kernel
theorem d_Box_has_44 : decode b_Box_has 44 = .ok (.iconst 0, 1) := by decide +kernel
theorem d_Box_has_45 : decode b_Box_has 45 = .ok (.ireturn, 1) := by decide +kernel
theorem d_Box_edge_0 : decode b_Box_edge 0 = .ok (.iload_n 1, 1) := by decide +kernel
theorem d_Box_edge_1 : decode b_Box_edge 1 = .ok (.tableswitch 42 0 2 #[27, 32, 37], 27) := by decide +kernel
theorem d_Box_edge_28 : decode b_Box_edge 28 = .ok (.aload_n 0, 1) := by decide +kernel
theorem d_Box_edge_29 : decode b_Box_edge 29 = .ok (.getfield 7, 3) := by decide +kernel
theorem d_Box_edge_32 : decode b_Box_edge 32 = .ok (.ireturn, 1) := by decide +kernel
theorem d_Box_edge_33 : decode b_Box_edge 33 = .ok (.aload_n 0, 1) := by decide +kernel
theorem d_Box_edge_34 : decode b_Box_edge 34 = .ok (.getfield 13, 3) := by decide +kernel
theorem d_Box_edge_37 : decode b_Box_edge 37 = .ok (.ireturn, 1) := by decide +kernel
theorem d_Box_edge_38 : decode b_Box_edge 38 = .ok (.aload_n 0, 1) := by decide +kernel
theorem d_Box_edge_39 : decode b_Box_edge 39 = .ok (.getfield 16, 3) := by decide +kernel
theorem d_Box_edge_42 : decode b_Box_edge 42 = .ok (.ireturn, 1) := by decide +kernel
theorem d_Box_edge_43 : decode b_Box_edge 43 = .ok (.aload_n 0, 1) := by decide +kernel
theorem d_Box_edge_44 : decode b_Box_edge 44 = .ok (.getfield 19, 3) := by decide +kernel
theorem d_Box_edge_47 : decode b_Box_edge 47 = .ok (.ireturn, 1) := by decide +kernel
theorem d_Box_divide_0 : decode b_Box_divide 0 = .ok (.aload_n 0, 1) := by decide +kernel
theorem d_Box_divide_1 : decode b_Box_divide 1 = .ok (.aload_n 1, 1) := by decide +kernel
theorem d_Box_divide_2 : decode b_Box_divide 2 = .ok (.getfield 7, 3) := by decide +kernel
theorem d_Box_divide_5 : decode b_Box_divide 5 = .ok (.iload_n 2, 1) := by decide +kernel
theorem d_Box_divide_6 : decode b_Box_divide 6 = .ok (.invokestatic 22, 3) := by decide +kernel
theorem d_Box_divide_9 : decode b_Box_divide 9 = .ok (.aload_n 1, 1) := by decide +kernel
theorem d_Box_divide_10 : decode b_Box_divide 10 = .ok (.getfield 13, 3) := by decide +kernel
theorem d_Box_divide_13 : decode b_Box_divide 13 = .ok (.iload_n 3, 1) := by decide +kernel
theorem d_Box_divide_14 : decode b_Box_divide 14 = .ok (.invokestatic 22, 3) := by decide +kernel
theorem d_Box_divide_17 : decode b_Box_divide 17 = .ok (.aload_n 1, 1) := by decide +kernel
theorem d_Box_divide_18 : decode b_Box_divide 18 = .ok (.getfield 16, 3) := by decide +kernel
theorem d_Box_divide_21 : decode b_Box_divide 21 = .ok (.iload_n 2, 1) := by decide +kernel
theorem d_Box_divide_22 : decode b_Box_divide 22 = .ok (.invokestatic 22, 3) := by decide +kernel
theorem d_Box_divide_25 : decode b_Box_divide 25 = .ok (.aload_n 1, 1) := by decide +kernel
theorem d_Box_divide_26 : decode b_Box_divide 26 = .ok (.getfield 19, 3) := by decide +kernel
theorem d_Box_divide_29 : decode b_Box_divide 29 = .ok (.iload_n 3, 1) := by decide +kernel
theorem d_Box_divide_30 : decode b_Box_divide 30 = .ok (.invokestatic 22, 3) := by decide +kernel
theorem d_Box_divide_33 : decode b_Box_divide 33 = .ok (.invokevirtual 26, 3) := by decide +kernel
theorem d_Box_divide_36 : decode b_Box_divide 36 = .ok (.return_, 1) := by decide +kernel
theorem d_Box_divided_0 : decode b_Box_divided 0 = .ok (.iload_n 1, 1) := by decide +kernel
theorem d_Box_divided_1 : decode b_Box_divided 1 = .ok (.iconst 1, 1) := by decide +kernel
theorem d_Box_divided_2 : decode b_Box_divided 2 = .ok (.if_icmp .ge 7, 3) := by decide +kernel
theorem d_Box_divided_5 : decode b_Box_divided 5 = .ok (.iload_n 0, 1) := by decide +kernel
theorem d_Box_divided_6 : decode b_Box_divided 6 = .ok (.goto 10, 3) := by decide +kernel
theorem d_Box_divided_9 : decode b_Box_divided 9 = .ok (.iload_n 0, 1) := by decide +kernel
theorem d_Box_divided_10 : decode b_Box_divided 10 = .ok (.iload_n 1, 1) := by decide +kernel
theorem d_Box_divided_11 : decode b_Box_divided 11 = .ok (.iadd, 1) := by decide +kernel
theorem d_Box_divided_12 : decode b_Box_divided 12 = .ok (.iconst 1, 1) := by decide +kernel
theorem d_Box_divided_13 : decode b_Box_divided 13 = .ok (.isub, 1) := by decide +kernel
theorem d_Box_divided_14 : decode b_Box_divided 14 = .ok (.iload_n 1, 1) := by decide +kernel
theorem d_Box_divided_15 : decode b_Box_divided 15 = .ok (.idiv, 1) := by decide +kernel
theorem d_Box_divided_16 : decode b_Box_divided 16 = .ok (.ireturn, 1) := by decide +kernel
theorem d_Box_scale_0 : decode b_Box_scale 0 = .ok (.aload_n 0, 1) := by decide +kernel
theorem d_Box_scale_1 : decode b_Box_scale 1 = .ok (.aload_n 1, 1) := by decide +kernel
theorem d_Box_scale_2 : decode b_Box_scale 2 = .ok (.getfield 7, 3) := by decide +kernel
theorem d_Box_scale_5 : decode b_Box_scale 5 = .ok (.iload_n 2, 1) := by decide +kernel
theorem d_Box_scale_6 : decode b_Box_scale 6 = .ok (.iload_n 3, 1) := by decide +kernel
theorem d_Box_scale_7 : decode b_Box_scale 7 = .ok (.invokestatic 30, 3) := by decide +kernel
theorem d_Box_scale_10 : decode b_Box_scale 10 = .ok (.aload_n 1, 1) := by decide +kernel
theorem d_Box_scale_11 : decode b_Box_scale 11 = .ok (.getfield 13, 3) := by decide +kernel
theorem d_Box_scale_14 : decode b_Box_scale 14 = .ok (.iload_n 2, 1) := by decide +kernel
theorem d_Box_scale_15 : decode b_Box_scale 15 = .ok (.iload 4, 2) := by decide +kernel
theorem d_Box_scale_17 : decode b_Box_scale 17 = .ok (.invokestatic 30, 3) := by decide +kernel
theorem d_Box_scale_20 : decode b_Box_scale 20 = .ok (.aload_n 1, 1) := by decide +kernel
theorem d_Box_scale_21 : decode b_Box_scale 21 = .ok (.getfield 16, 3) := by decide +kernel
theorem d_Box_scale_24 : decode b_Box_scale 24 = .ok (.iload_n 2, 1) := by decide +kernel
theorem d_Box_scale_25 : decode b_Box_scale 25 = .ok (.iload_n 3, 1) := by decide +kernel
theorem d_Box_scale_26 : decode b_Box_scale 26 = .ok (.invokestatic 30, 3) := by decide +kernel
theorem d_Box_scale_29 : decode b_Box_scale 29 = .ok (.aload_n 1, 1) := by decide +kernel
theorem d_Box_scale_30 : decode b_Box_scale 30 = .ok (.getfield 19, 3) := by decide +kernel
theorem d_Box_scale_33 : decode b_Box_scale 33 = .ok (.iload_n 2, 1) := by decide +kernel
theorem d_Box_scale_34 : decode b_Box_scale 34 = .ok (.iload 4, 2) := by decide +kernel
theorem d_Box_scale_36 : decode b_Box_scale 36 = .ok (.invokestatic 30, 3) := by decide +kernel
theorem d_Box_scale_39 : decode b_Box_scale 39 = .ok (.invokevirtual 26, 3) := by decide +kernel
theorem d_Box_scale_42 : decode b_Box_scale 42 = .ok (.return_, 1) := by decide +kernel
theorem d_Box_scaled_0 : decode b_Box_scaled 0 = .ok (.lconst 1, 1) := by decide +kernel
theorem d_Box_scaled_1 : decode b_Box_scaled 1 = .ok (.iload_n 1, 1) := by decide +kernel
theorem d_Box_scaled_2 : decode b_Box_scaled 2 = .ok (.lshl, 1) := by decide +kernel
theorem d_Box_scaled_3 : decode b_Box_scaled 3 = .ok (.lstore_n 3, 1) := by decide +kernel
theorem d_Box_scaled_4 : decode b_Box_scaled 4 = .ok (.iload_n 2, 1) := by decide +kernel
theorem d_Box_scaled_5 : decode b_Box_scaled 5 = .ok (.i2l, 1) := by decide +kernel
theorem d_Box_scaled_6 : decode b_Box_scaled 6 = .ok (.lload_n 3, 1) := by decide +kernel
theorem d_Box_scaled_7 : decode b_Box_scaled 7 = .ok (.iconst 1, 1) := by decide +kernel
theorem d_Box_scaled_8 : decode b_Box_scaled 8 = .ok (.lshr, 1) := by decide +kernel
theorem d_Box_scaled_9 : decode b_Box_scaled 9 = .ok (.lmul, 1) := by decide +kernel
theorem d_Box_scaled_10 : decode b_Box_scaled 10 = .ok (.lstore 5, 2) := by decide +kernel
theorem d_Box_scaled_12 : decode b_Box_scaled 12 = .ok (.iload_n 0, 1) := by decide +kernel
theorem d_Box_scaled_13 : decode b_Box_scaled 13 = .ok (.i2l, 1) := by decide +kernel
theorem d_Box_scaled_14 : decode b_Box_scaled 14 = .ok (.lload 5, 2) := by decide +kernel
theorem d_Box_scaled_16 : decode b_Box_scaled 16 = .ok (.lsub, 1) := by decide +kernel
theorem d_Box_scaled_17 : decode b_Box_scaled 17 = .ok (.lload_n 3, 1) := by decide +kernel
theorem d_Box_scaled_18 : decode b_Box_scaled 18 = .ok (.ladd, 1) := by decide +kernel
theorem d_Box_scaled_19 : decode b_Box_scaled 19 = .ok (.lconst 1, 1) := by decide +kernel
theorem d_Box_scaled_20 : decode b_Box_scaled 20 = .ok (.lsub, 1) := by decide +kernel
theorem d_Box_scaled_21 : decode b_Box_scaled 21 = .ok (.iload_n 1, 1) := by decide +kernel
theorem d_Box_scaled_22 : decode b_Box_scaled 22 = .ok (.lshr, 1) := by decide +kernel
theorem d_Box_scaled_23 : decode b_Box_scaled 23 = .ok (.l2i, 1) := by decide +kernel
theorem d_Box_scaled_24 : decode b_Box_scaled 24 = .ok (.ireturn, 1) := by decide +kernel
theorem d_Box_cut_0 : decode b_Box_cut 0 = .ok (.aload_n 0, 1) := by decide +kernel
theorem d_Box_cut_1 : decode b_Box_cut 1 = .ok (.aload_n 1, 1) := by decide +kernel
theorem d_Box_cut_2 : decode b_Box_cut 2 = .ok (.getfield 7, 3) := by decide +kernel
theorem d_Box_cut_5 : decode b_Box_cut 5 = .ok (.iload_n 2, 1) := by decide +kernel
theorem d_Box_cut_6 : decode b_Box_cut 6 = .ok (.invokestatic 34, 3) := by decide +kernel
theorem d_Box_cut_9 : decode b_Box_cut 9 = .ok (.aload_n 1, 1) := by decide +kernel
theorem d_Box_cut_10 : decode b_Box_cut 10 = .ok (.getfield 13, 3) := by decide +kernel
theorem d_Box_cut_13 : decode b_Box_cut 13 = .ok (.iload_n 3, 1) := by decide +kernel
theorem d_Box_cut_14 : decode b_Box_cut 14 = .ok (.invokestatic 34, 3) := by decide +kernel
theorem d_Box_cut_17 : decode b_Box_cut 17 = .ok (.aload_n 1, 1) := by decide +kernel
theorem d_Box_cut_18 : decode b_Box_cut 18 = .ok (.getfield 16, 3) := by decide +kernel
theorem d_Box_cut_21 : decode b_Box_cut 21 = .ok (.iload_n 2, 1) := by decide +kernel
theorem d_Box_cut_22 : decode b_Box_cut 22 = .ok (.iload 4, 2) := by decide +kernel
theorem d_Box_cut_24 : decode b_Box_cut 24 = .ok (.iadd, 1) := by decide +kernel
theorem d_Box_cut_25 : decode b_Box_cut 25 = .ok (.invokestatic 39, 3) := by decide +kernel
theorem d_Box_cut_28 : decode b_Box_cut 28 = .ok (.aload_n 1, 1) := by decide +kernel
theorem d_Box_cut_29 : decode b_Box_cut 29 = .ok (.getfield 19, 3) := by decide +kernel
theorem d_Box_cut_32 : decode b_Box_cut 32 = .ok (.iload_n 3, 1) := by decide +kernel
theorem d_Box_cut_33 : decode b_Box_cut 33 = .ok (.iload 5, 2) := by decide +kernel
theorem d_Box_cut_35 : decode b_Box_cut 35 = .ok (.iadd, 1) := by decide +kernel
theorem d_Box_cut_36 : decode b_Box_cut 36 = .ok (.invokestatic 39, 3) := by decide +kernel
theorem d_Box_cut_39 : decode b_Box_cut 39 = .ok (.invokevirtual 26, 3) := by decide +kernel
theorem d_Box_cut_42 : decode b_Box_cut 42 = .ok (.return_, 1) := by decide +kernel
theorem d_Box_takeCell_0 : decode b_Box_takeCell 0 = .ok (.aload_n 0, 1) := by decide +kernel
theorem d_Box_takeCell_1 : decode b_Box_takeCell 1 = .ok (.aload_n 1, 1) := by decide +kernel
theorem d_Box_takeCell_2 : decode b_Box_takeCell 2 = .ok (.aload_n 2, 1) := by decide +kernel
theorem d_Box_takeCell_3 : decode b_Box_takeCell 3 = .ok (.iload_n 3, 1) := by decide +kernel
theorem d_Box_takeCell_4 : decode b_Box_takeCell 4 = .ok (.invokevirtual 42, 3) := by decide +kernel
theorem d_Box_takeCell_7 : decode b_Box_takeCell 7 = .ok (.aload_n 2, 1) := by decide +kernel
theorem d_Box_takeCell_8 : decode b_Box_takeCell 8 = .ok (.iload_n 3, 1) := by decide +kernel
theorem d_Box_takeCell_9 : decode b_Box_takeCell 9 = .ok (.invokevirtual 48, 3) := by decide +kernel
theorem d_Box_takeCell_12 : decode b_Box_takeCell 12 = .ok (.aload_n 2, 1) := by decide +kernel
theorem d_Box_takeCell_13 : decode b_Box_takeCell 13 = .ok (.getfield 51, 3) := by decide +kernel
theorem d_Box_takeCell_16 : decode b_Box_takeCell 16 = .ok (.aload_n 2, 1) := by decide +kernel
theorem d_Box_takeCell_17 : decode b_Box_takeCell 17 = .ok (.getfield 54, 3) := by decide +kernel
theorem d_Box_takeCell_20 : decode b_Box_takeCell 20 = .ok (.invokevirtual 57, 3) := by decide +kernel
theorem d_Box_takeCell_23 : decode b_Box_takeCell 23 = .ok (.return_, 1) := by decide +kernel
theorem d_Grid_init_0 : decode b_Grid_init 0 = .ok (.aload_n 0, 1) := by decide +kernel
theorem d_Grid_init_1 : decode b_Grid_init 1 = .ok (.invokespecial 1, 3) := by decide +kernel
theorem d_Grid_init_4 : decode b_Grid_init 4 = .ok (.aload_n 0, 1) := by decide +kernel
theorem d_Grid_init_5 : decode b_Grid_init 5 = .ok (.iconst 0, 1) := by decide +kernel
theorem d_Grid_init_6 : decode b_Grid_init 6 = .ok (.putfield 7, 3) := by decide +kernel
theorem d_Grid_init_9 : decode b_Grid_init 9 = .ok (.aload_n 0, 1) := by decide +kernel
theorem d_Grid_init_10 : decode b_Grid_init 10 = .ok (.iconst 0, 1) := by decide +kernel
theorem d_Grid_init_11 : decode b_Grid_init 11 = .ok (.putfield 13, 3) := by decide +kernel
theorem d_Grid_init_14 : decode b_Grid_init 14 = .ok (.aload_n 0, 1) := by decide +kernel
theorem d_Grid_init_15 : decode b_Grid_init 15 = .ok (.iconst 1, 1) := by decide +kernel
theorem d_Grid_init_16 : decode b_Grid_init 16 = .ok (.putfield 16, 3) := by decide +kernel
theorem d_Grid_init_19 : decode b_Grid_init 19 = .ok (.aload_n 0, 1) := by decide +kernel
theorem d_Grid_init_20 : decode b_Grid_init 20 = .ok (.iconst 1, 1) := by decide +kernel
theorem d_Grid_init_21 : decode b_Grid_init 21 = .ok (.putfield 19, 3) := by decide +kernel
theorem d_Grid_init_24 : decode b_Grid_init 24 = .ok (.aload_n 0, 1) := by decide +kernel
theorem d_Grid_init_25 : decode b_Grid_init 25 = .ok (.iconst 0, 1) := by decide +kernel
theorem d_Grid_init_26 : decode b_Grid_init 26 = .ok (.putfield 22, 3) := by decide +kernel
theorem d_Grid_init_29 : decode b_Grid_init 29 = .ok (.aload_n 0, 1) := by decide +kernel
theorem d_Grid_init_30 : decode b_Grid_init 30 = .ok (.iconst 0, 1) := by decide +kernel
theorem d_Grid_init_31 : decode b_Grid_init 31 = .ok (.putfield 25, 3) := by decide +kernel
theorem d_Grid_init_34 : decode b_Grid_init 34 = .ok (.return_, 1) := by decide +kernel
theorem d_Grid_countAlong_0 : decode b_Grid_countAlong 0 = .ok (.iload_n 1, 1) := by decide +kernel
theorem d_Grid_countAlong_1 : decode b_Grid_countAlong 1 = .ok (.iconst 1, 1) := by decide +kernel
theorem d_Grid_countAlong_2 : decode b_Grid_countAlong 2 = .ok (.if_icmp .ge 7, 3) := by decide +kernel
theorem d_Grid_countAlong_5 : decode b_Grid_countAlong 5 = .ok (.iconst 0, 1) := by decide +kernel
theorem d_Grid_countAlong_6 : decode b_Grid_countAlong 6 = .ok (.goto 12, 3) := by decide +kernel
theorem d_Grid_countAlong_9 : decode b_Grid_countAlong 9 = .ok (.iload_n 2, 1) := by decide +kernel
theorem d_Grid_countAlong_10 : decode b_Grid_countAlong 10 = .ok (.iload_n 0, 1) := by decide +kernel
theorem d_Grid_countAlong_11 : decode b_Grid_countAlong 11 = .ok (.isub, 1) := by decide +kernel
theorem d_Grid_countAlong_12 : decode b_Grid_countAlong 12 = .ok (.iload_n 1, 1) := by decide +kernel
theorem d_Grid_countAlong_13 : decode b_Grid_countAlong 13 = .ok (.iadd, 1) := by decide +kernel
theorem d_Grid_countAlong_14 : decode b_Grid_countAlong 14 = .ok (.iconst 1, 1) := by decide +kernel
theorem d_Grid_countAlong_15 : decode b_Grid_countAlong 15 = .ok (.isub, 1) := by decide +kernel
theorem d_Grid_countAlong_16 : decode b_Grid_countAlong 16 = .ok (.iload_n 1, 1) := by decide +kernel
theorem d_Grid_countAlong_17 : decode b_Grid_countAlong 17 = .ok (.idiv, 1) := by decide +kernel
theorem d_Grid_countAlong_18 : decode b_Grid_countAlong 18 = .ok (.ireturn, 1) := by decide +kernel
theorem d_Grid_lay_0 : decode b_Grid_lay 0 = .ok (.aload_n 0, 1) := by decide +kernel
theorem d_Grid_lay_1 : decode b_Grid_lay 1 = .ok (.iload_n 1, 1) := by decide +kernel
theorem d_Grid_lay_2 : decode b_Grid_lay 2 = .ok (.putfield 7, 3) := by decide +kernel
theorem d_Grid_lay_5 : decode b_Grid_lay 5 = .ok (.aload_n 0, 1) := by decide +kernel
theorem d_Grid_lay_6 : decode b_Grid_lay 6 = .ok (.iload_n 2, 1) := by decide +kernel
theorem d_Grid_lay_7 : decode b_Grid_lay 7 = .ok (.putfield 13, 3) := by decide +kernel
theorem d_Grid_lay_10 : decode b_Grid_lay 10 = .ok (.aload_n 0, 1) := by decide +kernel
theorem d_Grid_lay_11 : decode b_Grid_lay 11 = .ok (.iload_n 3, 1) := by decide +kernel
theorem d_Grid_lay_12 : decode b_Grid_lay 12 = .ok (.putfield 16, 3) := by decide +kernel
theorem d_Grid_lay_15 : decode b_Grid_lay 15 = .ok (.aload_n 0, 1) := by decide +kernel
theorem d_Grid_lay_16 : decode b_Grid_lay 16 = .ok (.iload 4, 2) := by decide +kernel
theorem d_Grid_lay_18 : decode b_Grid_lay 18 = .ok (.putfield 19, 3) := by decide +kernel
theorem d_Grid_lay_21 : decode b_Grid_lay 21 = .ok (.aload_n 0, 1) := by decide +kernel
theorem d_Grid_lay_22 : decode b_Grid_lay 22 = .ok (.aload 5, 2) := by decide +kernel
theorem d_Grid_lay_24 : decode b_Grid_lay 24 = .ok (.invokevirtual 28, 3) := by decide +kernel
theorem d_Grid_lay_27 : decode b_Grid_lay 27 = .ok (.ifCond .eq 7, 3) := by decide +kernel
theorem d_Grid_lay_30 : decode b_Grid_lay 30 = .ok (.iconst 0, 1) := by decide +kernel
theorem d_Grid_lay_31 : decode b_Grid_lay 31 = .ok (.goto 13, 3) := by decide +kernel
theorem d_Grid_lay_34 : decode b_Grid_lay 34 = .ok (.iload_n 1, 1) := by decide +kernel
theorem d_Grid_lay_35 : decode b_Grid_lay 35 = .ok (.iload_n 3, 1) := by decide +kernel
theorem d_Grid_lay_36 : decode b_Grid_lay 36 = .ok (.aload 5, 2) := by decide +kernel
theorem d_Grid_lay_38 : decode b_Grid_lay 38 = .ok (.getfield 34, 3) := by decide +kernel
theorem d_Grid_lay_41 : decode b_Grid_lay 41 = .ok (.invokestatic 37, 3) := by decide +kernel
theorem d_Grid_lay_44 : decode b_Grid_lay 44 = .ok (.putfield 22, 3) := by decide +kernel
theorem d_Grid_lay_47 : decode b_Grid_lay 47 = .ok (.aload_n 0, 1) := by decide +kernel
theorem d_Grid_lay_48 : decode b_Grid_lay 48 = .ok (.aload 5, 2) := by decide +kernel
theorem d_Grid_lay_50 : decode b_Grid_lay 50 = .ok (.invokevirtual 28, 3) := by decide +kernel
theorem d_Grid_lay_53 : decode b_Grid_lay 53 = .ok (.ifCond .eq 7, 3) := by decide +kernel
theorem d_Grid_lay_56 : decode b_Grid_lay 56 = .ok (.iconst 0, 1) := by decide +kernel
theorem d_Grid_lay_57 : decode b_Grid_lay 57 = .ok (.goto 14, 3) := by decide +kernel
theorem d_Grid_lay_60 : decode b_Grid_lay 60 = .ok (.iload_n 2, 1) := by decide +kernel
theorem d_Grid_lay_61 : decode b_Grid_lay 61 = .ok (.iload 4, 2) := by decide +kernel
theorem d_Grid_lay_63 : decode b_Grid_lay 63 = .ok (.aload 5, 2) := by decide +kernel
theorem d_Grid_lay_65 : decode b_Grid_lay 65 = .ok (.getfield 41, 3) := by decide +kernel
theorem d_Grid_lay_68 : decode b_Grid_lay 68 = .ok (.invokestatic 37, 3) := by decide +kernel
theorem d_Grid_lay_71 : decode b_Grid_lay 71 = .ok (.putfield 25, 3) := by decide +kernel
theorem d_Grid_lay_74 : decode b_Grid_lay 74 = .ok (.return_, 1) := by decide +kernel
theorem d_Grid_layPowers_0 : decode b_Grid_layPowers 0 = .ok (.aload_n 0, 1) := by decide +kernel
theorem d_Grid_layPowers_1 : decode b_Grid_layPowers 1 = .ok (.aload_n 1, 1) := by decide +kernel
theorem d_Grid_layPowers_2 : decode b_Grid_layPowers 2 = .ok (.getfield 44, 3) := by decide +kernel
theorem d_Grid_layPowers_5 : decode b_Grid_layPowers 5 = .ok (.iload_n 2, 1) := by decide +kernel
theorem d_Grid_layPowers_6 : decode b_Grid_layPowers 6 = .ok (.ishr, 1) := by decide +kernel
theorem d_Grid_layPowers_7 : decode b_Grid_layPowers 7 = .ok (.iload_n 2, 1) := by decide +kernel
theorem d_Grid_layPowers_8 : decode b_Grid_layPowers 8 = .ok (.ishl, 1) := by decide +kernel
theorem d_Grid_layPowers_9 : decode b_Grid_layPowers 9 = .ok (.aload_n 1, 1) := by decide +kernel
theorem d_Grid_layPowers_10 : decode b_Grid_layPowers 10 = .ok (.getfield 47, 3) := by decide +kernel
theorem d_Grid_layPowers_13 : decode b_Grid_layPowers 13 = .ok (.iload_n 3, 1) := by decide +kernel
theorem d_Grid_layPowers_14 : decode b_Grid_layPowers 14 = .ok (.ishr, 1) := by decide +kernel
theorem d_Grid_layPowers_15 : decode b_Grid_layPowers 15 = .ok (.iload_n 3, 1) := by decide +kernel
theorem d_Grid_layPowers_16 : decode b_Grid_layPowers 16 = .ok (.ishl, 1) := by decide +kernel
theorem d_Grid_layPowers_17 : decode b_Grid_layPowers 17 = .ok (.iconst 1, 1) := by decide +kernel
theorem d_Grid_layPowers_18 : decode b_Grid_layPowers 18 = .ok (.iload_n 2, 1) := by decide +kernel
theorem d_Grid_layPowers_19 : decode b_Grid_layPowers 19 = .ok (.ishl, 1) := by decide +kernel
theorem d_Grid_layPowers_20 : decode b_Grid_layPowers 20 = .ok (.iconst 1, 1) := by decide +kernel
theorem d_Grid_layPowers_21 : decode b_Grid_layPowers 21 = .ok (.iload_n 3, 1) := by decide +kernel
theorem d_Grid_layPowers_22 : decode b_Grid_layPowers 22 = .ok (.ishl, 1) := by decide +kernel
theorem d_Grid_layPowers_23 : decode b_Grid_layPowers 23 = .ok (.aload_n 1, 1) := by decide +kernel
theorem d_Grid_layPowers_24 : decode b_Grid_layPowers 24 = .ok (.invokevirtual 50, 3) := by decide +kernel
theorem d_Grid_layPowers_27 : decode b_Grid_layPowers 27 = .ok (.return_, 1) := by decide +kernel
theorem d_Grid_count_0 : decode b_Grid_count 0 = .ok (.aload_n 0, 1) := by decide +kernel
theorem d_Grid_count_1 : decode b_Grid_count 1 = .ok (.getfield 22, 3) := by decide +kernel
theorem d_Grid_count_4 : decode b_Grid_count 4 = .ok (.aload_n 0, 1) := by decide +kernel
theorem d_Grid_count_5 : decode b_Grid_count 5 = .ok (.getfield 25, 3) := by decide +kernel
theorem d_Grid_count_8 : decode b_Grid_count 8 = .ok (.imul, 1) := by decide +kernel
theorem d_Grid_count_9 : decode b_Grid_count 9 = .ok (.ireturn, 1) := by decide +kernel
theorem d_Grid_has_0 : decode b_Grid_has 0 = .ok (.iload_n 1, 1) := by decide +kernel
theorem d_Grid_has_1 : decode b_Grid_has 1 = .ok (.ifCond .lt 15, 3) := by decide +kernel
theorem d_Grid_has_4 : decode b_Grid_has 4 = .ok (.iload_n 1, 1) := by decide +kernel
theorem d_Grid_has_5 : decode b_Grid_has 5 = .ok (.aload_n 0, 1) := by decide +kernel
theorem d_Grid_has_6 : decode b_Grid_has 6 = .ok (.invokevirtual 54, 3) := by decide +kernel
theorem d_Grid_has_9 : decode b_Grid_has 9 = .ok (.if_icmp .ge 7, 3) := by decide +kernel
theorem d_Grid_has_12 : decode b_Grid_has 12 = .ok (.iconst 1, 1) := by decide +kernel
theorem d_Grid_has_13 : decode b_Grid_has 13 = .ok (.goto 4, 3) := by decide +kernel
theorem d_Grid_has_16 : decode b_Grid_has 16 = .ok (.iconst 0, 1) := by decide +kernel
theorem d_Grid_has_17 : decode b_Grid_has 17 = .ok (.ireturn, 1) := by decide +kernel
theorem d_Grid_leftOf_0 : decode b_Grid_leftOf 0 = .ok (.aload_n 0, 1) := by decide +kernel
theorem d_Grid_leftOf_1 : decode b_Grid_leftOf 1 = .ok (.getfield 22, 3) := by decide +kernel
theorem d_Grid_leftOf_4 : decode b_Grid_leftOf 4 = .ok (.iconst 1, 1) := by decide +kernel
theorem d_Grid_leftOf_5 : decode b_Grid_leftOf 5 = .ok (.if_icmp .ge 10, 3) := by decide +kernel
theorem d_Grid_leftOf_8 : decode b_Grid_leftOf 8 = .ok (.aload_n 0, 1) := by decide +kernel
theorem d_Grid_leftOf_9 : decode b_Grid_leftOf 9 = .ok (.getfield 7, 3) := by decide +kernel
theorem d_Grid_leftOf_12 : decode b_Grid_leftOf 12 = .ok (.goto 19, 3) := by decide +kernel
theorem d_Grid_leftOf_15 : decode b_Grid_leftOf 15 = .ok (.aload_n 0, 1) := by decide +kernel
theorem d_Grid_leftOf_16 : decode b_Grid_leftOf 16 = .ok (.getfield 7, 3) := by decide +kernel
theorem d_Grid_leftOf_19 : decode b_Grid_leftOf 19 = .ok (.iload_n 1, 1) := by decide +kernel
theorem d_Grid_leftOf_20 : decode b_Grid_leftOf 20 = .ok (.aload_n 0, 1) := by decide +kernel
theorem d_Grid_leftOf_21 : decode b_Grid_leftOf 21 = .ok (.getfield 22, 3) := by decide +kernel
theorem d_Grid_leftOf_24 : decode b_Grid_leftOf 24 = .ok (.irem, 1) := by decide +kernel
theorem d_Grid_leftOf_25 : decode b_Grid_leftOf 25 = .ok (.aload_n 0, 1) := by decide +kernel
theorem d_Grid_leftOf_26 : decode b_Grid_leftOf 26 = .ok (.getfield 16, 3) := by decide +kernel
theorem d_Grid_leftOf_29 : decode b_Grid_leftOf 29 = .ok (.imul, 1) := by decide +kernel
theorem d_Grid_leftOf_30 : decode b_Grid_leftOf 30 = .ok (.iadd, 1) := by decide +kernel
theorem d_Grid_leftOf_31 : decode b_Grid_leftOf 31 = .ok (.ireturn, 1) := by decide +kernel
theorem d_Grid_topOf_0 : decode b_Grid_topOf 0 = .ok (.aload_n 0, 1) := by decide +kernel
theorem d_Grid_topOf_1 : decode b_Grid_topOf 1 = .ok (.getfield 22, 3) := by decide +kernel
theorem d_Grid_topOf_4 : decode b_Grid_topOf 4 = .ok (.iconst 1, 1) := by decide +kernel
theorem d_Grid_topOf_5 : decode b_Grid_topOf 5 = .ok (.if_icmp .ge 10, 3) := by decide +kernel
theorem d_Grid_topOf_8 : decode b_Grid_topOf 8 = .ok (.aload_n 0, 1) := by decide +kernel
theorem d_Grid_topOf_9 : decode b_Grid_topOf 9 = .ok (.getfield 13, 3) := by decide +kernel
theorem d_Grid_topOf_12 : decode b_Grid_topOf 12 = .ok (.goto 19, 3) := by decide +kernel
theorem d_Grid_topOf_15 : decode b_Grid_topOf 15 = .ok (.aload_n 0, 1) := by decide +kernel
theorem d_Grid_topOf_16 : decode b_Grid_topOf 16 = .ok (.getfield 13, 3) := by decide +kernel
theorem d_Grid_topOf_19 : decode b_Grid_topOf 19 = .ok (.iload_n 1, 1) := by decide +kernel
theorem d_Grid_topOf_20 : decode b_Grid_topOf 20 = .ok (.aload_n 0, 1) := by decide +kernel
theorem d_Grid_topOf_21 : decode b_Grid_topOf 21 = .ok (.getfield 22, 3) := by decide +kernel
theorem d_Grid_topOf_24 : decode b_Grid_topOf 24 = .ok (.idiv, 1) := by decide +kernel
theorem d_Grid_topOf_25 : decode b_Grid_topOf 25 = .ok (.aload_n 0, 1) := by decide +kernel
theorem d_Grid_topOf_26 : decode b_Grid_topOf 26 = .ok (.getfield 19, 3) := by decide +kernel
theorem d_Grid_topOf_29 : decode b_Grid_topOf 29 = .ok (.imul, 1) := by decide +kernel
theorem d_Grid_topOf_30 : decode b_Grid_topOf 30 = .ok (.iadd, 1) := by decide +kernel
theorem d_Grid_topOf_31 : decode b_Grid_topOf 31 = .ok (.ireturn, 1) := by decide +kernel
theorem d_Grid_numberAt_0 : decode b_Grid_numberAt 0 = .ok (.aload_n 0, 1) := by decide +kernel
theorem d_Grid_numberAt_1 : decode b_Grid_numberAt 1 = .ok (.getfield 16, 3) := by decide +kernel
theorem d_Grid_numberAt_4 : decode b_Grid_numberAt 4 = .ok (.iconst 1, 1) := by decide +kernel
theorem d_Grid_numberAt_5 : decode b_Grid_numberAt 5 = .ok (.if_icmp .lt 11, 3) := by decide +kernel
theorem d_Grid_numberAt_8 : decode b_Grid_numberAt 8 = .ok (.aload_n 0, 1) := by decide +kernel
theorem d_Grid_numberAt_9 : decode b_Grid_numberAt 9 = .ok (.getfield 19, 3) := by decide +kernel
theorem d_Grid_numberAt_12 : decode b_Grid_numberAt 12 = .ok (.iconst 1, 1) := by decide +kernel
theorem d_Grid_numberAt_13 : decode b_Grid_numberAt 13 = .ok (.if_icmp .ge 5, 3) := by decide +kernel
theorem d_Grid_numberAt_16 : decode b_Grid_numberAt 16 = .ok (.iconst 0, 1) := by decide +kernel
theorem d_Grid_numberAt_17 : decode b_Grid_numberAt 17 = .ok (.ireturn, 1) := by decide +kernel
theorem d_Grid_numberAt_18 : decode b_Grid_numberAt 18 = .ok (.iload_n 2, 1) := by decide +kernel
theorem d_Grid_numberAt_19 : decode b_Grid_numberAt 19 = .ok (.aload_n 0, 1) := by decide +kernel
theorem d_Grid_numberAt_20 : decode b_Grid_numberAt 20 = .ok (.getfield 13, 3) := by decide +kernel
theorem d_Grid_numberAt_23 : decode b_Grid_numberAt 23 = .ok (.isub, 1) := by decide +kernel
theorem d_Grid_numberAt_24 : decode b_Grid_numberAt 24 = .ok (.aload_n 0, 1) := by decide +kernel
theorem d_Grid_numberAt_25 : decode b_Grid_numberAt 25 = .ok (.getfield 19, 3) := by decide +kernel
theorem d_Grid_numberAt_28 : decode b_Grid_numberAt 28 = .ok (.idiv, 1) := by decide +kernel
theorem d_Grid_numberAt_29 : decode b_Grid_numberAt 29 = .ok (.aload_n 0, 1) := by decide +kernel
theorem d_Grid_numberAt_30 : decode b_Grid_numberAt 30 = .ok (.getfield 22, 3) := by decide +kernel
theorem d_Grid_numberAt_33 : decode b_Grid_numberAt 33 = .ok (.imul, 1) := by decide +kernel
theorem d_Grid_numberAt_34 : decode b_Grid_numberAt 34 = .ok (.iload_n 1, 1) := by decide +kernel
theorem d_Grid_numberAt_35 : decode b_Grid_numberAt 35 = .ok (.aload_n 0, 1) := by decide +kernel
theorem d_Grid_numberAt_36 : decode b_Grid_numberAt 36 = .ok (.getfield 7, 3) := by decide +kernel
theorem d_Grid_numberAt_39 : decode b_Grid_numberAt 39 = .ok (.isub, 1) := by decide +kernel
theorem d_Grid_numberAt_40 : decode b_Grid_numberAt 40 = .ok (.aload_n 0, 1) := by decide +kernel
theorem d_Grid_numberAt_41 : decode b_Grid_numberAt 41 = .ok (.getfield 16, 3) := by decide +kernel
theorem d_Grid_numberAt_44 : decode b_Grid_numberAt 44 = .ok (.idiv, 1) := by decide +kernel
theorem d_Grid_numberAt_45 : decode b_Grid_numberAt 45 = .ok (.iadd, 1) := by decide +kernel
theorem d_Grid_numberAt_46 : decode b_Grid_numberAt 46 = .ok (.ireturn, 1) := by decide +kernel
theorem d_Comp_init_0 : decode b_Comp_init 0 = .ok (.aload_n 0, 1) := by decide +kernel
theorem d_Comp_init_1 : decode b_Comp_init 1 = .ok (.invokespecial 3, 3) := by decide +kernel
theorem d_Comp_init_4 : decode b_Comp_init 4 = .ok (.aload_n 0, 1) := by decide +kernel
theorem d_Comp_init_5 : decode b_Comp_init 5 = .ok (.iconst 0, 1) := by decide +kernel
theorem d_Comp_init_6 : decode b_Comp_init 6 = .ok (.putfield 9, 3) := by decide +kernel
theorem d_Comp_init_9 : decode b_Comp_init 9 = .ok (.aload_n 0, 1) := by decide +kernel
theorem d_Comp_init_10 : decode b_Comp_init 10 = .ok (.bipush 6, 2) := by decide +kernel
theorem d_Comp_init_12 : decode b_Comp_init 12 = .ok (.putfield 15, 3) := by decide +kernel
theorem d_Comp_init_15 : decode b_Comp_init 15 = .ok (.aload_n 0, 1) := by decide +kernel
theorem d_Comp_init_16 : decode b_Comp_init 16 = .ok (.bipush 6, 2) := by decide +kernel
theorem d_Comp_init_18 : decode b_Comp_init 18 = .ok (.putfield 18, 3) := by decide +kernel
theorem d_Comp_init_21 : decode b_Comp_init 21 = .ok (.aload_n 0, 1) := by decide +kernel
theorem d_Comp_init_22 : decode b_Comp_init 22 = .ok (.bipush 33, 2) := by decide +kernel
theorem d_Comp_init_24 : decode b_Comp_init 24 = .ok (.newarray .int, 2) := by decide +kernel
theorem d_Comp_init_26 : decode b_Comp_init 26 = .ok (.putfield 21, 3) := by decide +kernel
theorem d_Comp_init_29 : decode b_Comp_init 29 = .ok (.aload_n 0, 1) := by decide +kernel
theorem d_Comp_init_30 : decode b_Comp_init 30 = .ok (.bipush 33, 2) := by decide +kernel
theorem d_Comp_init_32 : decode b_Comp_init 32 = .ok (.newarray .int, 2) := by decide +kernel
theorem d_Comp_init_34 : decode b_Comp_init 34 = .ok (.putfield 25, 3) := by decide +kernel
theorem d_Comp_init_37 : decode b_Comp_init 37 = .ok (.aload_n 0, 1) := by decide +kernel
theorem d_Comp_init_38 : decode b_Comp_init 38 = .ok (.iload_n 1, 1) := by decide +kernel
theorem d_Comp_init_39 : decode b_Comp_init 39 = .ok (.putfield 28, 3) := by decide +kernel
theorem d_Comp_init_42 : decode b_Comp_init 42 = .ok (.aload_n 0, 1) := by decide +kernel
theorem d_Comp_init_43 : decode b_Comp_init 43 = .ok (.iload_n 2, 1) := by decide +kernel
theorem d_Comp_init_44 : decode b_Comp_init 44 = .ok (.putfield 31, 3) := by decide +kernel
theorem d_Comp_init_47 : decode b_Comp_init 47 = .ok (.iconst 0, 1) := by decide +kernel
theorem d_Comp_init_48 : decode b_Comp_init 48 = .ok (.istore_n 3, 1) := by decide +kernel
theorem d_Comp_init_49 : decode b_Comp_init 49 = .ok (.iload_n 3, 1) := by decide +kernel
theorem d_Comp_init_50 : decode b_Comp_init 50 = .ok (.bipush 32, 2) := by decide +kernel
theorem d_Comp_init_52 : decode b_Comp_init 52 = .ok (.if_icmp .gt 25, 3) := by decide +kernel
theorem d_Comp_init_55 : decode b_Comp_init 55 = .ok (.aload_n 0, 1) := by decide +kernel
theorem d_Comp_init_56 : decode b_Comp_init 56 = .ok (.getfield 21, 3) := by decide +kernel
theorem d_Comp_init_59 : decode b_Comp_init 59 = .ok (.iload_n 3, 1) := by decide +kernel
theorem d_Comp_init_60 : decode b_Comp_init 60 = .ok (.bipush 15, 2) := by decide +kernel
theorem d_Comp_init_62 : decode b_Comp_init 62 = .ok (.iastore, 1) := by decide +kernel
theorem d_Comp_init_63 : decode b_Comp_init 63 = .ok (.aload_n 0, 1) := by decide +kernel
theorem d_Comp_init_64 : decode b_Comp_init 64 = .ok (.getfield 25, 3) := by decide +kernel
theorem d_Comp_init_67 : decode b_Comp_init 67 = .ok (.iload_n 3, 1) := by decide +kernel
theorem d_Comp_init_68 : decode b_Comp_init 68 = .ok (.bipush 15, 2) := by decide +kernel
theorem d_Comp_init_70 : decode b_Comp_init 70 = .ok (.iastore, 1) := by decide +kernel
theorem d_Comp_init_71 : decode b_Comp_init 71 = .ok (.iinc 3 1, 3) := by decide +kernel
theorem d_Comp_init_74 : decode b_Comp_init 74 = .ok (.goto (-25), 3) := by decide +kernel
theorem d_Comp_init_77 : decode b_Comp_init 77 = .ok (.return_, 1) := by decide +kernel
theorem d_Comp_blockWidthAt_0 : decode b_Comp_blockWidthAt 0 = .ok (.aload_n 0, 1) := by decide +kernel
theorem d_Comp_blockWidthAt_1 : decode b_Comp_blockWidthAt 1 = .ok (.getfield 15, 3) := by decide +kernel
theorem d_Comp_blockWidthAt_4 : decode b_Comp_blockWidthAt 4 = .ok (.aload_n 0, 1) := by decide +kernel
theorem d_Comp_blockWidthAt_5 : decode b_Comp_blockWidthAt 5 = .ok (.getfield 21, 3) := by decide +kernel
theorem d_Comp_blockWidthAt_8 : decode b_Comp_blockWidthAt 8 = .ok (.iload_n 1, 1) := by decide +kernel
theorem d_Comp_blockWidthAt_9 : decode b_Comp_blockWidthAt 9 = .ok (.iaload, 1) := by decide +kernel
theorem d_Comp_blockWidthAt_10 : decode b_Comp_blockWidthAt 10 = .ok (.iload_n 1, 1) := by decide +kernel
theorem d_Comp_blockWidthAt_11 : decode b_Comp_blockWidthAt 11 = .ok (.invokestatic 34, 3) := by decide +kernel
theorem d_Comp_blockWidthAt_14 : decode b_Comp_blockWidthAt 14 = .ok (.isub, 1) := by decide +kernel
theorem d_Comp_blockWidthAt_15 : decode b_Comp_blockWidthAt 15 = .ok (.invokestatic 38, 3) := by decide +kernel
theorem d_Comp_blockWidthAt_18 : decode b_Comp_blockWidthAt 18 = .ok (.ireturn, 1) := by decide +kernel
theorem d_Comp_blockHeightAt_0 : decode b_Comp_blockHeightAt 0 = .ok (.aload_n 0, 1) := by decide +kernel
theorem d_Comp_blockHeightAt_1 : decode b_Comp_blockHeightAt 1 = .ok (.getfield 18, 3) := by decide +kernel
theorem d_Comp_blockHeightAt_4 : decode b_Comp_blockHeightAt 4 = .ok (.aload_n 0, 1) := by decide +kernel
theorem d_Comp_blockHeightAt_5 : decode b_Comp_blockHeightAt 5 = .ok (.getfield 25, 3) := by decide +kernel
theorem d_Comp_blockHeightAt_8 : decode b_Comp_blockHeightAt 8 = .ok (.iload_n 1, 1) := by decide +kernel
theorem d_Comp_blockHeightAt_9 : decode b_Comp_blockHeightAt 9 = .ok (.iaload, 1) := by decide +kernel
theorem d_Comp_blockHeightAt_10 : decode b_Comp_blockHeightAt 10 = .ok (.iload_n 1, 1) := by decide +kernel
theorem d_Comp_blockHeightAt_11 : decode b_Comp_blockHeightAt 11 = .ok (.invokestatic 34, 3) := by decide +kernel
theorem d_Comp_blockHeightAt_14 : decode b_Comp_blockHeightAt 14 = .ok (.isub, 1) := by decide +kernel
theorem d_Comp_blockHeightAt_15 : decode b_Comp_blockHeightAt 15 = .ok (.invokestatic 38, 3) := by decide +kernel
theorem d_Comp_blockHeightAt_18 : decode b_Comp_blockHeightAt 18 = .ok (.ireturn, 1) := by decide +kernel
