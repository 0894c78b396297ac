theorem d_Law_area_0 : decode b_Law_area 0 = .ok (.aload_n 0, 1) := by decide +kernel
theorem d_Law_area_1 : decode b_Law_area 1 = .ok (.iload_n 1, 1) := by decide +kernel
theorem d_Law_area_2 : decode b_Law_area 2 = .ok (.iload_n 2, 1) := by decide +kernel
theorem d_Law_area_3 : decode b_Law_area 3 = .ok (.iload_n 3, 1) := by decide +kernel
theorem d_Law_area_4 : decode b_Law_area 4 = .ok (.iload 4, 2) := by decide +kernel
theorem d_Law_area_6 : decode b_Law_area 6 = .ok (.invokevirtual 7, 3) := by decide +kernel
theorem d_Law_area_9 : decode b_Law_area 9 = .ok (.goto 7, 3) := by decide +kernel
theorem d_Law_area_12 : decode b_Law_area 12 = .ok (.astore 5, 2) := by decide +kernel
theorem d_Law_area_14 : decode b_Law_area 14 = .ok (.iconst 1, 1) := by decide +kernel
theorem d_Law_area_15 : decode b_Law_area 15 = .ok (.ireturn, 1) := by decide +kernel
theorem d_Law_area_16 : decode b_Law_area 16 = .ok (.iconst 0, 1) := by decide +kernel
theorem d_Law_area_17 : decode b_Law_area 17 = .ok (.ireturn, 1) := by decide +kernel
theorem d_Law_tiles_0 : decode b_Law_tiles 0 = .ok (.aload 5, 2) := by decide +kernel
theorem d_Law_tiles_2 : decode b_Law_tiles 2 = .ok (.iconst 0, 1) := by decide +kernel
theorem d_Law_tiles_3 : decode b_Law_tiles 3 = .ok (.aload_n 0, 1) := by decide +kernel
theorem d_Law_tiles_4 : decode b_Law_tiles 4 = .ok (.iload_n 1, 1) := by decide +kernel
theorem d_Law_tiles_5 : decode b_Law_tiles 5 = .ok (.iload_n 2, 1) := by decide +kernel
theorem d_Law_tiles_6 : decode b_Law_tiles 6 = .ok (.iload_n 3, 1) := by decide +kernel
theorem d_Law_tiles_7 : decode b_Law_tiles 7 = .ok (.iload 4, 2) := by decide +kernel
theorem d_Law_tiles_9 : decode b_Law_tiles 9 = .ok (.invokevirtual 15, 3) := by decide +kernel
theorem d_Law_tiles_12 : decode b_Law_tiles 12 = .ok (.i2l, 1) := by decide +kernel
theorem d_Law_tiles_13 : decode b_Law_tiles 13 = .ok (.lastore, 1) := by decide +kernel
theorem d_Law_tiles_14 : decode b_Law_tiles 14 = .ok (.goto 11, 3) := by decide +kernel
theorem d_Law_tiles_17 : decode b_Law_tiles 17 = .ok (.astore 6, 2) := by decide +kernel
theorem d_Law_tiles_19 : decode b_Law_tiles 19 = .ok (.iconst 1, 1) := by decide +kernel
theorem d_Law_tiles_20 : decode b_Law_tiles 20 = .ok (.ireturn, 1) := by decide +kernel
theorem d_Law_tiles_21 : decode b_Law_tiles 21 = .ok (.astore 6, 2) := by decide +kernel
theorem d_Law_tiles_23 : decode b_Law_tiles 23 = .ok (.iconst 2, 1) := by decide +kernel
theorem d_Law_tiles_24 : decode b_Law_tiles 24 = .ok (.ireturn, 1) := by decide +kernel
theorem d_Law_tiles_25 : decode b_Law_tiles 25 = .ok (.iconst 0, 1) := by decide +kernel
theorem d_Law_tiles_26 : decode b_Law_tiles 26 = .ok (.ireturn, 1) := by decide +kernel
theorem d_Law_component_0 : decode b_Law_component 0 = .ok (.aload_n 3, 1) := by decide +kernel
theorem d_Law_component_1 : decode b_Law_component 1 = .ok (.iconst 0, 1) := by decide +kernel
theorem d_Law_component_2 : decode b_Law_component 2 = .ok (.aload_n 0, 1) := by decide +kernel
theorem d_Law_component_3 : decode b_Law_component 3 = .ok (.iload_n 1, 1) := by decide +kernel
theorem d_Law_component_4 : decode b_Law_component 4 = .ok (.iload_n 2, 1) := by decide +kernel
theorem d_Law_component_5 : decode b_Law_component 5 = .ok (.invokevirtual 21, 3) := by decide +kernel
theorem d_Law_component_8 : decode b_Law_component 8 = .ok (.i2l, 1) := by decide +kernel
theorem d_Law_component_9 : decode b_Law_component 9 = .ok (.lastore, 1) := by decide +kernel
theorem d_Law_component_10 : decode b_Law_component 10 = .ok (.goto 11, 3) := by decide +kernel
theorem d_Law_component_13 : decode b_Law_component 13 = .ok (.astore 4, 2) := by decide +kernel
theorem d_Law_component_15 : decode b_Law_component 15 = .ok (.iconst 1, 1) := by decide +kernel
theorem d_Law_component_16 : decode b_Law_component 16 = .ok (.ireturn, 1) := by decide +kernel
theorem d_Law_component_17 : decode b_Law_component 17 = .ok (.astore 4, 2) := by decide +kernel
theorem d_Law_component_19 : decode b_Law_component 19 = .ok (.iconst 2, 1) := by decide +kernel
theorem d_Law_component_20 : decode b_Law_component 20 = .ok (.ireturn, 1) := by decide +kernel
theorem d_Law_component_21 : decode b_Law_component 21 = .ok (.iconst 0, 1) := by decide +kernel
theorem d_Law_component_22 : decode b_Law_component 22 = .ok (.ireturn, 1) := by decide +kernel
theorem d_Law_coding_0 : decode b_Law_coding 0 = .ok (.aload_n 0, 1) := by decide +kernel
theorem d_Law_coding_1 : decode b_Law_coding 1 = .ok (.iload_n 1, 1) := by decide +kernel
theorem d_Law_coding_2 : decode b_Law_coding 2 = .ok (.iload_n 2, 1) := by decide +kernel
theorem d_Law_coding_3 : decode b_Law_coding 3 = .ok (.iload_n 3, 1) := by decide +kernel
theorem d_Law_coding_4 : decode b_Law_coding 4 = .ok (.iload 4, 2) := by decide +kernel
theorem d_Law_coding_6 : decode b_Law_coding 6 = .ok (.invokevirtual 25, 3) := by decide +kernel
theorem d_Law_coding_9 : decode b_Law_coding 9 = .ok (.goto 11, 3) := by decide +kernel
theorem d_Law_coding_12 : decode b_Law_coding 12 = .ok (.astore 5, 2) := by decide +kernel
theorem d_Law_coding_14 : decode b_Law_coding 14 = .ok (.iconst 1, 1) := by decide +kernel
theorem d_Law_coding_15 : decode b_Law_coding 15 = .ok (.ireturn, 1) := by decide +kernel
theorem d_Law_coding_16 : decode b_Law_coding 16 = .ok (.astore 5, 2) := by decide +kernel
theorem d_Law_coding_18 : decode b_Law_coding 18 = .ok (.iconst 2, 1) := by decide +kernel
theorem d_Law_coding_19 : decode b_Law_coding 19 = .ok (.ireturn, 1) := by decide +kernel
theorem d_Law_coding_20 : decode b_Law_coding 20 = .ok (.iconst 0, 1) := by decide +kernel
theorem d_Law_coding_21 : decode b_Law_coding 21 = .ok (.ireturn, 1) := by decide +kernel
theorem d_Law_precincts_0 : decode b_Law_precincts 0 = .ok (.aload_n 0, 1) := by decide +kernel
theorem d_Law_precincts_1 : decode b_Law_precincts 1 = .ok (.iload_n 1, 1) := by decide +kernel
theorem d_Law_precincts_2 : decode b_Law_precincts 2 = .ok (.iload_n 2, 1) := by decide +kernel
theorem d_Law_precincts_3 : decode b_Law_precincts 3 = .ok (.iload_n 3, 1) := by decide +kernel
theorem d_Law_precincts_4 : decode b_Law_precincts 4 = .ok (.iload 4, 2) := by decide +kernel
theorem d_Law_precincts_6 : decode b_Law_precincts 6 = .ok (.invokevirtual 30, 3) := by decide +kernel
theorem d_Law_precincts_9 : decode b_Law_precincts 9 = .ok (.goto 11, 3) := by decide +kernel
theorem d_Law_precincts_12 : decode b_Law_precincts 12 = .ok (.astore 5, 2) := by decide +kernel
theorem d_Law_precincts_14 : decode b_Law_precincts 14 = .ok (.iconst 1, 1) := by decide +kernel
theorem d_Law_precincts_15 : decode b_Law_precincts 15 = .ok (.ireturn, 1) := by decide +kernel
theorem d_Law_precincts_16 : decode b_Law_precincts 16 = .ok (.astore 5, 2) := by decide +kernel
theorem d_Law_precincts_18 : decode b_Law_precincts 18 = .ok (.iconst 2, 1) := by decide +kernel
theorem d_Law_precincts_19 : decode b_Law_precincts 19 = .ok (.ireturn, 1) := by decide +kernel
theorem d_Law_precincts_20 : decode b_Law_precincts 20 = .ok (.iconst 0, 1) := by decide +kernel
theorem d_Law_precincts_21 : decode b_Law_precincts 21 = .ok (.ireturn, 1) := by decide +kernel
theorem d_Law_tile_0 : decode b_Law_tile 0 = .ok (.aload_n 3, 1) := by decide +kernel
theorem d_Law_tile_1 : decode b_Law_tile 1 = .ok (.iconst 0, 1) := by decide +kernel
theorem d_Law_tile_2 : decode b_Law_tile 2 = .ok (.aload_n 0, 1) := by decide +kernel
theorem d_Law_tile_3 : decode b_Law_tile 3 = .ok (.iload_n 1, 1) := by decide +kernel
theorem d_Law_tile_4 : decode b_Law_tile 4 = .ok (.iload_n 2, 1) := by decide +kernel
theorem d_Law_tile_5 : decode b_Law_tile 5 = .ok (.invokevirtual 33, 3) := by decide +kernel
theorem d_Law_tile_8 : decode b_Law_tile 8 = .ok (.i2l, 1) := by decide +kernel
theorem d_Law_tile_9 : decode b_Law_tile 9 = .ok (.lastore, 1) := by decide +kernel
theorem d_Law_tile_10 : decode b_Law_tile 10 = .ok (.goto 7, 3) := by decide +kernel
theorem d_Law_tile_13 : decode b_Law_tile 13 = .ok (.astore 4, 2) := by decide +kernel
theorem d_Law_tile_15 : decode b_Law_tile 15 = .ok (.iconst 1, 1) := by decide +kernel
theorem d_Law_tile_16 : decode b_Law_tile 16 = .ok (.ireturn, 1) := by decide +kernel
theorem d_Law_tile_17 : decode b_Law_tile 17 = .ok (.iconst 0, 1) := by decide +kernel
theorem d_Law_tile_18 : decode b_Law_tile 18 = .ok (.ireturn, 1) := by decide +kernel
theorem d_Law_part_0 : decode b_Law_part 0 = .ok (.aload 4, 2) := by decide +kernel
theorem d_Law_part_2 : decode b_Law_part 2 = .ok (.iconst 0, 1) := by decide +kernel
theorem d_Law_part_3 : decode b_Law_part 3 = .ok (.aload_n 0, 1) := by decide +kernel
theorem d_Law_part_4 : decode b_Law_part 4 = .ok (.iload_n 1, 1) := by decide +kernel
theorem d_Law_part_5 : decode b_Law_part 5 = .ok (.iload_n 2, 1) := by decide +kernel
theorem d_Law_part_6 : decode b_Law_part 6 = .ok (.iload_n 3, 1) := by decide +kernel
theorem d_Law_part_7 : decode b_Law_part 7 = .ok (.invokevirtual 36, 3) := by decide +kernel
theorem d_Law_part_10 : decode b_Law_part 10 = .ok (.i2l, 1) := by decide +kernel
theorem d_Law_part_11 : decode b_Law_part 11 = .ok (.lastore, 1) := by decide +kernel
theorem d_Law_part_12 : decode b_Law_part 12 = .ok (.goto 7, 3) := by decide +kernel
theorem d_Law_part_15 : decode b_Law_part 15 = .ok (.astore 5, 2) := by decide +kernel
theorem d_Law_part_17 : decode b_Law_part 17 = .ok (.iconst 1, 1) := by decide +kernel
theorem d_Law_part_18 : decode b_Law_part 18 = .ok (.ireturn, 1) := by decide +kernel
theorem d_Law_part_19 : decode b_Law_part 19 = .ok (.iconst 0, 1) := by decide +kernel
theorem d_Law_part_20 : decode b_Law_part 20 = .ok (.ireturn, 1) := by decide +kernel
theorem d_Law_level_0 : decode b_Law_level 0 = .ok (.aload 5, 2) := by decide +kernel
theorem d_Law_level_2 : decode b_Law_level 2 = .ok (.iconst 0, 1) := by decide +kernel
theorem d_Law_level_3 : decode b_Law_level 3 = .ok (.aload_n 0, 1) := by decide +kernel
theorem d_Law_level_4 : decode b_Law_level 4 = .ok (.iload_n 1, 1) := by decide +kernel
theorem d_Law_level_5 : decode b_Law_level 5 = .ok (.iload_n 2, 1) := by decide +kernel
theorem d_Law_level_6 : decode b_Law_level 6 = .ok (.iload_n 3, 1) := by decide +kernel
theorem d_Law_level_7 : decode b_Law_level 7 = .ok (.iload 4, 2) := by decide +kernel
theorem d_Law_level_9 : decode b_Law_level 9 = .ok (.invokevirtual 40, 3) := by decide +kernel
theorem d_Law_level_12 : decode b_Law_level 12 = .ok (.i2l, 1) := by decide +kernel
theorem d_Law_level_13 : decode b_Law_level 13 = .ok (.lastore, 1) := by decide +kernel
theorem d_Law_level_14 : decode b_Law_level 14 = .ok (.goto 7, 3) := by decide +kernel
theorem d_Law_level_17 : decode b_Law_level 17 = .ok (.astore 6, 2) := by decide +kernel
theorem d_Law_level_19 : decode b_Law_level 19 = .ok (.iconst 1, 1) := by decide +kernel
theorem d_Law_level_20 : decode b_Law_level 20 = .ok (.ireturn, 1) := by decide +kernel
theorem d_Law_level_21 : decode b_Law_level 21 = .ok (.iconst 0, 1) := by decide +kernel
theorem d_Law_level_22 : decode b_Law_level 22 = .ok (.ireturn, 1) := by decide +kernel
theorem d_Law_band_0 : decode b_Law_band 0 = .ok (.aload 6, 2) := by decide +kernel
theorem d_Law_band_2 : decode b_Law_band 2 = .ok (.iconst 0, 1) := by decide +kernel
theorem d_Law_band_3 : decode b_Law_band 3 = .ok (.aload_n 0, 1) := by decide +kernel
theorem d_Law_band_4 : decode b_Law_band 4 = .ok (.iload_n 1, 1) := by decide +kernel
theorem d_Law_band_5 : decode b_Law_band 5 = .ok (.iload_n 2, 1) := by decide +kernel
theorem d_Law_band_6 : decode b_Law_band 6 = .ok (.iload_n 3, 1) := by decide +kernel
theorem d_Law_band_7 : decode b_Law_band 7 = .ok (.iload 4, 2) := by decide +kernel
theorem d_Law_band_9 : decode b_Law_band 9 = .ok (.iload 5, 2) := by decide +kernel
theorem d_Law_band_11 : decode b_Law_band 11 = .ok (.invokevirtual 43, 3) := by decide +kernel
theorem d_Law_band_14 : decode b_Law_band 14 = .ok (.i2l, 1) := by decide +kernel
theorem d_Law_band_15 : decode b_Law_band 15 = .ok (.lastore, 1) := by decide +kernel
theorem d_Law_band_16 : decode b_Law_band 16 = .ok (.goto 7, 3) := by decide +kernel
theorem d_Law_band_19 : decode b_Law_band 19 = .ok (.astore 7, 2) := by decide +kernel
theorem d_Law_band_21 : decode b_Law_band 21 = .ok (.iconst 1, 1) := by decide +kernel
theorem d_Law_band_22 : decode b_Law_band 22 = .ok (.ireturn, 1) := by decide +kernel
theorem d_Law_band_23 : decode b_Law_band 23 = .ok (.iconst 0, 1) := by decide +kernel
theorem d_Law_band_24 : decode b_Law_band 24 = .ok (.ireturn, 1) := by decide +kernel
theorem d_Law_precinct_0 : decode b_Law_precinct 0 = .ok (.aload 6, 2) := by decide +kernel
theorem d_Law_precinct_2 : decode b_Law_precinct 2 = .ok (.iconst 0, 1) := by decide +kernel
theorem d_Law_precinct_3 : decode b_Law_precinct 3 = .ok (.aload_n 0, 1) := by decide +kernel
theorem d_Law_precinct_4 : decode b_Law_precinct 4 = .ok (.iload_n 1, 1) := by decide +kernel
theorem d_Law_precinct_5 : decode b_Law_precinct 5 = .ok (.iload_n 2, 1) := by decide +kernel
theorem d_Law_precinct_6 : decode b_Law_precinct 6 = .ok (.iload_n 3, 1) := by decide +kernel
theorem d_Law_precinct_7 : decode b_Law_precinct 7 = .ok (.iload 4, 2) := by decide +kernel
theorem d_Law_precinct_9 : decode b_Law_precinct 9 = .ok (.iload 5, 2) := by decide +kernel
theorem d_Law_precinct_11 : decode b_Law_precinct 11 = .ok (.invokevirtual 47, 3) := by decide +kernel
theorem d_Law_precinct_14 : decode b_Law_precinct 14 = .ok (.i2l, 1) := by decide +kernel
theorem d_Law_precinct_15 : decode b_Law_precinct 15 = .ok (.lastore, 1) := by decide +kernel
theorem d_Law_precinct_16 : decode b_Law_precinct 16 = .ok (.goto 7, 3) := by decide +kernel
theorem d_Law_precinct_19 : decode b_Law_precinct 19 = .ok (.astore 7, 2) := by decide +kernel
theorem d_Law_precinct_21 : decode b_Law_precinct 21 = .ok (.iconst 1, 1) := by decide +kernel
theorem d_Law_precinct_22 : decode b_Law_precinct 22 = .ok (.ireturn, 1) := by decide +kernel
theorem d_Law_precinct_23 : decode b_Law_precinct 23 = .ok (.iconst 0, 1) := by decide +kernel
theorem d_Law_precinct_24 : decode b_Law_precinct 24 = .ok (.ireturn, 1) := by decide +kernel
theorem d_Law_share_0 : decode b_Law_share 0 = .ok (.aload 7, 2) := by decide +kernel
theorem d_Law_share_2 : decode b_Law_share 2 = .ok (.iconst 0, 1) := by decide +kernel
theorem d_Law_share_3 : decode b_Law_share 3 = .ok (.aload_n 0, 1) := by decide +kernel
theorem d_Law_share_4 : decode b_Law_share 4 = .ok (.iload_n 1, 1) := by decide +kernel
theorem d_Law_share_5 : decode b_Law_share 5 = .ok (.iload_n 2, 1) := by decide +kernel
theorem d_Law_share_6 : decode b_Law_share 6 = .ok (.iload_n 3, 1) := by decide +kernel
theorem d_Law_share_7 : decode b_Law_share 7 = .ok (.iload 4, 2) := by decide +kernel
theorem d_Law_share_9 : decode b_Law_share 9 = .ok (.iload 5, 2) := by decide +kernel
theorem d_Law_share_11 : decode b_Law_share 11 = .ok (.iload 6, 2) := by decide +kernel
theorem d_Law_share_13 : decode b_Law_share 13 = .ok (.invokevirtual 50, 3) := by decide +kernel
theorem d_Law_share_16 : decode b_Law_share 16 = .ok (.i2l, 1) := by decide +kernel
theorem d_Law_share_17 : decode b_Law_share 17 = .ok (.lastore, 1) := by decide +kernel
theorem d_Law_share_18 : decode b_Law_share 18 = .ok (.goto 7, 3) := by decide +kernel
theorem d_Law_share_21 : decode b_Law_share 21 = .ok (.astore 8, 2) := by decide +kernel
theorem d_Law_share_23 : decode b_Law_share 23 = .ok (.iconst 1, 1) := by decide +kernel
theorem d_Law_share_24 : decode b_Law_share 24 = .ok (.ireturn, 1) := by decide +kernel
theorem d_Law_share_25 : decode b_Law_share 25 = .ok (.iconst 0, 1) := by decide +kernel
theorem d_Law_share_26 : decode b_Law_share 26 = .ok (.ireturn, 1) := by decide +kernel
theorem d_Law_block_0 : decode b_Law_block 0 = .ok (.aload 8, 2) := by decide +kernel
theorem d_Law_block_2 : decode b_Law_block 2 = .ok (.iconst 0, 1) := by decide +kernel
theorem d_Law_block_3 : decode b_Law_block 3 = .ok (.aload_n 0, 1) := by decide +kernel
theorem d_Law_block_4 : decode b_Law_block 4 = .ok (.iload_n 1, 1) := by decide +kernel
theorem d_Law_block_5 : decode b_Law_block 5 = .ok (.iload_n 2, 1) := by decide +kernel
theorem d_Law_block_6 : decode b_Law_block 6 = .ok (.iload_n 3, 1) := by decide +kernel
theorem d_Law_block_7 : decode b_Law_block 7 = .ok (.iload 4, 2) := by decide +kernel
theorem d_Law_block_9 : decode b_Law_block 9 = .ok (.iload 5, 2) := by decide +kernel
theorem d_Law_block_11 : decode b_Law_block 11 = .ok (.iload 6, 2) := by decide +kernel
theorem d_Law_block_13 : decode b_Law_block 13 = .ok (.iload 7, 2) := by decide +kernel
theorem d_Law_block_15 : decode b_Law_block 15 = .ok (.invokevirtual 54, 3) := by decide +kernel
theorem d_Law_block_18 : decode b_Law_block 18 = .ok (.i2l, 1) := by decide +kernel
theorem d_Law_block_19 : decode b_Law_block 19 = .ok (.lastore, 1) := by decide +kernel
theorem d_Law_block_20 : decode b_Law_block 20 = .ok (.goto 7, 3) := by decide +kernel
theorem d_Law_block_23 : decode b_Law_block 23 = .ok (.astore 9, 2) := by decide +kernel
theorem d_Law_block_25 : decode b_Law_block 25 = .ok (.iconst 1, 1) := by decide +kernel
theorem d_Law_block_26 : decode b_Law_block 26 = .ok (.ireturn, 1) := by decide +kernel
theorem d_Law_block_27 : decode b_Law_block 27 = .ok (.iconst 0, 1) := by decide +kernel
theorem d_Law_block_28 : decode b_Law_block 28 = .ok (.ireturn, 1) := by decide +kernel
theorem d_Law_where_0 : decode b_Law_where 0 = .ok (.aload 4, 2) := by decide +kernel
theorem d_Law_where_2 : decode b_Law_where 2 = .ok (.iconst 0, 1) := by decide +kernel
theorem d_Law_where_3 : decode b_Law_where 3 = .ok (.aload_n 0, 1) := by decide +kernel
theorem d_Law_where_4 : decode b_Law_where 4 = .ok (.iload_n 1, 1) := by decide +kernel
theorem d_Law_where_5 : decode b_Law_where 5 = .ok (.iload_n 2, 1) := by decide +kernel
theorem d_Law_where_6 : decode b_Law_where 6 = .ok (.iload_n 3, 1) := by decide +kernel
theorem d_Law_where_7 : decode b_Law_where 7 = .ok (.invokevirtual 58, 3) := by decide +kernel
theorem d_Law_where_10 : decode b_Law_where 10 = .ok (.i2l, 1) := by decide +kernel
theorem d_Law_where_11 : decode b_Law_where 11 = .ok (.lastore, 1) := by decide +kernel
theorem d_Law_where_12 : decode b_Law_where 12 = .ok (.goto 7, 3) := by decide +kernel
theorem d_Law_where_15 : decode b_Law_where 15 = .ok (.astore 5, 2) := by decide +kernel
theorem d_Law_where_17 : decode b_Law_where 17 = .ok (.iconst 1, 1) := by decide +kernel
theorem d_Law_where_18 : decode b_Law_where 18 = .ok (.ireturn, 1) := by decide +kernel
theorem d_Law_where_19 : decode b_Law_where 19 = .ok (.iconst 0, 1) := by decide +kernel
theorem d_Law_where_20 : decode b_Law_where 20 = .ok (.ireturn, 1) := by decide +kernel
theorem d_Law_coefficient_0 : decode b_Law_coefficient 0 = .ok (.aload 6, 2) := by decide +kernel
theorem d_Law_coefficient_2 : decode b_Law_coefficient 2 = .ok (.iconst 0, 1) := by decide +kernel
theorem d_Law_coefficient_3 : decode b_Law_coefficient 3 = .ok (.aload_n 0, 1) := by decide +kernel
theorem d_Law_coefficient_4 : decode b_Law_coefficient 4 = .ok (.iload_n 1, 1) := by decide +kernel
theorem d_Law_coefficient_5 : decode b_Law_coefficient 5 = .ok (.iload_n 2, 1) := by decide +kernel
theorem d_Law_coefficient_6 : decode b_Law_coefficient 6 = .ok (.iload_n 3, 1) := by decide +kernel
theorem d_Law_coefficient_7 : decode b_Law_coefficient 7 = .ok (.iload 4, 2) := by decide +kernel
theorem d_Law_coefficient_9 : decode b_Law_coefficient 9 = .ok (.iload 5, 2) := by decide +kernel
theorem d_Law_coefficient_11 : decode b_Law_coefficient 11 = .ok (.invokevirtual 61, 3) := by decide +kernel
theorem d_Law_coefficient_14 : decode b_Law_coefficient 14 = .ok (.i2l, 1) := by decide +kernel
theorem d_Law_coefficient_15 : decode b_Law_coefficient 15 = .ok (.lastore, 1) := by decide +kernel
theorem d_Law_coefficient_16 : decode b_Law_coefficient 16 = .ok (.goto 7, 3) := by decide +kernel
theorem d_Law_coefficient_19 : decode b_Law_coefficient 19 = .ok (.astore 7, 2) := by decide +kernel
theorem d_Law_coefficient_21 : decode b_Law_coefficient 21 = .ok (.iconst 1, 1) := by decide +kernel
theorem d_Law_coefficient_22 : decode b_Law_coefficient 22 = .ok (.ireturn, 1) := by decide +kernel
theorem d_Law_coefficient_23 : decode b_Law_coefficient 23 = .ok (.iconst 0, 1) := by decide +kernel
theorem d_Law_coefficient_24 : decode b_Law_coefficient 24 = .ok (.ireturn, 1) := by decide +kernel
