theorem dL_at_0 : decode cL_at 0 = .ok (.iload_n 1, 1) := by decide +kernel
theorem dL_at_1 : decode cL_at 1 = .ok (.aload_n 0, 1) := by decide +kernel
theorem dL_at_2 : decode cL_at 2 = .ok (.arraylength, 1) := by decide +kernel
theorem dL_at_3 : decode cL_at 3 = .ok (.if_icmp .ge 9, 3) := by decide +kernel
theorem dL_at_6 : decode cL_at 6 = .ok (.aload_n 0, 1) := by decide +kernel
theorem dL_at_7 : decode cL_at 7 = .ok (.iload_n 1, 1) := by decide +kernel
theorem dL_at_8 : decode cL_at 8 = .ok (.iaload, 1) := by decide +kernel
theorem dL_at_9 : decode cL_at 9 = .ok (.goto 4, 3) := by decide +kernel
theorem dL_at_12 : decode cL_at 12 = .ok (.iconst 0, 1) := by decide +kernel
theorem dL_at_13 : decode cL_at 13 = .ok (.ireturn, 1) := by decide +kernel
theorem dL_some_0 : decode cL_some 0 = .ok (.iload_n 0, 1) := by decide +kernel
theorem dL_some_1 : decode cL_some 1 = .ok (.iload_n 1, 1) := by decide +kernel
theorem dL_some_2 : decode cL_some 2 = .ok (.irem, 1) := by decide +kernel
theorem dL_some_3 : decode cL_some 3 = .ok (.istore_n 2, 1) := by decide +kernel
theorem dL_some_4 : decode cL_some 4 = .ok (.iload_n 2, 1) := by decide +kernel
theorem dL_some_5 : decode cL_some 5 = .ok (.ifCond .ge 9, 3) := by decide +kernel
theorem dL_some_8 : decode cL_some 8 = .ok (.iload_n 2, 1) := by decide +kernel
theorem dL_some_9 : decode cL_some 9 = .ok (.iload_n 1, 1) := by decide +kernel
theorem dL_some_10 : decode cL_some 10 = .ok (.iadd, 1) := by decide +kernel
theorem dL_some_11 : decode cL_some 11 = .ok (.goto 4, 3) := by decide +kernel
theorem dL_some_14 : decode cL_some 14 = .ok (.iload_n 2, 1) := by decide +kernel
theorem dL_some_15 : decode cL_some 15 = .ok (.ireturn, 1) := by decide +kernel
theorem dL_point_0 : decode cL_point 0 = .ok (.aload_n 0, 1) := by decide +kernel
theorem dL_point_1 : decode cL_point 1 = .ok (.iload_n 1, 1) := by decide +kernel
theorem dL_point_2 : decode cL_point 2 = .ok (.iload_n 2, 1) := by decide +kernel
theorem dL_point_3 : decode cL_point 3 = .ok (.invokevirtual 7, 3) := by decide +kernel
theorem dL_point_6 : decode cL_point 6 = .ok (.ireturn, 1) := by decide +kernel
theorem dL_point_7 : decode cL_point 7 = .ok (.astore_n 3, 1) := by decide +kernel
theorem dL_point_8 : decode cL_point 8 = .ok (.sipush (-1001), 3) := by decide +kernel
theorem dL_point_11 : decode cL_point 11 = .ok (.ireturn, 1) := by decide +kernel
theorem dL_point_12 : decode cL_point 12 = .ok (.astore_n 3, 1) := by decide +kernel
theorem dL_point_13 : decode cL_point 13 = .ok (.sipush (-1002), 3) := by decide +kernel
theorem dL_point_16 : decode cL_point 16 = .ok (.ireturn, 1) := by decide +kernel
theorem dL_point_17 : decode cL_point 17 = .ok (.astore_n 3, 1) := by decide +kernel
theorem dL_point_18 : decode cL_point 18 = .ok (.sipush (-1003), 3) := by decide +kernel
theorem dL_point_21 : decode cL_point 21 = .ok (.ireturn, 1) := by decide +kernel
theorem dL_remove_0 : decode cL_remove 0 = .ok (.aload_n 0, 1) := by decide +kernel
theorem dL_remove_1 : decode cL_remove 1 = .ok (.iload_n 1, 1) := by decide +kernel
theorem dL_remove_2 : decode cL_remove 2 = .ok (.invokevirtual 19, 3) := by decide +kernel
theorem dL_remove_5 : decode cL_remove 5 = .ok (.ireturn, 1) := by decide +kernel
theorem dL_remove_6 : decode cL_remove 6 = .ok (.astore_n 2, 1) := by decide +kernel
theorem dL_remove_7 : decode cL_remove 7 = .ok (.sipush (-1001), 3) := by decide +kernel
theorem dL_remove_10 : decode cL_remove 10 = .ok (.ireturn, 1) := by decide +kernel
theorem dL_remove_11 : decode cL_remove 11 = .ok (.astore_n 2, 1) := by decide +kernel
theorem dL_remove_12 : decode cL_remove 12 = .ok (.sipush (-1002), 3) := by decide +kernel
theorem dL_remove_15 : decode cL_remove 15 = .ok (.ireturn, 1) := by decide +kernel
theorem dL_move_0 : decode cL_move 0 = .ok (.aload_n 0, 1) := by decide +kernel
theorem dL_move_1 : decode cL_move 1 = .ok (.iload_n 1, 1) := by decide +kernel
theorem dL_move_2 : decode cL_move 2 = .ok (.iload_n 2, 1) := by decide +kernel
theorem dL_move_3 : decode cL_move 3 = .ok (.iload_n 3, 1) := by decide +kernel
theorem dL_move_4 : decode cL_move 4 = .ok (.invokevirtual 25, 3) := by decide +kernel
theorem dL_move_7 : decode cL_move 7 = .ok (.ifCond .eq 7, 3) := by decide +kernel
theorem dL_move_10 : decode cL_move 10 = .ok (.iconst 1, 1) := by decide +kernel
theorem dL_move_11 : decode cL_move 11 = .ok (.goto 4, 3) := by decide +kernel
theorem dL_move_14 : decode cL_move 14 = .ok (.iconst 0, 1) := by decide +kernel
theorem dL_move_15 : decode cL_move 15 = .ok (.ireturn, 1) := by decide +kernel
theorem dL_move_16 : decode cL_move 16 = .ok (.astore 4, 2) := by decide +kernel
theorem dL_move_18 : decode cL_move 18 = .ok (.sipush (-1001), 3) := by decide +kernel
theorem dL_move_21 : decode cL_move 21 = .ok (.ireturn, 1) := by decide +kernel
theorem dL_move_22 : decode cL_move 22 = .ok (.astore 4, 2) := by decide +kernel
theorem dL_move_24 : decode cL_move 24 = .ok (.sipush (-1002), 3) := by decide +kernel
theorem dL_move_27 : decode cL_move 27 = .ok (.ireturn, 1) := by decide +kernel
theorem dL_move_28 : decode cL_move 28 = .ok (.astore 4, 2) := by decide +kernel
theorem dL_move_30 : decode cL_move 30 = .ok (.sipush (-1003), 3) := by decide +kernel
theorem dL_move_33 : decode cL_move 33 = .ok (.ireturn, 1) := by decide +kernel
theorem dL_move_34 : decode cL_move 34 = .ok (.astore 4, 2) := by decide +kernel
theorem dL_move_36 : decode cL_move 36 = .ok (.sipush (-1004), 3) := by decide +kernel
theorem dL_move_39 : decode cL_move 39 = .ok (.ireturn, 1) := by decide +kernel
theorem dL_coordinate_0 : decode cL_coordinate 0 = .ok (.aload_n 0, 1) := by decide +kernel
theorem dL_coordinate_1 : decode cL_coordinate 1 = .ok (.iload_n 1, 1) := by decide +kernel
theorem dL_coordinate_2 : decode cL_coordinate 2 = .ok (.iload_n 2, 1) := by decide +kernel
theorem dL_coordinate_3 : decode cL_coordinate 3 = .ok (.invokevirtual 29, 3) := by decide +kernel
theorem dL_coordinate_6 : decode cL_coordinate 6 = .ok (.ireturn, 1) := by decide +kernel
theorem dL_coordinate_7 : decode cL_coordinate 7 = .ok (.astore_n 3, 1) := by decide +kernel
theorem dL_coordinate_8 : decode cL_coordinate 8 = .ok (.sipush (-1001), 3) := by decide +kernel
theorem dL_coordinate_11 : decode cL_coordinate 11 = .ok (.ireturn, 1) := by decide +kernel
theorem dL_coordinate_12 : decode cL_coordinate 12 = .ok (.astore_n 3, 1) := by decide +kernel
theorem dL_coordinate_13 : decode cL_coordinate 13 = .ok (.sipush (-1002), 3) := by decide +kernel
theorem dL_coordinate_16 : decode cL_coordinate 16 = .ok (.ireturn, 1) := by decide +kernel
theorem dL_tie_0 : decode cL_tie 0 = .ok (.aload_n 0, 1) := by decide +kernel
theorem dL_tie_1 : decode cL_tie 1 = .ok (.iload_n 1, 1) := by decide +kernel
theorem dL_tie_2 : decode cL_tie 2 = .ok (.iload_n 2, 1) := by decide +kernel
theorem dL_tie_3 : decode cL_tie 3 = .ok (.invokevirtual 32, 3) := by decide +kernel
theorem dL_tie_6 : decode cL_tie 6 = .ok (.ireturn, 1) := by decide +kernel
theorem dL_tie_7 : decode cL_tie 7 = .ok (.astore_n 3, 1) := by decide +kernel
theorem dL_tie_8 : decode cL_tie 8 = .ok (.sipush (-1001), 3) := by decide +kernel
theorem dL_tie_11 : decode cL_tie 11 = .ok (.ireturn, 1) := by decide +kernel
theorem dL_tie_12 : decode cL_tie 12 = .ok (.astore_n 3, 1) := by decide +kernel
theorem dL_tie_13 : decode cL_tie 13 = .ok (.sipush (-1002), 3) := by decide +kernel
theorem dL_tie_16 : decode cL_tie 16 = .ok (.ireturn, 1) := by decide +kernel
theorem dL_tie_17 : decode cL_tie 17 = .ok (.astore_n 3, 1) := by decide +kernel
theorem dL_tie_18 : decode cL_tie 18 = .ok (.sipush (-1003), 3) := by decide +kernel
theorem dL_tie_21 : decode cL_tie 21 = .ok (.ireturn, 1) := by decide +kernel
theorem dL_tie_22 : decode cL_tie 22 = .ok (.astore_n 3, 1) := by decide +kernel
theorem dL_tie_23 : decode cL_tie 23 = .ok (.sipush (-1004), 3) := by decide +kernel
theorem dL_tie_26 : decode cL_tie 26 = .ok (.ireturn, 1) := by decide +kernel
theorem dL_untie_0 : decode cL_untie 0 = .ok (.aload_n 0, 1) := by decide +kernel
theorem dL_untie_1 : decode cL_untie 1 = .ok (.iload_n 1, 1) := by decide +kernel
theorem dL_untie_2 : decode cL_untie 2 = .ok (.invokevirtual 35, 3) := by decide +kernel
theorem dL_untie_5 : decode cL_untie 5 = .ok (.ireturn, 1) := by decide +kernel
theorem dL_untie_6 : decode cL_untie 6 = .ok (.astore_n 2, 1) := by decide +kernel
theorem dL_untie_7 : decode cL_untie 7 = .ok (.sipush (-1001), 3) := by decide +kernel
theorem dL_untie_10 : decode cL_untie 10 = .ok (.ireturn, 1) := by decide +kernel
theorem dL_tied_0 : decode cL_tied 0 = .ok (.aload_n 0, 1) := by decide +kernel
theorem dL_tied_1 : decode cL_tied 1 = .ok (.iload_n 1, 1) := by decide +kernel
theorem dL_tied_2 : decode cL_tied 2 = .ok (.iload_n 2, 1) := by decide +kernel
theorem dL_tied_3 : decode cL_tied 3 = .ok (.invokevirtual 38, 3) := by decide +kernel
theorem dL_tied_6 : decode cL_tied 6 = .ok (.ireturn, 1) := by decide +kernel
theorem dL_tied_7 : decode cL_tied 7 = .ok (.astore_n 3, 1) := by decide +kernel
theorem dL_tied_8 : decode cL_tied 8 = .ok (.sipush (-1001), 3) := by decide +kernel
theorem dL_tied_11 : decode cL_tied 11 = .ok (.ireturn, 1) := by decide +kernel
theorem dL_tied_12 : decode cL_tied 12 = .ok (.astore_n 3, 1) := by decide +kernel
theorem dL_tied_13 : decode cL_tied 13 = .ok (.sipush (-1002), 3) := by decide +kernel
theorem dL_tied_16 : decode cL_tied 16 = .ok (.ireturn, 1) := by decide +kernel
theorem dL_corner_0 : decode cL_corner 0 = .ok (.aload_n 0, 1) := by decide +kernel
theorem dL_corner_1 : decode cL_corner 1 = .ok (.iload_n 1, 1) := by decide +kernel
theorem dL_corner_2 : decode cL_corner 2 = .ok (.iload_n 2, 1) := by decide +kernel
theorem dL_corner_3 : decode cL_corner 3 = .ok (.invokevirtual 63, 3) := by decide +kernel
theorem dL_corner_6 : decode cL_corner 6 = .ok (.ireturn, 1) := by decide +kernel
theorem dL_corner_7 : decode cL_corner 7 = .ok (.astore_n 3, 1) := by decide +kernel
theorem dL_corner_8 : decode cL_corner 8 = .ok (.sipush (-1001), 3) := by decide +kernel
theorem dL_corner_11 : decode cL_corner 11 = .ok (.ireturn, 1) := by decide +kernel
theorem dL_corner_12 : decode cL_corner 12 = .ok (.astore_n 3, 1) := by decide +kernel
theorem dL_corner_13 : decode cL_corner 13 = .ok (.sipush (-1002), 3) := by decide +kernel
theorem dL_corner_16 : decode cL_corner 16 = .ok (.ireturn, 1) := by decide +kernel
theorem dL_beyond_0 : decode cL_beyond 0 = .ok (.aload_n 0, 1) := by decide +kernel
theorem dL_beyond_1 : decode cL_beyond 1 = .ok (.iload_n 1, 1) := by decide +kernel
theorem dL_beyond_2 : decode cL_beyond 2 = .ok (.iload_n 2, 1) := by decide +kernel
theorem dL_beyond_3 : decode cL_beyond 3 = .ok (.invokevirtual 66, 3) := by decide +kernel
theorem dL_beyond_6 : decode cL_beyond 6 = .ok (.ireturn, 1) := by decide +kernel
theorem dL_beyond_7 : decode cL_beyond 7 = .ok (.astore_n 3, 1) := by decide +kernel
theorem dL_beyond_8 : decode cL_beyond 8 = .ok (.sipush (-1001), 3) := by decide +kernel
theorem dL_beyond_11 : decode cL_beyond 11 = .ok (.ireturn, 1) := by decide +kernel
theorem dL_beyond_12 : decode cL_beyond 12 = .ok (.astore_n 3, 1) := by decide +kernel
theorem dL_beyond_13 : decode cL_beyond 13 = .ok (.sipush (-1002), 3) := by decide +kernel
theorem dL_beyond_16 : decode cL_beyond 16 = .ok (.ireturn, 1) := by decide +kernel
theorem dL_end_0 : decode cL_end 0 = .ok (.aload_n 0, 1) := by decide +kernel
theorem dL_end_1 : decode cL_end 1 = .ok (.iload_n 1, 1) := by decide +kernel
theorem dL_end_2 : decode cL_end 2 = .ok (.iload_n 2, 1) := by decide +kernel
theorem dL_end_3 : decode cL_end 3 = .ok (.invokevirtual 69, 3) := by decide +kernel
theorem dL_end_6 : decode cL_end 6 = .ok (.ireturn, 1) := by decide +kernel
theorem dL_end_7 : decode cL_end 7 = .ok (.astore_n 3, 1) := by decide +kernel
theorem dL_end_8 : decode cL_end 8 = .ok (.sipush (-1001), 3) := by decide +kernel
theorem dL_end_11 : decode cL_end 11 = .ok (.ireturn, 1) := by decide +kernel
theorem dL_end_12 : decode cL_end 12 = .ok (.astore_n 3, 1) := by decide +kernel
theorem dL_end_13 : decode cL_end 13 = .ok (.sipush (-1002), 3) := by decide +kernel
theorem dL_end_16 : decode cL_end 16 = .ok (.ireturn, 1) := by decide +kernel
theorem dL_between_0 : decode cL_between 0 = .ok (.aload_n 0, 1) := by decide +kernel
theorem dL_between_1 : decode cL_between 1 = .ok (.iload_n 1, 1) := by decide +kernel
theorem dL_between_2 : decode cL_between 2 = .ok (.iload_n 2, 1) := by decide +kernel
theorem dL_between_3 : decode cL_between 3 = .ok (.invokevirtual 72, 3) := by decide +kernel
theorem dL_between_6 : decode cL_between 6 = .ok (.ireturn, 1) := by decide +kernel
theorem dL_between_7 : decode cL_between 7 = .ok (.astore_n 3, 1) := by decide +kernel
theorem dL_between_8 : decode cL_between 8 = .ok (.sipush (-1001), 3) := by decide +kernel
theorem dL_between_11 : decode cL_between 11 = .ok (.ireturn, 1) := by decide +kernel
theorem dL_between_12 : decode cL_between 12 = .ok (.astore_n 3, 1) := by decide +kernel
theorem dL_between_13 : decode cL_between 13 = .ok (.sipush (-1002), 3) := by decide +kernel
theorem dL_between_16 : decode cL_between 16 = .ok (.ireturn, 1) := by decide +kernel
theorem dL_degree_0 : decode cL_degree 0 = .ok (.aload_n 0, 1) := by decide +kernel
theorem dL_degree_1 : decode cL_degree 1 = .ok (.iload_n 1, 1) := by decide +kernel
theorem dL_degree_2 : decode cL_degree 2 = .ok (.invokevirtual 77, 3) := by decide +kernel
theorem dL_degree_5 : decode cL_degree 5 = .ok (.ireturn, 1) := by decide +kernel
theorem dL_degree_6 : decode cL_degree 6 = .ok (.astore_n 2, 1) := by decide +kernel
theorem dL_degree_7 : decode cL_degree 7 = .ok (.sipush (-1001), 3) := by decide +kernel
theorem dL_degree_10 : decode cL_degree 10 = .ok (.ireturn, 1) := by decide +kernel
theorem dL_neighbour_0 : decode cL_neighbour 0 = .ok (.aload_n 0, 1) := by decide +kernel
theorem dL_neighbour_1 : decode cL_neighbour 1 = .ok (.iload_n 1, 1) := by decide +kernel
theorem dL_neighbour_2 : decode cL_neighbour 2 = .ok (.iload_n 2, 1) := by decide +kernel
theorem dL_neighbour_3 : decode cL_neighbour 3 = .ok (.invokevirtual 80, 3) := by decide +kernel
theorem dL_neighbour_6 : decode cL_neighbour 6 = .ok (.ireturn, 1) := by decide +kernel
theorem dL_neighbour_7 : decode cL_neighbour 7 = .ok (.astore_n 3, 1) := by decide +kernel
theorem dL_neighbour_8 : decode cL_neighbour 8 = .ok (.sipush (-1001), 3) := by decide +kernel
theorem dL_neighbour_11 : decode cL_neighbour 11 = .ok (.ireturn, 1) := by decide +kernel
theorem dL_neighbour_12 : decode cL_neighbour 12 = .ok (.astore_n 3, 1) := by decide +kernel
theorem dL_neighbour_13 : decode cL_neighbour 13 = .ok (.sipush (-1002), 3) := by decide +kernel
theorem dL_neighbour_16 : decode cL_neighbour 16 = .ok (.ireturn, 1) := by decide +kernel
theorem dL_hull_0 : decode cL_hull 0 = .ok (.aload_n 0, 1) := by decide +kernel
theorem dL_hull_1 : decode cL_hull 1 = .ok (.iload_n 1, 1) := by decide +kernel
theorem dL_hull_2 : decode cL_hull 2 = .ok (.invokevirtual 83, 3) := by decide +kernel
theorem dL_hull_5 : decode cL_hull 5 = .ok (.ireturn, 1) := by decide +kernel
theorem dL_hull_6 : decode cL_hull 6 = .ok (.astore_n 2, 1) := by decide +kernel
theorem dL_hull_7 : decode cL_hull 7 = .ok (.sipush (-1001), 3) := by decide +kernel
theorem dL_hull_10 : decode cL_hull 10 = .ok (.ireturn, 1) := by decide +kernel
theorem dL_area_0 : decode cL_area 0 = .ok (.aload_n 0, 1) := by decide +kernel
theorem dL_area_1 : decode cL_area 1 = .ok (.iload_n 1, 1) := by decide +kernel
theorem dL_area_2 : decode cL_area 2 = .ok (.invokevirtual 86, 3) := by decide +kernel
theorem dL_area_5 : decode cL_area 5 = .ok (.ireturn, 1) := by decide +kernel
theorem dL_area_6 : decode cL_area 6 = .ok (.astore_n 2, 1) := by decide +kernel
theorem dL_area_7 : decode cL_area 7 = .ok (.sipush (-1001), 3) := by decide +kernel
theorem dL_area_10 : decode cL_area 10 = .ok (.ireturn, 1) := by decide +kernel
theorem dL_share_0 : decode cL_share 0 = .ok (.aload_n 0, 1) := by decide +kernel
theorem dL_share_1 : decode cL_share 1 = .ok (.iload_n 1, 1) := by decide +kernel
theorem dL_share_2 : decode cL_share 2 = .ok (.invokevirtual 89, 3) := by decide +kernel
theorem dL_share_5 : decode cL_share 5 = .ok (.dreturn, 1) := by decide +kernel
theorem dL_share_6 : decode cL_share 6 = .ok (.astore_n 2, 1) := by decide +kernel
theorem dL_share_7 : decode cL_share 7 = .ok (.ldc2_w 93, 3) := by decide +kernel
theorem dL_share_10 : decode cL_share 10 = .ok (.dreturn, 1) := by decide +kernel
theorem dL_mean_0 : decode cL_mean 0 = .ok (.aload_n 0, 1) := by decide +kernel
theorem dL_mean_1 : decode cL_mean 1 = .ok (.invokevirtual 95, 3) := by decide +kernel
theorem dL_mean_4 : decode cL_mean 4 = .ok (.dreturn, 1) := by decide +kernel
theorem dL_mean_5 : decode cL_mean 5 = .ok (.astore_n 1, 1) := by decide +kernel
theorem dL_mean_6 : decode cL_mean 6 = .ok (.ldc2_w 93, 3) := by decide +kernel
theorem dL_mean_9 : decode cL_mean 9 = .ok (.dreturn, 1) := by decide +kernel
theorem dL_square_0 : decode cL_square 0 = .ok (.aload_n 0, 1) := by decide +kernel
theorem dL_square_1 : decode cL_square 1 = .ok (.iload_n 1, 1) := by decide +kernel
theorem dL_square_2 : decode cL_square 2 = .ok (.invokevirtual 99, 3) := by decide +kernel
theorem dL_square_5 : decode cL_square 5 = .ok (.ireturn, 1) := by decide +kernel
theorem dL_square_6 : decode cL_square 6 = .ok (.astore_n 2, 1) := by decide +kernel
theorem dL_square_7 : decode cL_square 7 = .ok (.sipush (-1001), 3) := by decide +kernel
theorem dL_square_10 : decode cL_square 10 = .ok (.ireturn, 1) := by decide +kernel
theorem dL_square_11 : decode cL_square 11 = .ok (.astore_n 2, 1) := by decide +kernel
theorem dL_square_12 : decode cL_square 12 = .ok (.sipush (-1002), 3) := by decide +kernel
theorem dL_square_15 : decode cL_square 15 = .ok (.ireturn, 1) := by decide +kernel
theorem dL_turn_0 : decode cL_turn 0 = .ok (.aload_n 0, 1) := by decide +kernel
theorem dL_turn_1 : decode cL_turn 1 = .ok (.iload_n 1, 1) := by decide +kernel
theorem dL_turn_2 : decode cL_turn 2 = .ok (.iload_n 2, 1) := by decide +kernel
theorem dL_turn_3 : decode cL_turn 3 = .ok (.iload_n 3, 1) := by decide +kernel
theorem dL_turn_4 : decode cL_turn 4 = .ok (.invokevirtual 102, 3) := by decide +kernel
theorem dL_turn_7 : decode cL_turn 7 = .ok (.ireturn, 1) := by decide +kernel
theorem dL_turn_8 : decode cL_turn 8 = .ok (.astore 4, 2) := by decide +kernel
theorem dL_turn_10 : decode cL_turn 10 = .ok (.sipush (-1001), 3) := by decide +kernel
theorem dL_turn_13 : decode cL_turn 13 = .ok (.ireturn, 1) := by decide +kernel
theorem dL_circle_0 : decode cL_circle 0 = .ok (.aload_n 0, 1) := by decide +kernel
theorem dL_circle_1 : decode cL_circle 1 = .ok (.iload_n 1, 1) := by decide +kernel
theorem dL_circle_2 : decode cL_circle 2 = .ok (.iload_n 2, 1) := by decide +kernel
theorem dL_circle_3 : decode cL_circle 3 = .ok (.iload_n 3, 1) := by decide +kernel
theorem dL_circle_4 : decode cL_circle 4 = .ok (.iload 4, 2) := by decide +kernel
theorem dL_circle_6 : decode cL_circle 6 = .ok (.invokevirtual 106, 3) := by decide +kernel
theorem dL_circle_9 : decode cL_circle 9 = .ok (.ireturn, 1) := by decide +kernel
theorem dL_circle_10 : decode cL_circle 10 = .ok (.astore 5, 2) := by decide +kernel
theorem dL_circle_12 : decode cL_circle 12 = .ok (.sipush (-1001), 3) := by decide +kernel
theorem dL_circle_15 : decode cL_circle 15 = .ok (.ireturn, 1) := by decide +kernel
theorem dL_circle_16 : decode cL_circle 16 = .ok (.astore 5, 2) := by decide +kernel
theorem dL_circle_18 : decode cL_circle 18 = .ok (.sipush (-1002), 3) := by decide +kernel
theorem dL_circle_21 : decode cL_circle 21 = .ok (.ireturn, 1) := by decide +kernel
theorem dL_good_0 : decode cL_good 0 = .ok (.aload_n 0, 1) := by decide +kernel
theorem dL_good_1 : decode cL_good 1 = .ok (.iload_n 1, 1) := by decide +kernel
theorem dL_good_2 : decode cL_good 2 = .ok (.invokevirtual 112, 3) := by decide +kernel
theorem dL_good_5 : decode cL_good 5 = .ok (.ifCond .eq 7, 3) := by decide +kernel
theorem dL_good_8 : decode cL_good 8 = .ok (.iconst 1, 1) := by decide +kernel
theorem dL_good_9 : decode cL_good 9 = .ok (.goto 4, 3) := by decide +kernel
theorem dL_good_12 : decode cL_good 12 = .ok (.iconst 0, 1) := by decide +kernel
theorem dL_good_13 : decode cL_good 13 = .ok (.ireturn, 1) := by decide +kernel
theorem dL_good_14 : decode cL_good 14 = .ok (.astore_n 2, 1) := by decide +kernel
theorem dL_good_15 : decode cL_good 15 = .ok (.sipush (-1001), 3) := by decide +kernel
theorem dL_good_18 : decode cL_good 18 = .ok (.ireturn, 1) := by decide +kernel
theorem dL_good_19 : decode cL_good 19 = .ok (.astore_n 2, 1) := by decide +kernel
theorem dL_good_20 : decode cL_good 20 = .ok (.sipush (-1002), 3) := by decide +kernel
theorem dL_good_23 : decode cL_good 23 = .ok (.ireturn, 1) := by decide +kernel
theorem dL_kind_0 : decode cL_kind 0 = .ok (.aload_n 0, 1) := by decide +kernel
theorem dL_kind_1 : decode cL_kind 1 = .ok (.iload_n 1, 1) := by decide +kernel
theorem dL_kind_2 : decode cL_kind 2 = .ok (.iload_n 2, 1) := by decide +kernel
theorem dL_kind_3 : decode cL_kind 3 = .ok (.invokevirtual 116, 3) := by decide +kernel
theorem dL_kind_6 : decode cL_kind 6 = .ok (.ireturn, 1) := by decide +kernel
theorem dL_kind_7 : decode cL_kind 7 = .ok (.astore_n 3, 1) := by decide +kernel
theorem dL_kind_8 : decode cL_kind 8 = .ok (.sipush (-1001), 3) := by decide +kernel
theorem dL_kind_11 : decode cL_kind 11 = .ok (.ireturn, 1) := by decide +kernel
theorem dL_number_0 : decode cL_number 0 = .ok (.aload_n 0, 1) := by decide +kernel
theorem dL_number_1 : decode cL_number 1 = .ok (.iload_n 1, 1) := by decide +kernel
theorem dL_number_2 : decode cL_number 2 = .ok (.iload_n 2, 1) := by decide +kernel
theorem dL_number_3 : decode cL_number 3 = .ok (.invokevirtual 119, 3) := by decide +kernel
theorem dL_number_6 : decode cL_number 6 = .ok (.ireturn, 1) := by decide +kernel
theorem dL_number_7 : decode cL_number 7 = .ok (.astore_n 3, 1) := by decide +kernel
theorem dL_number_8 : decode cL_number 8 = .ok (.sipush (-1001), 3) := by decide +kernel
theorem dL_number_11 : decode cL_number 11 = .ok (.ireturn, 1) := by decide +kernel
theorem dL_number_12 : decode cL_number 12 = .ok (.astore_n 3, 1) := by decide +kernel
theorem dL_number_13 : decode cL_number 13 = .ok (.sipush (-1002), 3) := by decide +kernel
theorem dL_number_16 : decode cL_number 16 = .ok (.ireturn, 1) := by decide +kernel
theorem dL_walk_0 : decode cL_walk 0 = .ok (.aload_n 0, 1) := by decide +kernel
theorem dL_walk_1 : decode cL_walk 1 = .ok (.iload_n 1, 1) := by decide +kernel
theorem dL_walk_2 : decode cL_walk 2 = .ok (.iload_n 2, 1) := by decide +kernel
theorem dL_walk_3 : decode cL_walk 3 = .ok (.iload_n 3, 1) := by decide +kernel
theorem dL_walk_4 : decode cL_walk 4 = .ok (.iload 4, 2) := by decide +kernel
theorem dL_walk_6 : decode cL_walk 6 = .ok (.invokevirtual 122, 3) := by decide +kernel
theorem dL_walk_9 : decode cL_walk 9 = .ok (.ireturn, 1) := by decide +kernel
theorem dL_walk_10 : decode cL_walk 10 = .ok (.astore 5, 2) := by decide +kernel
theorem dL_walk_12 : decode cL_walk 12 = .ok (.sipush (-1001), 3) := by decide +kernel
theorem dL_walk_15 : decode cL_walk 15 = .ok (.ireturn, 1) := by decide +kernel
theorem dL_walk_16 : decode cL_walk 16 = .ok (.astore 5, 2) := by decide +kernel
theorem dL_walk_18 : decode cL_walk 18 = .ok (.sipush (-1002), 3) := by decide +kernel
theorem dL_walk_21 : decode cL_walk 21 = .ok (.ireturn, 1) := by decide +kernel
theorem dL_cavity_0 : decode cL_cavity 0 = .ok (.aload_n 0, 1) := by decide +kernel
theorem dL_cavity_1 : decode cL_cavity 1 = .ok (.iload_n 1, 1) := by decide +kernel
theorem dL_cavity_2 : decode cL_cavity 2 = .ok (.iload_n 2, 1) := by decide +kernel
theorem dL_cavity_3 : decode cL_cavity 3 = .ok (.invokevirtual 126, 3) := by decide +kernel
theorem dL_cavity_6 : decode cL_cavity 6 = .ok (.ireturn, 1) := by decide +kernel
theorem dL_cavity_7 : decode cL_cavity 7 = .ok (.astore_n 3, 1) := by decide +kernel
theorem dL_cavity_8 : decode cL_cavity 8 = .ok (.sipush (-1001), 3) := by decide +kernel
theorem dL_cavity_11 : decode cL_cavity 11 = .ok (.ireturn, 1) := by decide +kernel
theorem dL_cavity_12 : decode cL_cavity 12 = .ok (.astore_n 3, 1) := by decide +kernel
theorem dL_cavity_13 : decode cL_cavity 13 = .ok (.sipush (-1002), 3) := by decide +kernel
theorem dL_cavity_16 : decode cL_cavity 16 = .ok (.ireturn, 1) := by decide +kernel
theorem dL_cavity_17 : decode cL_cavity 17 = .ok (.astore_n 3, 1) := by decide +kernel
theorem dL_cavity_18 : decode cL_cavity 18 = .ok (.sipush (-1003), 3) := by decide +kernel
theorem dL_cavity_21 : decode cL_cavity 21 = .ok (.ireturn, 1) := by decide +kernel
theorem dL_hole_0 : decode cL_hole 0 = .ok (.aload_n 0, 1) := by decide +kernel
theorem dL_hole_1 : decode cL_hole 1 = .ok (.iload_n 1, 1) := by decide +kernel
theorem dL_hole_2 : decode cL_hole 2 = .ok (.invokevirtual 129, 3) := by decide +kernel
theorem dL_hole_5 : decode cL_hole 5 = .ok (.ireturn, 1) := by decide +kernel
theorem dL_hole_6 : decode cL_hole 6 = .ok (.astore_n 2, 1) := by decide +kernel
theorem dL_hole_7 : decode cL_hole 7 = .ok (.sipush (-1001), 3) := by decide +kernel
theorem dL_hole_10 : decode cL_hole 10 = .ok (.ireturn, 1) := by decide +kernel
theorem dL_hole_11 : decode cL_hole 11 = .ok (.astore_n 2, 1) := by decide +kernel
theorem dL_hole_12 : decode cL_hole 12 = .ok (.sipush (-1002), 3) := by decide +kernel
theorem dL_hole_15 : decode cL_hole 15 = .ok (.ireturn, 1) := by decide +kernel
theorem dL_crossings_0 : decode cL_crossings 0 = .ok (.aload_n 0, 1) := by decide +kernel
theorem dL_crossings_1 : decode cL_crossings 1 = .ok (.iload_n 1, 1) := by decide +kernel
theorem dL_crossings_2 : decode cL_crossings 2 = .ok (.iload_n 2, 1) := by decide +kernel
theorem dL_crossings_3 : decode cL_crossings 3 = .ok (.invokevirtual 132, 3) := by decide +kernel
theorem dL_crossings_6 : decode cL_crossings 6 = .ok (.ireturn, 1) := by decide +kernel
theorem dL_crossings_7 : decode cL_crossings 7 = .ok (.astore_n 3, 1) := by decide +kernel
theorem dL_crossings_8 : decode cL_crossings 8 = .ok (.sipush (-1001), 3) := by decide +kernel
theorem dL_crossings_11 : decode cL_crossings 11 = .ok (.ireturn, 1) := by decide +kernel
theorem dL_crossings_12 : decode cL_crossings 12 = .ok (.astore_n 3, 1) := by decide +kernel
theorem dL_crossings_13 : decode cL_crossings 13 = .ok (.sipush (-1002), 3) := by decide +kernel
theorem dL_crossings_16 : decode cL_crossings 16 = .ok (.ireturn, 1) := by decide +kernel
theorem dL_effect_0 : decode cL_effect 0 = .ok (.aload_n 0, 1) := by decide +kernel
theorem dL_effect_1 : decode cL_effect 1 = .ok (.iload_n 1, 1) := by decide +kernel
theorem dL_effect_2 : decode cL_effect 2 = .ok (.invokevirtual 135, 3) := by decide +kernel
theorem dL_effect_5 : decode cL_effect 5 = .ok (.ireturn, 1) := by decide +kernel
theorem dL_effect_6 : decode cL_effect 6 = .ok (.astore_n 2, 1) := by decide +kernel
theorem dL_effect_7 : decode cL_effect 7 = .ok (.sipush (-1001), 3) := by decide +kernel
theorem dL_effect_10 : decode cL_effect 10 = .ok (.ireturn, 1) := by decide +kernel
theorem dL_undo_0 : decode cL_undo 0 = .ok (.aload_n 0, 1) := by decide +kernel
theorem dL_undo_1 : decode cL_undo 1 = .ok (.invokevirtual 138, 3) := by decide +kernel
theorem dL_undo_4 : decode cL_undo 4 = .ok (.ireturn, 1) := by decide +kernel
theorem dL_undo_5 : decode cL_undo 5 = .ok (.astore_n 1, 1) := by decide +kernel
theorem dL_undo_6 : decode cL_undo 6 = .ok (.sipush (-1001), 3) := by decide +kernel
theorem dL_undo_9 : decode cL_undo 9 = .ok (.ireturn, 1) := by decide +kernel
theorem dL_restore_0 : decode cL_restore 0 = .ok (.aload_n 0, 1) := by decide +kernel
theorem dL_restore_1 : decode cL_restore 1 = .ok (.invokevirtual 141, 3) := by decide +kernel
theorem dL_restore_4 : decode cL_restore 4 = .ok (.ireturn, 1) := by decide +kernel
theorem dL_restore_5 : decode cL_restore 5 = .ok (.astore_n 1, 1) := by decide +kernel
theorem dL_restore_6 : decode cL_restore 6 = .ok (.sipush (-1001), 3) := by decide +kernel
theorem dL_restore_9 : decode cL_restore 9 = .ok (.ireturn, 1) := by decide +kernel
theorem dL_state_0 : decode cL_state 0 = .ok (.ldc2_w 144, 3) := by decide +kernel
theorem dL_state_3 : decode cL_state 3 = .ok (.aload_n 0, 1) := by decide +kernel
theorem dL_state_4 : decode cL_state 4 = .ok (.invokevirtual 146, 3) := by decide +kernel
theorem dL_state_7 : decode cL_state 7 = .ok (.i2l, 1) := by decide +kernel
theorem dL_state_8 : decode cL_state 8 = .ok (.lmul, 1) := by decide +kernel
theorem dL_state_9 : decode cL_state 9 = .ok (.aload_n 0, 1) := by decide +kernel
theorem dL_state_10 : decode cL_state 10 = .ok (.invokevirtual 149, 3) := by decide +kernel
theorem dL_state_13 : decode cL_state 13 = .ok (.i2l, 1) := by decide +kernel
theorem dL_state_14 : decode cL_state 14 = .ok (.ladd, 1) := by decide +kernel
theorem dL_state_15 : decode cL_state 15 = .ok (.lstore_n 1, 1) := by decide +kernel
theorem dL_state_16 : decode cL_state 16 = .ok (.iconst 0, 1) := by decide +kernel
theorem dL_state_17 : decode cL_state 17 = .ok (.istore_n 3, 1) := by decide +kernel
theorem dL_state_18 : decode cL_state 18 = .ok (.iload_n 3, 1) := by decide +kernel
theorem dL_state_19 : decode cL_state 19 = .ok (.aload_n 0, 1) := by decide +kernel
theorem dL_state_20 : decode cL_state 20 = .ok (.invokevirtual 146, 3) := by decide +kernel
theorem dL_state_23 : decode cL_state 23 = .ok (.if_icmp .ge 35, 3) := by decide +kernel
theorem dL_state_26 : decode cL_state 26 = .ok (.ldc2_w 144, 3) := by decide +kernel
theorem dL_state_29 : decode cL_state 29 = .ok (.ldc2_w 144, 3) := by decide +kernel
theorem dL_state_32 : decode cL_state 32 = .ok (.lload_n 1, 1) := by decide +kernel
theorem dL_state_33 : decode cL_state 33 = .ok (.lmul, 1) := by decide +kernel
theorem dL_state_34 : decode cL_state 34 = .ok (.aload_n 0, 1) := by decide +kernel
theorem dL_state_35 : decode cL_state 35 = .ok (.iload_n 3, 1) := by decide +kernel
theorem dL_state_36 : decode cL_state 36 = .ok (.iconst 0, 1) := by decide +kernel
theorem dL_state_37 : decode cL_state 37 = .ok (.invokestatic 152, 3) := by decide +kernel
theorem dL_state_40 : decode cL_state 40 = .ok (.i2l, 1) := by decide +kernel
theorem dL_state_41 : decode cL_state 41 = .ok (.ladd, 1) := by decide +kernel
theorem dL_state_42 : decode cL_state 42 = .ok (.lmul, 1) := by decide +kernel
theorem dL_state_43 : decode cL_state 43 = .ok (.aload_n 0, 1) := by decide +kernel
theorem dL_state_44 : decode cL_state 44 = .ok (.iload_n 3, 1) := by decide +kernel
theorem dL_state_45 : decode cL_state 45 = .ok (.iconst 1, 1) := by decide +kernel
theorem dL_state_46 : decode cL_state 46 = .ok (.invokestatic 152, 3) := by decide +kernel
theorem dL_state_49 : decode cL_state 49 = .ok (.i2l, 1) := by decide +kernel
theorem dL_state_50 : decode cL_state 50 = .ok (.ladd, 1) := by decide +kernel
theorem dL_state_51 : decode cL_state 51 = .ok (.lstore_n 1, 1) := by decide +kernel
theorem dL_state_52 : decode cL_state 52 = .ok (.iinc 3 1, 3) := by decide +kernel
theorem dL_state_55 : decode cL_state 55 = .ok (.goto (-37), 3) := by decide +kernel
theorem dL_state_58 : decode cL_state 58 = .ok (.iconst 0, 1) := by decide +kernel
theorem dL_state_59 : decode cL_state 59 = .ok (.istore_n 3, 1) := by decide +kernel
theorem dL_state_60 : decode cL_state 60 = .ok (.iload_n 3, 1) := by decide +kernel
theorem dL_state_61 : decode cL_state 61 = .ok (.aload_n 0, 1) := by decide +kernel
theorem dL_state_62 : decode cL_state 62 = .ok (.invokevirtual 149, 3) := by decide +kernel
theorem dL_state_65 : decode cL_state 65 = .ok (.if_icmp .ge 35, 3) := by decide +kernel
theorem dL_state_68 : decode cL_state 68 = .ok (.ldc2_w 144, 3) := by decide +kernel
theorem dL_state_71 : decode cL_state 71 = .ok (.ldc2_w 144, 3) := by decide +kernel
theorem dL_state_74 : decode cL_state 74 = .ok (.lload_n 1, 1) := by decide +kernel
theorem dL_state_75 : decode cL_state 75 = .ok (.lmul, 1) := by decide +kernel
theorem dL_state_76 : decode cL_state 76 = .ok (.aload_n 0, 1) := by decide +kernel
theorem dL_state_77 : decode cL_state 77 = .ok (.iload_n 3, 1) := by decide +kernel
theorem dL_state_78 : decode cL_state 78 = .ok (.iconst 0, 1) := by decide +kernel
theorem dL_state_79 : decode cL_state 79 = .ok (.invokestatic 155, 3) := by decide +kernel
theorem dL_state_82 : decode cL_state 82 = .ok (.i2l, 1) := by decide +kernel
theorem dL_state_83 : decode cL_state 83 = .ok (.ladd, 1) := by decide +kernel
theorem dL_state_84 : decode cL_state 84 = .ok (.lmul, 1) := by decide +kernel
theorem dL_state_85 : decode cL_state 85 = .ok (.aload_n 0, 1) := by decide +kernel
theorem dL_state_86 : decode cL_state 86 = .ok (.iload_n 3, 1) := by decide +kernel
theorem dL_state_87 : decode cL_state 87 = .ok (.iconst 1, 1) := by decide +kernel
theorem dL_state_88 : decode cL_state 88 = .ok (.invokestatic 155, 3) := by decide +kernel
theorem dL_state_91 : decode cL_state 91 = .ok (.i2l, 1) := by decide +kernel
theorem dL_state_92 : decode cL_state 92 = .ok (.ladd, 1) := by decide +kernel
theorem dL_state_93 : decode cL_state 93 = .ok (.lstore_n 1, 1) := by decide +kernel
theorem dL_state_94 : decode cL_state 94 = .ok (.iinc 3 1, 3) := by decide +kernel
theorem dL_state_97 : decode cL_state 97 = .ok (.goto (-37), 3) := by decide +kernel
theorem dL_state_100 : decode cL_state 100 = .ok (.lload_n 1, 1) := by decide +kernel
theorem dL_state_101 : decode cL_state 101 = .ok (.lreturn, 1) := by decide +kernel
theorem dL_asks_0 : decode cL_asks 0 = .ok (.ldc2_w 144, 3) := by decide +kernel
theorem dL_asks_3 : decode cL_asks 3 = .ok (.ldc2_w 144, 3) := by decide +kernel
theorem dL_asks_6 : decode cL_asks 6 = .ok (.ldc2_w 144, 3) := by decide +kernel
theorem dL_asks_9 : decode cL_asks 9 = .ok (.aload_n 0, 1) := by decide +kernel
theorem dL_asks_10 : decode cL_asks 10 = .ok (.invokestatic 158, 3) := by decide +kernel
theorem dL_asks_13 : decode cL_asks 13 = .ok (.lmul, 1) := by decide +kernel
theorem dL_asks_14 : decode cL_asks 14 = .ok (.aload_n 0, 1) := by decide +kernel
theorem dL_asks_15 : decode cL_asks 15 = .ok (.invokevirtual 162, 3) := by decide +kernel
theorem dL_asks_18 : decode cL_asks 18 = .ok (.i2l, 1) := by decide +kernel
theorem dL_asks_19 : decode cL_asks 19 = .ok (.ladd, 1) := by decide +kernel
theorem dL_asks_20 : decode cL_asks 20 = .ok (.lmul, 1) := by decide +kernel
theorem dL_asks_21 : decode cL_asks 21 = .ok (.aload_n 0, 1) := by decide +kernel
theorem dL_asks_22 : decode cL_asks 22 = .ok (.invokevirtual 165, 3) := by decide +kernel
theorem dL_asks_25 : decode cL_asks 25 = .ok (.i2l, 1) := by decide +kernel
theorem dL_asks_26 : decode cL_asks 26 = .ok (.ladd, 1) := by decide +kernel
theorem dL_asks_27 : decode cL_asks 27 = .ok (.lmul, 1) := by decide +kernel
theorem dL_asks_28 : decode cL_asks 28 = .ok (.aload_n 0, 1) := by decide +kernel
theorem dL_asks_29 : decode cL_asks 29 = .ok (.invokevirtual 168, 3) := by decide +kernel
theorem dL_asks_32 : decode cL_asks 32 = .ok (.i2l, 1) := by decide +kernel
theorem dL_asks_33 : decode cL_asks 33 = .ok (.ladd, 1) := by decide +kernel
theorem dL_asks_34 : decode cL_asks 34 = .ok (.lstore_n 1, 1) := by decide +kernel
theorem dL_asks_35 : decode cL_asks 35 = .ok (.iconst 0, 1) := by decide +kernel
theorem dL_asks_36 : decode cL_asks 36 = .ok (.istore_n 3, 1) := by decide +kernel
theorem dL_asks_37 : decode cL_asks 37 = .ok (.iload_n 3, 1) := by decide +kernel
theorem dL_asks_38 : decode cL_asks 38 = .ok (.aload_n 0, 1) := by decide +kernel
theorem dL_asks_39 : decode cL_asks 39 = .ok (.invokevirtual 162, 3) := by decide +kernel
theorem dL_asks_42 : decode cL_asks 42 = .ok (.if_icmp .gt 65, 3) := by decide +kernel
theorem dL_asks_45 : decode cL_asks 45 = .ok (.ldc2_w 144, 3) := by decide +kernel
theorem dL_asks_48 : decode cL_asks 48 = .ok (.lload_n 1, 1) := by decide +kernel
theorem dL_asks_49 : decode cL_asks 49 = .ok (.lmul, 1) := by decide +kernel
theorem dL_asks_50 : decode cL_asks 50 = .ok (.aload_n 0, 1) := by decide +kernel
theorem dL_asks_51 : decode cL_asks 51 = .ok (.iload_n 3, 1) := by decide +kernel
theorem dL_asks_52 : decode cL_asks 52 = .ok (.invokestatic 171, 3) := by decide +kernel
theorem dL_asks_55 : decode cL_asks 55 = .ok (.i2l, 1) := by decide +kernel
theorem dL_asks_56 : decode cL_asks 56 = .ok (.ladd, 1) := by decide +kernel
theorem dL_asks_57 : decode cL_asks 57 = .ok (.lstore_n 1, 1) := by decide +kernel
theorem dL_asks_58 : decode cL_asks 58 = .ok (.iconst 0, 1) := by decide +kernel
theorem dL_asks_59 : decode cL_asks 59 = .ok (.istore 4, 2) := by decide +kernel
theorem dL_asks_61 : decode cL_asks 61 = .ok (.iload 4, 2) := by decide +kernel
theorem dL_asks_63 : decode cL_asks 63 = .ok (.iconst 3, 1) := by decide +kernel
theorem dL_asks_64 : decode cL_asks 64 = .ok (.if_icmp .ge 37, 3) := by decide +kernel
theorem dL_asks_67 : decode cL_asks 67 = .ok (.ldc2_w 144, 3) := by decide +kernel
theorem dL_asks_70 : decode cL_asks 70 = .ok (.ldc2_w 144, 3) := by decide +kernel
theorem dL_asks_73 : decode cL_asks 73 = .ok (.lload_n 1, 1) := by decide +kernel
theorem dL_asks_74 : decode cL_asks 74 = .ok (.lmul, 1) := by decide +kernel
theorem dL_asks_75 : decode cL_asks 75 = .ok (.aload_n 0, 1) := by decide +kernel
theorem dL_asks_76 : decode cL_asks 76 = .ok (.iload_n 3, 1) := by decide +kernel
theorem dL_asks_77 : decode cL_asks 77 = .ok (.iload 4, 2) := by decide +kernel
theorem dL_asks_79 : decode cL_asks 79 = .ok (.invokestatic 174, 3) := by decide +kernel
theorem dL_asks_82 : decode cL_asks 82 = .ok (.i2l, 1) := by decide +kernel
theorem dL_asks_83 : decode cL_asks 83 = .ok (.ladd, 1) := by decide +kernel
theorem dL_asks_84 : decode cL_asks 84 = .ok (.lmul, 1) := by decide +kernel
theorem dL_asks_85 : decode cL_asks 85 = .ok (.aload_n 0, 1) := by decide +kernel
theorem dL_asks_86 : decode cL_asks 86 = .ok (.iload_n 3, 1) := by decide +kernel
theorem dL_asks_87 : decode cL_asks 87 = .ok (.iload 4, 2) := by decide +kernel
theorem dL_asks_89 : decode cL_asks 89 = .ok (.invokestatic 176, 3) := by decide +kernel
theorem dL_asks_92 : decode cL_asks 92 = .ok (.i2l, 1) := by decide +kernel
theorem dL_asks_93 : decode cL_asks 93 = .ok (.ladd, 1) := by decide +kernel
theorem dL_asks_94 : decode cL_asks 94 = .ok (.lstore_n 1, 1) := by decide +kernel
theorem dL_asks_95 : decode cL_asks 95 = .ok (.iinc 4 1, 3) := by decide +kernel
theorem dL_asks_98 : decode cL_asks 98 = .ok (.goto (-37), 3) := by decide +kernel
theorem dL_asks_101 : decode cL_asks 101 = .ok (.iinc 3 1, 3) := by decide +kernel
theorem dL_asks_104 : decode cL_asks 104 = .ok (.goto (-67), 3) := by decide +kernel
theorem dL_asks_107 : decode cL_asks 107 = .ok (.iconst 0, 1) := by decide +kernel
theorem dL_asks_108 : decode cL_asks 108 = .ok (.istore_n 3, 1) := by decide +kernel
theorem dL_asks_109 : decode cL_asks 109 = .ok (.iload_n 3, 1) := by decide +kernel
theorem dL_asks_110 : decode cL_asks 110 = .ok (.aload_n 0, 1) := by decide +kernel
theorem dL_asks_111 : decode cL_asks 111 = .ok (.invokevirtual 165, 3) := by decide +kernel
theorem dL_asks_114 : decode cL_asks 114 = .ok (.if_icmp .ge 46, 3) := by decide +kernel
theorem dL_asks_117 : decode cL_asks 117 = .ok (.ldc2_w 144, 3) := by decide +kernel
theorem dL_asks_120 : decode cL_asks 120 = .ok (.ldc2_w 144, 3) := by decide +kernel
theorem dL_asks_123 : decode cL_asks 123 = .ok (.ldc2_w 144, 3) := by decide +kernel
theorem dL_asks_126 : decode cL_asks 126 = .ok (.lload_n 1, 1) := by decide +kernel
theorem dL_asks_127 : decode cL_asks 127 = .ok (.lmul, 1) := by decide +kernel
theorem dL_asks_128 : decode cL_asks 128 = .ok (.aload_n 0, 1) := by decide +kernel
theorem dL_asks_129 : decode cL_asks 129 = .ok (.iload_n 3, 1) := by decide +kernel
theorem dL_asks_130 : decode cL_asks 130 = .ok (.iconst 0, 1) := by decide +kernel
theorem dL_asks_131 : decode cL_asks 131 = .ok (.invokestatic 178, 3) := by decide +kernel
theorem dL_asks_134 : decode cL_asks 134 = .ok (.i2l, 1) := by decide +kernel
theorem dL_asks_135 : decode cL_asks 135 = .ok (.ladd, 1) := by decide +kernel
theorem dL_asks_136 : decode cL_asks 136 = .ok (.lmul, 1) := by decide +kernel
theorem dL_asks_137 : decode cL_asks 137 = .ok (.aload_n 0, 1) := by decide +kernel
theorem dL_asks_138 : decode cL_asks 138 = .ok (.iload_n 3, 1) := by decide +kernel
theorem dL_asks_139 : decode cL_asks 139 = .ok (.iconst 1, 1) := by decide +kernel
theorem dL_asks_140 : decode cL_asks 140 = .ok (.invokestatic 178, 3) := by decide +kernel
theorem dL_asks_143 : decode cL_asks 143 = .ok (.i2l, 1) := by decide +kernel
theorem dL_asks_144 : decode cL_asks 144 = .ok (.ladd, 1) := by decide +kernel
theorem dL_asks_145 : decode cL_asks 145 = .ok (.lmul, 1) := by decide +kernel
theorem dL_asks_146 : decode cL_asks 146 = .ok (.aload_n 0, 1) := by decide +kernel
theorem dL_asks_147 : decode cL_asks 147 = .ok (.iload_n 3, 1) := by decide +kernel
theorem dL_asks_148 : decode cL_asks 148 = .ok (.invokestatic 181, 3) := by decide +kernel
theorem dL_asks_151 : decode cL_asks 151 = .ok (.i2l, 1) := by decide +kernel
theorem dL_asks_152 : decode cL_asks 152 = .ok (.ladd, 1) := by decide +kernel
theorem dL_asks_153 : decode cL_asks 153 = .ok (.lstore_n 1, 1) := by decide +kernel
theorem dL_asks_154 : decode cL_asks 154 = .ok (.iinc 3 1, 3) := by decide +kernel
theorem dL_asks_157 : decode cL_asks 157 = .ok (.goto (-48), 3) := by decide +kernel
theorem dL_asks_160 : decode cL_asks 160 = .ok (.iconst 0, 1) := by decide +kernel
theorem dL_asks_161 : decode cL_asks 161 = .ok (.istore_n 3, 1) := by decide +kernel
theorem dL_asks_162 : decode cL_asks 162 = .ok (.iload_n 3, 1) := by decide +kernel
theorem dL_asks_163 : decode cL_asks 163 = .ok (.aload_n 0, 1) := by decide +kernel
theorem dL_asks_164 : decode cL_asks 164 = .ok (.invokevirtual 146, 3) := by decide +kernel
theorem dL_asks_167 : decode cL_asks 167 = .ok (.if_icmp .ge 44, 3) := by decide +kernel
theorem dL_asks_170 : decode cL_asks 170 = .ok (.ldc2_w 144, 3) := by decide +kernel
theorem dL_asks_173 : decode cL_asks 173 = .ok (.ldc2_w 144, 3) := by decide +kernel
theorem dL_asks_176 : decode cL_asks 176 = .ok (.ldc2_w 144, 3) := by decide +kernel
theorem dL_asks_179 : decode cL_asks 179 = .ok (.lload_n 1, 1) := by decide +kernel
theorem dL_asks_180 : decode cL_asks 180 = .ok (.lmul, 1) := by decide +kernel
theorem dL_asks_181 : decode cL_asks 181 = .ok (.aload_n 0, 1) := by decide +kernel
theorem dL_asks_182 : decode cL_asks 182 = .ok (.iload_n 3, 1) := by decide +kernel
theorem dL_asks_183 : decode cL_asks 183 = .ok (.invokestatic 184, 3) := by decide +kernel
theorem dL_asks_186 : decode cL_asks 186 = .ok (.i2l, 1) := by decide +kernel
theorem dL_asks_187 : decode cL_asks 187 = .ok (.ladd, 1) := by decide +kernel
theorem dL_asks_188 : decode cL_asks 188 = .ok (.lmul, 1) := by decide +kernel
theorem dL_asks_189 : decode cL_asks 189 = .ok (.aload_n 0, 1) := by decide +kernel
theorem dL_asks_190 : decode cL_asks 190 = .ok (.iload_n 3, 1) := by decide +kernel
theorem dL_asks_191 : decode cL_asks 191 = .ok (.invokestatic 186, 3) := by decide +kernel
theorem dL_asks_194 : decode cL_asks 194 = .ok (.i2l, 1) := by decide +kernel
theorem dL_asks_195 : decode cL_asks 195 = .ok (.ladd, 1) := by decide +kernel
theorem dL_asks_196 : decode cL_asks 196 = .ok (.lmul, 1) := by decide +kernel
theorem dL_asks_197 : decode cL_asks 197 = .ok (.aload_n 0, 1) := by decide +kernel
theorem dL_asks_198 : decode cL_asks 198 = .ok (.iload_n 3, 1) := by decide +kernel
theorem dL_asks_199 : decode cL_asks 199 = .ok (.invokestatic 188, 3) := by decide +kernel
theorem dL_asks_202 : decode cL_asks 202 = .ok (.i2l, 1) := by decide +kernel
theorem dL_asks_203 : decode cL_asks 203 = .ok (.ladd, 1) := by decide +kernel
theorem dL_asks_204 : decode cL_asks 204 = .ok (.lstore_n 1, 1) := by decide +kernel
theorem dL_asks_205 : decode cL_asks 205 = .ok (.iinc 3 1, 3) := by decide +kernel
theorem dL_asks_208 : decode cL_asks 208 = .ok (.goto (-46), 3) := by decide +kernel
theorem dL_asks_211 : decode cL_asks 211 = .ok (.iconst 0, 1) := by decide +kernel
theorem dL_asks_212 : decode cL_asks 212 = .ok (.istore_n 3, 1) := by decide +kernel
theorem dL_asks_213 : decode cL_asks 213 = .ok (.iload_n 3, 1) := by decide +kernel
theorem dL_asks_214 : decode cL_asks 214 = .ok (.aload_n 0, 1) := by decide +kernel
theorem dL_asks_215 : decode cL_asks 215 = .ok (.invokevirtual 149, 3) := by decide +kernel
theorem dL_asks_218 : decode cL_asks 218 = .ok (.if_icmp .ge 22, 3) := by decide +kernel
theorem dL_asks_221 : decode cL_asks 221 = .ok (.ldc2_w 144, 3) := by decide +kernel
theorem dL_asks_224 : decode cL_asks 224 = .ok (.lload_n 1, 1) := by decide +kernel
theorem dL_asks_225 : decode cL_asks 225 = .ok (.lmul, 1) := by decide +kernel
theorem dL_asks_226 : decode cL_asks 226 = .ok (.aload_n 0, 1) := by decide +kernel
theorem dL_asks_227 : decode cL_asks 227 = .ok (.iload_n 3, 1) := by decide +kernel
theorem dL_asks_228 : decode cL_asks 228 = .ok (.invokestatic 191, 3) := by decide +kernel
theorem dL_asks_231 : decode cL_asks 231 = .ok (.i2l, 1) := by decide +kernel
theorem dL_asks_232 : decode cL_asks 232 = .ok (.ladd, 1) := by decide +kernel
theorem dL_asks_233 : decode cL_asks 233 = .ok (.lstore_n 1, 1) := by decide +kernel
theorem dL_asks_234 : decode cL_asks 234 = .ok (.iinc 3 1, 3) := by decide +kernel
theorem dL_asks_237 : decode cL_asks 237 = .ok (.goto (-24), 3) := by decide +kernel
theorem dL_asks_240 : decode cL_asks 240 = .ok (.iconst 0, 1) := by decide +kernel
theorem dL_asks_241 : decode cL_asks 241 = .ok (.istore_n 3, 1) := by decide +kernel
theorem dL_asks_242 : decode cL_asks 242 = .ok (.iload_n 3, 1) := by decide +kernel
theorem dL_asks_243 : decode cL_asks 243 = .ok (.iconst 4, 1) := by decide +kernel
theorem dL_asks_244 : decode cL_asks 244 = .ok (.if_icmp .ge 50, 3) := by decide +kernel
theorem dL_asks_247 : decode cL_asks 247 = .ok (.ldc2_w 144, 3) := by decide +kernel
theorem dL_asks_250 : decode cL_asks 250 = .ok (.ldc2_w 144, 3) := by decide +kernel
theorem dL_asks_253 : decode cL_asks 253 = .ok (.ldc2_w 144, 3) := by decide +kernel
theorem dL_asks_256 : decode cL_asks 256 = .ok (.lload_n 1, 1) := by decide +kernel
theorem dL_asks_257 : decode cL_asks 257 = .ok (.lmul, 1) := by decide +kernel
theorem dL_asks_258 : decode cL_asks 258 = .ok (.aload_n 0, 1) := by decide +kernel
theorem dL_asks_259 : decode cL_asks 259 = .ok (.iload_n 3, 1) := by decide +kernel
theorem dL_asks_260 : decode cL_asks 260 = .ok (.invokestatic 193, 3) := by decide +kernel
theorem dL_asks_263 : decode cL_asks 263 = .ok (.i2l, 1) := by decide +kernel
theorem dL_asks_264 : decode cL_asks 264 = .ok (.ladd, 1) := by decide +kernel
theorem dL_asks_265 : decode cL_asks 265 = .ok (.lmul, 1) := by decide +kernel
theorem dL_asks_266 : decode cL_asks 266 = .ok (.aload_n 0, 1) := by decide +kernel
theorem dL_asks_267 : decode cL_asks 267 = .ok (.iconst 3, 1) := by decide +kernel
theorem dL_asks_268 : decode cL_asks 268 = .ok (.iload_n 3, 1) := by decide +kernel
theorem dL_asks_269 : decode cL_asks 269 = .ok (.imul, 1) := by decide +kernel
theorem dL_asks_270 : decode cL_asks 270 = .ok (.iconst 5, 1) := by decide +kernel
theorem dL_asks_271 : decode cL_asks 271 = .ok (.invokestatic 196, 3) := by decide +kernel
theorem dL_asks_274 : decode cL_asks 274 = .ok (.i2l, 1) := by decide +kernel
theorem dL_asks_275 : decode cL_asks 275 = .ok (.ladd, 1) := by decide +kernel
theorem dL_asks_276 : decode cL_asks 276 = .ok (.lmul, 1) := by decide +kernel
theorem dL_asks_277 : decode cL_asks 277 = .ok (.aload_n 0, 1) := by decide +kernel
theorem dL_asks_278 : decode cL_asks 278 = .ok (.iconst 2, 1) := by decide +kernel
theorem dL_asks_279 : decode cL_asks 279 = .ok (.iload_n 3, 1) := by decide +kernel
theorem dL_asks_280 : decode cL_asks 280 = .ok (.imul, 1) := by decide +kernel
theorem dL_asks_281 : decode cL_asks 281 = .ok (.iload_n 3, 1) := by decide +kernel
theorem dL_asks_282 : decode cL_asks 282 = .ok (.invokestatic 198, 3) := by decide +kernel
theorem dL_asks_285 : decode cL_asks 285 = .ok (.i2l, 1) := by decide +kernel
theorem dL_asks_286 : decode cL_asks 286 = .ok (.ladd, 1) := by decide +kernel
theorem dL_asks_287 : decode cL_asks 287 = .ok (.lstore_n 1, 1) := by decide +kernel
theorem dL_asks_288 : decode cL_asks 288 = .ok (.iinc 3 1, 3) := by decide +kernel
theorem dL_asks_291 : decode cL_asks 291 = .ok (.goto (-49), 3) := by decide +kernel
theorem dL_asks_294 : decode cL_asks 294 = .ok (.ldc2_w 144, 3) := by decide +kernel
theorem dL_asks_297 : decode cL_asks 297 = .ok (.ldc2_w 144, 3) := by decide +kernel
theorem dL_asks_300 : decode cL_asks 300 = .ok (.lload_n 1, 1) := by decide +kernel
theorem dL_asks_301 : decode cL_asks 301 = .ok (.lmul, 1) := by decide +kernel
theorem dL_asks_302 : decode cL_asks 302 = .ok (.aload_n 0, 1) := by decide +kernel
theorem dL_asks_303 : decode cL_asks 303 = .ok (.invokevirtual 201, 3) := by decide +kernel
theorem dL_asks_306 : decode cL_asks 306 = .ok (.i2l, 1) := by decide +kernel
theorem dL_asks_307 : decode cL_asks 307 = .ok (.ladd, 1) := by decide +kernel
theorem dL_asks_308 : decode cL_asks 308 = .ok (.lmul, 1) := by decide +kernel
theorem dL_asks_309 : decode cL_asks 309 = .ok (.ldc2_w 204, 3) := by decide +kernel
theorem dL_asks_312 : decode cL_asks 312 = .ok (.aload_n 0, 1) := by decide +kernel
theorem dL_asks_313 : decode cL_asks 313 = .ok (.invokestatic 206, 3) := by decide +kernel
theorem dL_asks_316 : decode cL_asks 316 = .ok (.dmul, 1) := by decide +kernel
theorem dL_asks_317 : decode cL_asks 317 = .ok (.d2l, 1) := by decide +kernel
theorem dL_asks_318 : decode cL_asks 318 = .ok (.ladd, 1) := by decide +kernel
theorem dL_asks_319 : decode cL_asks 319 = .ok (.lreturn, 1) := by decide +kernel
theorem dL_does_0 : decode cL_does 0 = .ok (.aload_n 0, 1) := by decide +kernel
theorem dL_does_1 : decode cL_does 1 = .ok (.invokevirtual 146, 3) := by decide +kernel
theorem dL_does_4 : decode cL_does 4 = .ok (.istore_n 2, 1) := by decide +kernel
theorem dL_does_5 : decode cL_does 5 = .ok (.aload_n 0, 1) := by decide +kernel
theorem dL_does_6 : decode cL_does 6 = .ok (.invokevirtual 149, 3) := by decide +kernel
theorem dL_does_9 : decode cL_does 9 = .ok (.istore_n 3, 1) := by decide +kernel
theorem dL_does_10 : decode cL_does 10 = .ok (.iload_n 1, 1) := by decide +kernel
theorem dL_does_11 : decode cL_does 11 = .ok (.iconst 4, 1) := by decide +kernel
theorem dL_does_12 : decode cL_does 12 = .ok (.ishr, 1) := by decide +kernel
theorem dL_does_13 : decode cL_does 13 = .ok (.iload_n 2, 1) := by decide +kernel
theorem dL_does_14 : decode cL_does 14 = .ok (.iconst 1, 1) := by decide +kernel
theorem dL_does_15 : decode cL_does 15 = .ok (.iadd, 1) := by decide +kernel
theorem dL_does_16 : decode cL_does 16 = .ok (.invokestatic 210, 3) := by decide +kernel
theorem dL_does_19 : decode cL_does 19 = .ok (.istore 4, 2) := by decide +kernel
theorem dL_does_21 : decode cL_does 21 = .ok (.iload_n 1, 1) := by decide +kernel
theorem dL_does_22 : decode cL_does 22 = .ok (.bipush 8, 2) := by decide +kernel
theorem dL_does_24 : decode cL_does 24 = .ok (.ishr, 1) := by decide +kernel
theorem dL_does_25 : decode cL_does 25 = .ok (.bipush 9, 2) := by decide +kernel
theorem dL_does_27 : decode cL_does 27 = .ok (.invokestatic 210, 3) := by decide +kernel
theorem dL_does_30 : decode cL_does 30 = .ok (.istore 5, 2) := by decide +kernel
theorem dL_does_32 : decode cL_does 32 = .ok (.iload_n 1, 1) := by decide +kernel
theorem dL_does_33 : decode cL_does 33 = .ok (.bipush 12, 2) := by decide +kernel
theorem dL_does_35 : decode cL_does 35 = .ok (.ishr, 1) := by decide +kernel
theorem dL_does_36 : decode cL_does 36 = .ok (.bipush 9, 2) := by decide +kernel
theorem dL_does_38 : decode cL_does 38 = .ok (.invokestatic 210, 3) := by decide +kernel
theorem dL_does_41 : decode cL_does 41 = .ok (.istore 6, 2) := by decide +kernel
theorem dL_does_43 : decode cL_does 43 = .ok (.iload_n 1, 1) := by decide +kernel
theorem dL_does_44 : decode cL_does 44 = .ok (.bipush 8, 2) := by decide +kernel
theorem dL_does_46 : decode cL_does 46 = .ok (.invokestatic 210, 3) := by decide +kernel
theorem dL_does_49 : decode cL_does 49 = .ok (.tableswitch 447 0 6 #[43, 43, 43, 123, 187, 321, 321], 43) := by decide +kernel
theorem dL_does_92 : decode cL_does 92 = .ok (.aload_n 0, 1) := by decide +kernel
theorem dL_does_93 : decode cL_does 93 = .ok (.iload 5, 2) := by decide +kernel
theorem dL_does_95 : decode cL_does 95 = .ok (.iload 6, 2) := by decide +kernel
theorem dL_does_97 : decode cL_does 97 = .ok (.invokestatic 213, 3) := by decide +kernel
theorem dL_does_100 : decode cL_does 100 = .ok (.istore 7, 2) := by decide +kernel
theorem dL_does_102 : decode cL_does 102 = .ok (.iload 7, 2) := by decide +kernel
theorem dL_does_104 : decode cL_does 104 = .ok (.iload_n 2, 1) := by decide +kernel
theorem dL_does_105 : decode cL_does 105 = .ok (.if_icmp .ne 39, 3) := by decide +kernel
theorem dL_does_108 : decode cL_does 108 = .ok (.aload_n 0, 1) := by decide +kernel
theorem dL_does_109 : decode cL_does 109 = .ok (.invokevirtual 146, 3) := by decide +kernel
theorem dL_does_112 : decode cL_does 112 = .ok (.iload_n 2, 1) := by decide +kernel
theorem dL_does_113 : decode cL_does 113 = .ok (.iconst 1, 1) := by decide +kernel
theorem dL_does_114 : decode cL_does 114 = .ok (.iadd, 1) := by decide +kernel
theorem dL_does_115 : decode cL_does 115 = .ok (.if_icmp .ne 29, 3) := by decide +kernel
theorem dL_does_118 : decode cL_does 118 = .ok (.aload_n 0, 1) := by decide +kernel
theorem dL_does_119 : decode cL_does 119 = .ok (.iload_n 2, 1) := by decide +kernel
theorem dL_does_120 : decode cL_does 120 = .ok (.iconst 0, 1) := by decide +kernel
theorem dL_does_121 : decode cL_does 121 = .ok (.invokestatic 152, 3) := by decide +kernel
theorem dL_does_124 : decode cL_does 124 = .ok (.iload 5, 2) := by decide +kernel
theorem dL_does_126 : decode cL_does 126 = .ok (.if_icmp .ne 18, 3) := by decide +kernel
theorem dL_does_129 : decode cL_does 129 = .ok (.aload_n 0, 1) := by decide +kernel
theorem dL_does_130 : decode cL_does 130 = .ok (.iload_n 2, 1) := by decide +kernel
theorem dL_does_131 : decode cL_does 131 = .ok (.iconst 1, 1) := by decide +kernel
theorem dL_does_132 : decode cL_does 132 = .ok (.invokestatic 152, 3) := by decide +kernel
theorem dL_does_135 : decode cL_does 135 = .ok (.iload 6, 2) := by decide +kernel
theorem dL_does_137 : decode cL_does 137 = .ok (.if_icmp .ne 7, 3) := by decide +kernel
theorem dL_does_140 : decode cL_does 140 = .ok (.iconst 1, 1) := by decide +kernel
theorem dL_does_141 : decode cL_does 141 = .ok (.goto 30, 3) := by decide +kernel
theorem dL_does_144 : decode cL_does 144 = .ok (.iload 7, 2) := by decide +kernel
theorem dL_does_146 : decode cL_does 146 = .ok (.sipush (-1003), 3) := by decide +kernel
theorem dL_does_149 : decode cL_does 149 = .ok (.if_icmp .eq 17, 3) := by decide +kernel
theorem dL_does_152 : decode cL_does 152 = .ok (.iload 7, 2) := by decide +kernel
theorem dL_does_154 : decode cL_does 154 = .ok (.sipush (-1002), 3) := by decide +kernel
theorem dL_does_157 : decode cL_does 157 = .ok (.if_icmp .ne 13, 3) := by decide +kernel
theorem dL_does_160 : decode cL_does 160 = .ok (.iload_n 2, 1) := by decide +kernel
theorem dL_does_161 : decode cL_does 161 = .ok (.bipush 16, 2) := by decide +kernel
theorem dL_does_163 : decode cL_does 163 = .ok (.if_icmp .ne 7, 3) := by decide +kernel
theorem dL_does_166 : decode cL_does 166 = .ok (.iconst 0, 1) := by decide +kernel
theorem dL_does_167 : decode cL_does 167 = .ok (.goto 4, 3) := by decide +kernel
theorem dL_does_170 : decode cL_does 170 = .ok (.iconst (-1), 1) := by decide +kernel
theorem dL_does_171 : decode cL_does 171 = .ok (.ireturn, 1) := by decide +kernel
theorem dL_does_172 : decode cL_does 172 = .ok (.aload_n 0, 1) := by decide +kernel
theorem dL_does_173 : decode cL_does 173 = .ok (.iload 4, 2) := by decide +kernel
theorem dL_does_175 : decode cL_does 175 = .ok (.invokestatic 216, 3) := by decide +kernel
theorem dL_does_178 : decode cL_does 178 = .ok (.istore 7, 2) := by decide +kernel
theorem dL_does_180 : decode cL_does 180 = .ok (.iload 7, 2) := by decide +kernel
theorem dL_does_182 : decode cL_does 182 = .ok (.iload_n 2, 1) := by decide +kernel
theorem dL_does_183 : decode cL_does 183 = .ok (.iconst 1, 1) := by decide +kernel
theorem dL_does_184 : decode cL_does 184 = .ok (.isub, 1) := by decide +kernel
theorem dL_does_185 : decode cL_does 185 = .ok (.if_icmp .ne 23, 3) := by decide +kernel
theorem dL_does_188 : decode cL_does 188 = .ok (.iload 4, 2) := by decide +kernel
theorem dL_does_190 : decode cL_does 190 = .ok (.iload_n 2, 1) := by decide +kernel
theorem dL_does_191 : decode cL_does 191 = .ok (.if_icmp .ge 17, 3) := by decide +kernel
theorem dL_does_194 : decode cL_does 194 = .ok (.aload_n 0, 1) := by decide +kernel
theorem dL_does_195 : decode cL_does 195 = .ok (.invokevirtual 146, 3) := by decide +kernel
theorem dL_does_198 : decode cL_does 198 = .ok (.iload_n 2, 1) := by decide +kernel
theorem dL_does_199 : decode cL_does 199 = .ok (.iconst 1, 1) := by decide +kernel
theorem dL_does_200 : decode cL_does 200 = .ok (.isub, 1) := by decide +kernel
theorem dL_does_201 : decode cL_does 201 = .ok (.if_icmp .ne 7, 3) := by decide +kernel
theorem dL_does_204 : decode cL_does 204 = .ok (.iconst 1, 1) := by decide +kernel
theorem dL_does_205 : decode cL_does 205 = .ok (.goto 30, 3) := by decide +kernel
theorem dL_does_208 : decode cL_does 208 = .ok (.iload 7, 2) := by decide +kernel
theorem dL_does_210 : decode cL_does 210 = .ok (.sipush (-1001), 3) := by decide +kernel
theorem dL_does_213 : decode cL_does 213 = .ok (.if_icmp .ne 9, 3) := by decide +kernel
theorem dL_does_216 : decode cL_does 216 = .ok (.iload 4, 2) := by decide +kernel
theorem dL_does_218 : decode cL_does 218 = .ok (.iload_n 2, 1) := by decide +kernel
theorem dL_does_219 : decode cL_does 219 = .ok (.if_icmp .eq 11, 3) := by decide +kernel
theorem dL_does_222 : decode cL_does 222 = .ok (.iload 7, 2) := by decide +kernel
theorem dL_does_224 : decode cL_does 224 = .ok (.sipush (-1002), 3) := by decide +kernel
theorem dL_does_227 : decode cL_does 227 = .ok (.if_icmp .ne 7, 3) := by decide +kernel
theorem dL_does_230 : decode cL_does 230 = .ok (.iconst 0, 1) := by decide +kernel
theorem dL_does_231 : decode cL_does 231 = .ok (.goto 4, 3) := by decide +kernel
theorem dL_does_234 : decode cL_does 234 = .ok (.iconst (-1), 1) := by decide +kernel
theorem dL_does_235 : decode cL_does 235 = .ok (.ireturn, 1) := by decide +kernel
theorem dL_does_236 : decode cL_does 236 = .ok (.iload 4, 2) := by decide +kernel
theorem dL_does_238 : decode cL_does 238 = .ok (.iload_n 2, 1) := by decide +kernel
theorem dL_does_239 : decode cL_does 239 = .ok (.if_icmp .ge 31, 3) := by decide +kernel
theorem dL_does_242 : decode cL_does 242 = .ok (.aload_n 0, 1) := by decide +kernel
theorem dL_does_243 : decode cL_does 243 = .ok (.iload 4, 2) := by decide +kernel
theorem dL_does_245 : decode cL_does 245 = .ok (.iconst 0, 1) := by decide +kernel
theorem dL_does_246 : decode cL_does 246 = .ok (.invokestatic 152, 3) := by decide +kernel
theorem dL_does_249 : decode cL_does 249 = .ok (.iload 5, 2) := by decide +kernel
theorem dL_does_251 : decode cL_does 251 = .ok (.if_icmp .ne 19, 3) := by decide +kernel
theorem dL_does_254 : decode cL_does 254 = .ok (.aload_n 0, 1) := by decide +kernel
theorem dL_does_255 : decode cL_does 255 = .ok (.iload 4, 2) := by decide +kernel
theorem dL_does_257 : decode cL_does 257 = .ok (.iconst 1, 1) := by decide +kernel
theorem dL_does_258 : decode cL_does 258 = .ok (.invokestatic 152, 3) := by decide +kernel
theorem dL_does_261 : decode cL_does 261 = .ok (.iload 6, 2) := by decide +kernel
theorem dL_does_263 : decode cL_does 263 = .ok (.if_icmp .ne 7, 3) := by decide +kernel
theorem dL_does_266 : decode cL_does 266 = .ok (.iconst 1, 1) := by decide +kernel
theorem dL_does_267 : decode cL_does 267 = .ok (.goto 4, 3) := by decide +kernel
theorem dL_does_270 : decode cL_does 270 = .ok (.iconst 0, 1) := by decide +kernel
theorem dL_does_271 : decode cL_does 271 = .ok (.istore 7, 2) := by decide +kernel
theorem dL_does_273 : decode cL_does 273 = .ok (.aload_n 0, 1) := by decide +kernel
theorem dL_does_274 : decode cL_does 274 = .ok (.iload 4, 2) := by decide +kernel
theorem dL_does_276 : decode cL_does 276 = .ok (.iload 5, 2) := by decide +kernel
theorem dL_does_278 : decode cL_does 278 = .ok (.iload 6, 2) := by decide +kernel
theorem dL_does_280 : decode cL_does 280 = .ok (.invokestatic 219, 3) := by decide +kernel
theorem dL_does_283 : decode cL_does 283 = .ok (.istore 8, 2) := by decide +kernel
theorem dL_does_285 : decode cL_does 285 = .ok (.iload 8, 2) := by decide +kernel
theorem dL_does_287 : decode cL_does 287 = .ok (.iload 7, 2) := by decide +kernel
theorem dL_does_289 : decode cL_does 289 = .ok (.ifCond .eq 7, 3) := by decide +kernel
theorem dL_does_292 : decode cL_does 292 = .ok (.iconst 0, 1) := by decide +kernel
theorem dL_does_293 : decode cL_does 293 = .ok (.goto 4, 3) := by decide +kernel
theorem dL_does_296 : decode cL_does 296 = .ok (.iconst 1, 1) := by decide +kernel
theorem dL_does_297 : decode cL_does 297 = .ok (.if_icmp .ne 37, 3) := by decide +kernel
theorem dL_does_300 : decode cL_does 300 = .ok (.iload 4, 2) := by decide +kernel
theorem dL_does_302 : decode cL_does 302 = .ok (.iload_n 2, 1) := by decide +kernel
theorem dL_does_303 : decode cL_does 303 = .ok (.if_icmp .ge 31, 3) := by decide +kernel
theorem dL_does_306 : decode cL_does 306 = .ok (.aload_n 0, 1) := by decide +kernel
theorem dL_does_307 : decode cL_does 307 = .ok (.iload 4, 2) := by decide +kernel
theorem dL_does_309 : decode cL_does 309 = .ok (.iconst 0, 1) := by decide +kernel
theorem dL_does_310 : decode cL_does 310 = .ok (.invokestatic 152, 3) := by decide +kernel
theorem dL_does_313 : decode cL_does 313 = .ok (.iload 5, 2) := by decide +kernel
theorem dL_does_315 : decode cL_does 315 = .ok (.if_icmp .ne 19, 3) := by decide +kernel
theorem dL_does_318 : decode cL_does 318 = .ok (.aload_n 0, 1) := by decide +kernel
theorem dL_does_319 : decode cL_does 319 = .ok (.iload 4, 2) := by decide +kernel
theorem dL_does_321 : decode cL_does 321 = .ok (.iconst 1, 1) := by decide +kernel
theorem dL_does_322 : decode cL_does 322 = .ok (.invokestatic 152, 3) := by decide +kernel
theorem dL_does_325 : decode cL_does 325 = .ok (.iload 6, 2) := by decide +kernel
theorem dL_does_327 : decode cL_does 327 = .ok (.if_icmp .ne 7, 3) := by decide +kernel
theorem dL_does_330 : decode cL_does 330 = .ok (.iconst 1, 1) := by decide +kernel
theorem dL_does_331 : decode cL_does 331 = .ok (.goto 38, 3) := by decide +kernel
theorem dL_does_334 : decode cL_does 334 = .ok (.iload 8, 2) := by decide +kernel
theorem dL_does_336 : decode cL_does 336 = .ok (.sipush (-1001), 3) := by decide +kernel
theorem dL_does_339 : decode cL_does 339 = .ok (.if_icmp .ne 9, 3) := by decide +kernel
theorem dL_does_342 : decode cL_does 342 = .ok (.iload 4, 2) := by decide +kernel
theorem dL_does_344 : decode cL_does 344 = .ok (.iload_n 2, 1) := by decide +kernel
theorem dL_does_345 : decode cL_does 345 = .ok (.if_icmp .eq 19, 3) := by decide +kernel
theorem dL_does_348 : decode cL_does 348 = .ok (.iload 8, 2) := by decide +kernel
theorem dL_does_350 : decode cL_does 350 = .ok (.sipush (-1003), 3) := by decide +kernel
theorem dL_does_353 : decode cL_does 353 = .ok (.if_icmp .eq 11, 3) := by decide +kernel
theorem dL_does_356 : decode cL_does 356 = .ok (.iload 8, 2) := by decide +kernel
theorem dL_does_358 : decode cL_does 358 = .ok (.sipush (-1004), 3) := by decide +kernel
theorem dL_does_361 : decode cL_does 361 = .ok (.if_icmp .ne 7, 3) := by decide +kernel
theorem dL_does_364 : decode cL_does 364 = .ok (.iconst 0, 1) := by decide +kernel
theorem dL_does_365 : decode cL_does 365 = .ok (.goto 4, 3) := by decide +kernel
theorem dL_does_368 : decode cL_does 368 = .ok (.iconst (-1), 1) := by decide +kernel
theorem dL_does_369 : decode cL_does 369 = .ok (.ireturn, 1) := by decide +kernel
theorem dL_does_370 : decode cL_does 370 = .ok (.iload_n 1, 1) := by decide +kernel
theorem dL_does_371 : decode cL_does 371 = .ok (.bipush 16, 2) := by decide +kernel
theorem dL_does_373 : decode cL_does 373 = .ok (.ishr, 1) := by decide +kernel
theorem dL_does_374 : decode cL_does 374 = .ok (.iload_n 2, 1) := by decide +kernel
theorem dL_does_375 : decode cL_does 375 = .ok (.iconst 1, 1) := by decide +kernel
theorem dL_does_376 : decode cL_does 376 = .ok (.iadd, 1) := by decide +kernel
theorem dL_does_377 : decode cL_does 377 = .ok (.invokestatic 210, 3) := by decide +kernel
theorem dL_does_380 : decode cL_does 380 = .ok (.istore 7, 2) := by decide +kernel
theorem dL_does_382 : decode cL_does 382 = .ok (.aload_n 0, 1) := by decide +kernel
theorem dL_does_383 : decode cL_does 383 = .ok (.iload 4, 2) := by decide +kernel
theorem dL_does_385 : decode cL_does 385 = .ok (.iload 7, 2) := by decide +kernel
theorem dL_does_387 : decode cL_does 387 = .ok (.invokestatic 223, 3) := by decide +kernel
theorem dL_does_390 : decode cL_does 390 = .ok (.istore 8, 2) := by decide +kernel
theorem dL_does_392 : decode cL_does 392 = .ok (.iload 8, 2) := by decide +kernel
theorem dL_does_394 : decode cL_does 394 = .ok (.iload_n 3, 1) := by decide +kernel
theorem dL_does_395 : decode cL_does 395 = .ok (.if_icmp .ne 39, 3) := by decide +kernel
theorem dL_does_398 : decode cL_does 398 = .ok (.aload_n 0, 1) := by decide +kernel
theorem dL_does_399 : decode cL_does 399 = .ok (.iload_n 3, 1) := by decide +kernel
theorem dL_does_400 : decode cL_does 400 = .ok (.iconst 0, 1) := by decide +kernel
theorem dL_does_401 : decode cL_does 401 = .ok (.invokestatic 155, 3) := by decide +kernel
theorem dL_does_404 : decode cL_does 404 = .ok (.iload 4, 2) := by decide +kernel
theorem dL_does_406 : decode cL_does 406 = .ok (.iload 7, 2) := by decide +kernel
theorem dL_does_408 : decode cL_does 408 = .ok (.invokestatic 226, 3) := by decide +kernel
theorem dL_does_411 : decode cL_does 411 = .ok (.if_icmp .ne 23, 3) := by decide +kernel
theorem dL_does_414 : decode cL_does 414 = .ok (.aload_n 0, 1) := by decide +kernel
theorem dL_does_415 : decode cL_does 415 = .ok (.iload_n 3, 1) := by decide +kernel
theorem dL_does_416 : decode cL_does 416 = .ok (.iconst 1, 1) := by decide +kernel
theorem dL_does_417 : decode cL_does 417 = .ok (.invokestatic 155, 3) := by decide +kernel
theorem dL_does_420 : decode cL_does 420 = .ok (.iload 4, 2) := by decide +kernel
theorem dL_does_422 : decode cL_does 422 = .ok (.iload 7, 2) := by decide +kernel
theorem dL_does_424 : decode cL_does 424 = .ok (.invokestatic 231, 3) := by decide +kernel
theorem dL_does_427 : decode cL_does 427 = .ok (.if_icmp .ne 7, 3) := by decide +kernel
theorem dL_does_430 : decode cL_does 430 = .ok (.iconst 1, 1) := by decide +kernel
theorem dL_does_431 : decode cL_does 431 = .ok (.goto 64, 3) := by decide +kernel
theorem dL_does_434 : decode cL_does 434 = .ok (.iload 8, 2) := by decide +kernel
theorem dL_does_436 : decode cL_does 436 = .ok (.sipush (-1001), 3) := by decide +kernel
theorem dL_does_439 : decode cL_does 439 = .ok (.if_icmp .ne 14, 3) := by decide +kernel
theorem dL_does_442 : decode cL_does 442 = .ok (.iload 4, 2) := by decide +kernel
theorem dL_does_444 : decode cL_does 444 = .ok (.iload 7, 2) := by decide +kernel
theorem dL_does_446 : decode cL_does 446 = .ok (.invokestatic 231, 3) := by decide +kernel
theorem dL_does_449 : decode cL_does 449 = .ok (.iload_n 2, 1) := by decide +kernel
theorem dL_does_450 : decode cL_does 450 = .ok (.if_icmp .eq 40, 3) := by decide +kernel
theorem dL_does_453 : decode cL_does 453 = .ok (.iload 8, 2) := by decide +kernel
theorem dL_does_455 : decode cL_does 455 = .ok (.sipush (-1002), 3) := by decide +kernel
theorem dL_does_458 : decode cL_does 458 = .ok (.if_icmp .ne 10, 3) := by decide +kernel
theorem dL_does_461 : decode cL_does 461 = .ok (.iload 4, 2) := by decide +kernel
theorem dL_does_463 : decode cL_does 463 = .ok (.iload 7, 2) := by decide +kernel
theorem dL_does_465 : decode cL_does 465 = .ok (.if_icmp .eq 25, 3) := by decide +kernel
theorem dL_does_468 : decode cL_does 468 = .ok (.iload 8, 2) := by decide +kernel
theorem dL_does_470 : decode cL_does 470 = .ok (.sipush (-1003), 3) := by decide +kernel
theorem dL_does_473 : decode cL_does 473 = .ok (.if_icmp .ne 9, 3) := by decide +kernel
theorem dL_does_476 : decode cL_does 476 = .ok (.iload_n 3, 1) := by decide +kernel
theorem dL_does_477 : decode cL_does 477 = .ok (.bipush 10, 2) := by decide +kernel
theorem dL_does_479 : decode cL_does 479 = .ok (.if_icmp .eq 11, 3) := by decide +kernel
theorem dL_does_482 : decode cL_does 482 = .ok (.iload 8, 2) := by decide +kernel
theorem dL_does_484 : decode cL_does 484 = .ok (.sipush (-1004), 3) := by decide +kernel
theorem dL_does_487 : decode cL_does 487 = .ok (.if_icmp .ne 7, 3) := by decide +kernel
theorem dL_does_490 : decode cL_does 490 = .ok (.iconst 0, 1) := by decide +kernel
theorem dL_does_491 : decode cL_does 491 = .ok (.goto 4, 3) := by decide +kernel
theorem dL_does_494 : decode cL_does 494 = .ok (.iconst (-1), 1) := by decide +kernel
theorem dL_does_495 : decode cL_does 495 = .ok (.ireturn, 1) := by decide +kernel
theorem dL_does_496 : decode cL_does 496 = .ok (.iload_n 1, 1) := by decide +kernel
theorem dL_does_497 : decode cL_does 497 = .ok (.iconst 4, 1) := by decide +kernel
theorem dL_does_498 : decode cL_does 498 = .ok (.ishr, 1) := by decide +kernel
theorem dL_does_499 : decode cL_does 499 = .ok (.iload_n 3, 1) := by decide +kernel
theorem dL_does_500 : decode cL_does 500 = .ok (.iconst 1, 1) := by decide +kernel
theorem dL_does_501 : decode cL_does 501 = .ok (.iadd, 1) := by decide +kernel
theorem dL_does_502 : decode cL_does 502 = .ok (.invokestatic 210, 3) := by decide +kernel
theorem dL_does_505 : decode cL_does 505 = .ok (.istore 7, 2) := by decide +kernel
theorem dL_does_507 : decode cL_does 507 = .ok (.aload_n 0, 1) := by decide +kernel
theorem dL_does_508 : decode cL_does 508 = .ok (.iload 7, 2) := by decide +kernel
theorem dL_does_510 : decode cL_does 510 = .ok (.invokestatic 234, 3) := by decide +kernel
theorem dL_does_513 : decode cL_does 513 = .ok (.istore 8, 2) := by decide +kernel
theorem dL_does_515 : decode cL_does 515 = .ok (.iload 8, 2) := by decide +kernel
theorem dL_does_517 : decode cL_does 517 = .ok (.iload_n 3, 1) := by decide +kernel
theorem dL_does_518 : decode cL_does 518 = .ok (.iconst 1, 1) := by decide +kernel
theorem dL_does_519 : decode cL_does 519 = .ok (.isub, 1) := by decide +kernel
theorem dL_does_520 : decode cL_does 520 = .ok (.if_icmp .ne 13, 3) := by decide +kernel
theorem dL_does_523 : decode cL_does 523 = .ok (.iload 7, 2) := by decide +kernel
theorem dL_does_525 : decode cL_does 525 = .ok (.iload_n 3, 1) := by decide +kernel
theorem dL_does_526 : decode cL_does 526 = .ok (.if_icmp .ge 7, 3) := by decide +kernel
theorem dL_does_529 : decode cL_does 529 = .ok (.iconst 1, 1) := by decide +kernel
theorem dL_does_530 : decode cL_does 530 = .ok (.goto 22, 3) := by decide +kernel
theorem dL_does_533 : decode cL_does 533 = .ok (.iload 8, 2) := by decide +kernel
theorem dL_does_535 : decode cL_does 535 = .ok (.sipush (-1001), 3) := by decide +kernel
theorem dL_does_538 : decode cL_does 538 = .ok (.if_icmp .ne 13, 3) := by decide +kernel
theorem dL_does_541 : decode cL_does 541 = .ok (.iload 7, 2) := by decide +kernel
theorem dL_does_543 : decode cL_does 543 = .ok (.iload_n 3, 1) := by decide +kernel
theorem dL_does_544 : decode cL_does 544 = .ok (.if_icmp .ne 7, 3) := by decide +kernel
theorem dL_does_547 : decode cL_does 547 = .ok (.iconst 0, 1) := by decide +kernel
theorem dL_does_548 : decode cL_does 548 = .ok (.goto 4, 3) := by decide +kernel
theorem dL_does_551 : decode cL_does 551 = .ok (.iconst (-1), 1) := by decide +kernel
theorem dL_does_552 : decode cL_does 552 = .ok (.ireturn, 1) := by decide +kernel
theorem dL_refused_0 : decode cL_refused 0 = .ok (.aload_n 0, 1) := by decide +kernel
theorem dL_refused_1 : decode cL_refused 1 = .ok (.invokestatic 237, 3) := by decide +kernel
theorem dL_refused_4 : decode cL_refused 4 = .ok (.lstore_n 1, 1) := by decide +kernel
theorem dL_refused_5 : decode cL_refused 5 = .ok (.aload_n 0, 1) := by decide +kernel
theorem dL_refused_6 : decode cL_refused 6 = .ok (.invokevirtual 146, 3) := by decide +kernel
theorem dL_refused_9 : decode cL_refused 9 = .ok (.istore_n 3, 1) := by decide +kernel
theorem dL_refused_10 : decode cL_refused 10 = .ok (.aload_n 0, 1) := by decide +kernel
theorem dL_refused_11 : decode cL_refused 11 = .ok (.invokevirtual 149, 3) := by decide +kernel
theorem dL_refused_14 : decode cL_refused 14 = .ok (.istore 4, 2) := by decide +kernel
theorem dL_refused_16 : decode cL_refused 16 = .ok (.aload_n 0, 1) := by decide +kernel
theorem dL_refused_17 : decode cL_refused 17 = .ok (.iconst (-1), 1) := by decide +kernel
theorem dL_refused_18 : decode cL_refused 18 = .ok (.iconst 0, 1) := by decide +kernel
theorem dL_refused_19 : decode cL_refused 19 = .ok (.invokestatic 213, 3) := by decide +kernel
theorem dL_refused_22 : decode cL_refused 22 = .ok (.sipush (-1001), 3) := by decide +kernel
theorem dL_refused_25 : decode cL_refused 25 = .ok (.if_icmp .ne 369, 3) := by decide +kernel
theorem dL_refused_28 : decode cL_refused 28 = .ok (.aload_n 0, 1) := by decide +kernel
theorem dL_refused_29 : decode cL_refused 29 = .ok (.iconst 0, 1) := by decide +kernel
theorem dL_refused_30 : decode cL_refused 30 = .ok (.bipush 101, 2) := by decide +kernel
theorem dL_refused_32 : decode cL_refused 32 = .ok (.invokestatic 213, 3) := by decide +kernel
theorem dL_refused_35 : decode cL_refused 35 = .ok (.sipush (-1001), 3) := by decide +kernel
theorem dL_refused_38 : decode cL_refused 38 = .ok (.if_icmp .ne 356, 3) := by decide +kernel
theorem dL_refused_41 : decode cL_refused 41 = .ok (.aload_n 0, 1) := by decide +kernel
theorem dL_refused_42 : decode cL_refused 42 = .ok (.iload_n 3, 1) := by decide +kernel
theorem dL_refused_43 : decode cL_refused 43 = .ok (.invokestatic 216, 3) := by decide +kernel
theorem dL_refused_46 : decode cL_refused 46 = .ok (.sipush (-1001), 3) := by decide +kernel
theorem dL_refused_49 : decode cL_refused 49 = .ok (.if_icmp .ne 345, 3) := by decide +kernel
theorem dL_refused_52 : decode cL_refused 52 = .ok (.aload_n 0, 1) := by decide +kernel
theorem dL_refused_53 : decode cL_refused 53 = .ok (.iconst (-1), 1) := by decide +kernel
theorem dL_refused_54 : decode cL_refused 54 = .ok (.invokestatic 216, 3) := by decide +kernel
theorem dL_refused_57 : decode cL_refused 57 = .ok (.sipush (-1001), 3) := by decide +kernel
theorem dL_refused_60 : decode cL_refused 60 = .ok (.if_icmp .ne 334, 3) := by decide +kernel
theorem dL_refused_63 : decode cL_refused 63 = .ok (.aload_n 0, 1) := by decide +kernel
theorem dL_refused_64 : decode cL_refused 64 = .ok (.iload_n 3, 1) := by decide +kernel
theorem dL_refused_65 : decode cL_refused 65 = .ok (.iconst 0, 1) := by decide +kernel
theorem dL_refused_66 : decode cL_refused 66 = .ok (.iconst 0, 1) := by decide +kernel
theorem dL_refused_67 : decode cL_refused 67 = .ok (.invokestatic 219, 3) := by decide +kernel
theorem dL_refused_70 : decode cL_refused 70 = .ok (.sipush (-1001), 3) := by decide +kernel
theorem dL_refused_73 : decode cL_refused 73 = .ok (.if_icmp .ne 321, 3) := by decide +kernel
theorem dL_refused_76 : decode cL_refused 76 = .ok (.aload_n 0, 1) := by decide +kernel
theorem dL_refused_77 : decode cL_refused 77 = .ok (.iconst (-1), 1) := by decide +kernel
theorem dL_refused_78 : decode cL_refused 78 = .ok (.iconst 0, 1) := by decide +kernel
theorem dL_refused_79 : decode cL_refused 79 = .ok (.invokestatic 152, 3) := by decide +kernel
theorem dL_refused_82 : decode cL_refused 82 = .ok (.sipush (-1001), 3) := by decide +kernel
theorem dL_refused_85 : decode cL_refused 85 = .ok (.if_icmp .ne 309, 3) := by decide +kernel
theorem dL_refused_88 : decode cL_refused 88 = .ok (.aload_n 0, 1) := by decide +kernel
theorem dL_refused_89 : decode cL_refused 89 = .ok (.iload_n 3, 1) := by decide +kernel
theorem dL_refused_90 : decode cL_refused 90 = .ok (.iconst 0, 1) := by decide +kernel
theorem dL_refused_91 : decode cL_refused 91 = .ok (.invokestatic 223, 3) := by decide +kernel
theorem dL_refused_94 : decode cL_refused 94 = .ok (.sipush (-1001), 3) := by decide +kernel
theorem dL_refused_97 : decode cL_refused 97 = .ok (.if_icmp .ne 297, 3) := by decide +kernel
theorem dL_refused_100 : decode cL_refused 100 = .ok (.aload_n 0, 1) := by decide +kernel
theorem dL_refused_101 : decode cL_refused 101 = .ok (.iconst 0, 1) := by decide +kernel
theorem dL_refused_102 : decode cL_refused 102 = .ok (.iconst (-1), 1) := by decide +kernel
theorem dL_refused_103 : decode cL_refused 103 = .ok (.invokestatic 223, 3) := by decide +kernel
theorem dL_refused_106 : decode cL_refused 106 = .ok (.sipush (-1001), 3) := by decide +kernel
theorem dL_refused_109 : decode cL_refused 109 = .ok (.if_icmp .ne 285, 3) := by decide +kernel
theorem dL_refused_112 : decode cL_refused 112 = .ok (.aload_n 0, 1) := by decide +kernel
theorem dL_refused_113 : decode cL_refused 113 = .ok (.iload 4, 2) := by decide +kernel
theorem dL_refused_115 : decode cL_refused 115 = .ok (.invokestatic 234, 3) := by decide +kernel
theorem dL_refused_118 : decode cL_refused 118 = .ok (.sipush (-1001), 3) := by decide +kernel
theorem dL_refused_121 : decode cL_refused 121 = .ok (.if_icmp .ne 273, 3) := by decide +kernel
theorem dL_refused_124 : decode cL_refused 124 = .ok (.aload_n 0, 1) := by decide +kernel
theorem dL_refused_125 : decode cL_refused 125 = .ok (.iload 4, 2) := by decide +kernel
theorem dL_refused_127 : decode cL_refused 127 = .ok (.iconst 0, 1) := by decide +kernel
theorem dL_refused_128 : decode cL_refused 128 = .ok (.invokestatic 155, 3) := by decide +kernel
theorem dL_refused_131 : decode cL_refused 131 = .ok (.sipush (-1001), 3) := by decide +kernel
theorem dL_refused_134 : decode cL_refused 134 = .ok (.if_icmp .ne 260, 3) := by decide +kernel
theorem dL_refused_137 : decode cL_refused 137 = .ok (.aload_n 0, 1) := by decide +kernel
theorem dL_refused_138 : decode cL_refused 138 = .ok (.invokevirtual 60, 3) := by decide +kernel
theorem dL_refused_141 : decode cL_refused 141 = .ok (.bipush (-100), 2) := by decide +kernel
theorem dL_refused_143 : decode cL_refused 143 = .ok (.if_icmp .ne 251, 3) := by decide +kernel
theorem dL_refused_146 : decode cL_refused 146 = .ok (.aload_n 0, 1) := by decide +kernel
theorem dL_refused_147 : decode cL_refused 147 = .ok (.iconst (-1), 1) := by decide +kernel
theorem dL_refused_148 : decode cL_refused 148 = .ok (.iconst 0, 1) := by decide +kernel
theorem dL_refused_149 : decode cL_refused 149 = .ok (.invokestatic 174, 3) := by decide +kernel
theorem dL_refused_152 : decode cL_refused 152 = .ok (.sipush (-1001), 3) := by decide +kernel
theorem dL_refused_155 : decode cL_refused 155 = .ok (.if_icmp .ne 239, 3) := by decide +kernel
theorem dL_refused_158 : decode cL_refused 158 = .ok (.aload_n 0, 1) := by decide +kernel
theorem dL_refused_159 : decode cL_refused 159 = .ok (.aload_n 0, 1) := by decide +kernel
theorem dL_refused_160 : decode cL_refused 160 = .ok (.invokevirtual 162, 3) := by decide +kernel
theorem dL_refused_163 : decode cL_refused 163 = .ok (.iconst 0, 1) := by decide +kernel
theorem dL_refused_164 : decode cL_refused 164 = .ok (.invokestatic 176, 3) := by decide +kernel
theorem dL_refused_167 : decode cL_refused 167 = .ok (.sipush (-1001), 3) := by decide +kernel
theorem dL_refused_170 : decode cL_refused 170 = .ok (.if_icmp .ne 224, 3) := by decide +kernel
theorem dL_refused_173 : decode cL_refused 173 = .ok (.aload_n 0, 1) := by decide +kernel
theorem dL_refused_174 : decode cL_refused 174 = .ok (.iconst (-1), 1) := by decide +kernel
theorem dL_refused_175 : decode cL_refused 175 = .ok (.iconst 0, 1) := by decide +kernel
theorem dL_refused_176 : decode cL_refused 176 = .ok (.invokestatic 178, 3) := by decide +kernel
theorem dL_refused_179 : decode cL_refused 179 = .ok (.sipush (-1001), 3) := by decide +kernel
theorem dL_refused_182 : decode cL_refused 182 = .ok (.if_icmp .ne 212, 3) := by decide +kernel
theorem dL_refused_185 : decode cL_refused 185 = .ok (.aload_n 0, 1) := by decide +kernel
theorem dL_refused_186 : decode cL_refused 186 = .ok (.iload_n 3, 1) := by decide +kernel
theorem dL_refused_187 : decode cL_refused 187 = .ok (.iconst 0, 1) := by decide +kernel
theorem dL_refused_188 : decode cL_refused 188 = .ok (.invokestatic 240, 3) := by decide +kernel
theorem dL_refused_191 : decode cL_refused 191 = .ok (.sipush (-1001), 3) := by decide +kernel
theorem dL_refused_194 : decode cL_refused 194 = .ok (.if_icmp .ne 200, 3) := by decide +kernel
theorem dL_refused_197 : decode cL_refused 197 = .ok (.aload_n 0, 1) := by decide +kernel
theorem dL_refused_198 : decode cL_refused 198 = .ok (.iconst (-1), 1) := by decide +kernel
theorem dL_refused_199 : decode cL_refused 199 = .ok (.invokestatic 184, 3) := by decide +kernel
theorem dL_refused_202 : decode cL_refused 202 = .ok (.sipush (-1001), 3) := by decide +kernel
theorem dL_refused_205 : decode cL_refused 205 = .ok (.if_icmp .ne 189, 3) := by decide +kernel
theorem dL_refused_208 : decode cL_refused 208 = .ok (.aload_n 0, 1) := by decide +kernel
theorem dL_refused_209 : decode cL_refused 209 = .ok (.iload_n 3, 1) := by decide +kernel
theorem dL_refused_210 : decode cL_refused 210 = .ok (.iconst 0, 1) := by decide +kernel
theorem dL_refused_211 : decode cL_refused 211 = .ok (.invokestatic 243, 3) := by decide +kernel
theorem dL_refused_214 : decode cL_refused 214 = .ok (.sipush (-1001), 3) := by decide +kernel
theorem dL_refused_217 : decode cL_refused 217 = .ok (.if_icmp .ne 177, 3) := by decide +kernel
theorem dL_refused_220 : decode cL_refused 220 = .ok (.aload_n 0, 1) := by decide +kernel
theorem dL_refused_221 : decode cL_refused 221 = .ok (.iconst (-1), 1) := by decide +kernel
theorem dL_refused_222 : decode cL_refused 222 = .ok (.invokestatic 188, 3) := by decide +kernel
theorem dL_refused_225 : decode cL_refused 225 = .ok (.sipush (-1001), 3) := by decide +kernel
theorem dL_refused_228 : decode cL_refused 228 = .ok (.if_icmp .ne 166, 3) := by decide +kernel
theorem dL_refused_231 : decode cL_refused 231 = .ok (.aload_n 0, 1) := by decide +kernel
theorem dL_refused_232 : decode cL_refused 232 = .ok (.iconst (-1), 1) := by decide +kernel
theorem dL_refused_233 : decode cL_refused 233 = .ok (.invokestatic 171, 3) := by decide +kernel
theorem dL_refused_236 : decode cL_refused 236 = .ok (.sipush (-1001), 3) := by decide +kernel
theorem dL_refused_239 : decode cL_refused 239 = .ok (.if_icmp .ne 155, 3) := by decide +kernel
theorem dL_refused_242 : decode cL_refused 242 = .ok (.aload_n 0, 1) := by decide +kernel
theorem dL_refused_243 : decode cL_refused 243 = .ok (.iconst (-1), 1) := by decide +kernel
theorem dL_refused_244 : decode cL_refused 244 = .ok (.invokestatic 245, 3) := by decide +kernel
theorem dL_refused_247 : decode cL_refused 247 = .ok (.ldc2_w 93, 3) := by decide +kernel
theorem dL_refused_250 : decode cL_refused 250 = .ok (.dcmp .l, 1) := by decide +kernel
theorem dL_refused_251 : decode cL_refused 251 = .ok (.ifCond .ne 143, 3) := by decide +kernel
theorem dL_refused_254 : decode cL_refused 254 = .ok (.aload_n 0, 1) := by decide +kernel
theorem dL_refused_255 : decode cL_refused 255 = .ok (.iconst 3, 1) := by decide +kernel
theorem dL_refused_256 : decode cL_refused 256 = .ok (.invokestatic 193, 3) := by decide +kernel
theorem dL_refused_259 : decode cL_refused 259 = .ok (.sipush (-1001), 3) := by decide +kernel
theorem dL_refused_262 : decode cL_refused 262 = .ok (.if_icmp .ne 132, 3) := by decide +kernel
theorem dL_refused_265 : decode cL_refused 265 = .ok (.aload_n 0, 1) := by decide +kernel
theorem dL_refused_266 : decode cL_refused 266 = .ok (.iconst 0, 1) := by decide +kernel
theorem dL_refused_267 : decode cL_refused 267 = .ok (.iconst 0, 1) := by decide +kernel
theorem dL_refused_268 : decode cL_refused 268 = .ok (.iload_n 3, 1) := by decide +kernel
theorem dL_refused_269 : decode cL_refused 269 = .ok (.invokestatic 249, 3) := by decide +kernel
theorem dL_refused_272 : decode cL_refused 272 = .ok (.sipush (-1001), 3) := by decide +kernel
theorem dL_refused_275 : decode cL_refused 275 = .ok (.if_icmp .ne 119, 3) := by decide +kernel
theorem dL_refused_278 : decode cL_refused 278 = .ok (.aload_n 0, 1) := by decide +kernel
theorem dL_refused_279 : decode cL_refused 279 = .ok (.iload_n 3, 1) := by decide +kernel
theorem dL_refused_280 : decode cL_refused 280 = .ok (.iconst 0, 1) := by decide +kernel
theorem dL_refused_281 : decode cL_refused 281 = .ok (.iconst 0, 1) := by decide +kernel
theorem dL_refused_282 : decode cL_refused 282 = .ok (.iconst 0, 1) := by decide +kernel
theorem dL_refused_283 : decode cL_refused 283 = .ok (.invokestatic 251, 3) := by decide +kernel
theorem dL_refused_286 : decode cL_refused 286 = .ok (.sipush (-1001), 3) := by decide +kernel
theorem dL_refused_289 : decode cL_refused 289 = .ok (.if_icmp .ne 105, 3) := by decide +kernel
theorem dL_refused_292 : decode cL_refused 292 = .ok (.aload_n 0, 1) := by decide +kernel
theorem dL_refused_293 : decode cL_refused 293 = .ok (.iconst (-1), 1) := by decide +kernel
theorem dL_refused_294 : decode cL_refused 294 = .ok (.invokestatic 181, 3) := by decide +kernel
theorem dL_refused_297 : decode cL_refused 297 = .ok (.sipush (-1001), 3) := by decide +kernel
theorem dL_refused_300 : decode cL_refused 300 = .ok (.if_icmp .ne 94, 3) := by decide +kernel
theorem dL_refused_303 : decode cL_refused 303 = .ok (.aload_n 0, 1) := by decide +kernel
theorem dL_refused_304 : decode cL_refused 304 = .ok (.iconst (-1), 1) := by decide +kernel
theorem dL_refused_305 : decode cL_refused 305 = .ok (.iconst 0, 1) := by decide +kernel
theorem dL_refused_306 : decode cL_refused 306 = .ok (.invokestatic 255, 3) := by decide +kernel
theorem dL_refused_309 : decode cL_refused 309 = .ok (.sipush (-1001), 3) := by decide +kernel
theorem dL_refused_312 : decode cL_refused 312 = .ok (.if_icmp .ne 82, 3) := by decide +kernel
theorem dL_refused_315 : decode cL_refused 315 = .ok (.aload_n 0, 1) := by decide +kernel
theorem dL_refused_316 : decode cL_refused 316 = .ok (.iconst 0, 1) := by decide +kernel
theorem dL_refused_317 : decode cL_refused 317 = .ok (.bipush 101, 2) := by decide +kernel
theorem dL_refused_319 : decode cL_refused 319 = .ok (.invokestatic 198, 3) := by decide +kernel
theorem dL_refused_322 : decode cL_refused 322 = .ok (.sipush (-1001), 3) := by decide +kernel
theorem dL_refused_325 : decode cL_refused 325 = .ok (.if_icmp .ne 69, 3) := by decide +kernel
theorem dL_refused_328 : decode cL_refused 328 = .ok (.aload_n 0, 1) := by decide +kernel
theorem dL_refused_329 : decode cL_refused 329 = .ok (.iconst (-1), 1) := by decide +kernel
theorem dL_refused_330 : decode cL_refused 330 = .ok (.iconst 0, 1) := by decide +kernel
theorem dL_refused_331 : decode cL_refused 331 = .ok (.iconst 0, 1) := by decide +kernel
theorem dL_refused_332 : decode cL_refused 332 = .ok (.iconst 1, 1) := by decide +kernel
theorem dL_refused_333 : decode cL_refused 333 = .ok (.invokestatic 258, 3) := by decide +kernel
theorem dL_refused_336 : decode cL_refused 336 = .ok (.sipush (-1001), 3) := by decide +kernel
theorem dL_refused_339 : decode cL_refused 339 = .ok (.if_icmp .ne 55, 3) := by decide +kernel
theorem dL_refused_342 : decode cL_refused 342 = .ok (.aload_n 0, 1) := by decide +kernel
theorem dL_refused_343 : decode cL_refused 343 = .ok (.bipush 101, 2) := by decide +kernel
theorem dL_refused_345 : decode cL_refused 345 = .ok (.iconst 0, 1) := by decide +kernel
theorem dL_refused_346 : decode cL_refused 346 = .ok (.invokestatic 196, 3) := by decide +kernel
theorem dL_refused_349 : decode cL_refused 349 = .ok (.sipush (-1001), 3) := by decide +kernel
theorem dL_refused_352 : decode cL_refused 352 = .ok (.if_icmp .ne 42, 3) := by decide +kernel
theorem dL_refused_355 : decode cL_refused 355 = .ok (.aload_n 0, 1) := by decide +kernel
theorem dL_refused_356 : decode cL_refused 356 = .ok (.iload_n 3, 1) := by decide +kernel
theorem dL_refused_357 : decode cL_refused 357 = .ok (.invokestatic 186, 3) := by decide +kernel
theorem dL_refused_360 : decode cL_refused 360 = .ok (.sipush (-1001), 3) := by decide +kernel
theorem dL_refused_363 : decode cL_refused 363 = .ok (.if_icmp .ne 31, 3) := by decide +kernel
theorem dL_refused_366 : decode cL_refused 366 = .ok (.aload_n 0, 1) := by decide +kernel
theorem dL_refused_367 : decode cL_refused 367 = .ok (.iload_n 3, 1) := by decide +kernel
theorem dL_refused_368 : decode cL_refused 368 = .ok (.iconst 0, 1) := by decide +kernel
theorem dL_refused_369 : decode cL_refused 369 = .ok (.invokestatic 261, 3) := by decide +kernel
theorem dL_refused_372 : decode cL_refused 372 = .ok (.sipush (-1001), 3) := by decide +kernel
theorem dL_refused_375 : decode cL_refused 375 = .ok (.if_icmp .ne 19, 3) := by decide +kernel
theorem dL_refused_378 : decode cL_refused 378 = .ok (.aload_n 0, 1) := by decide +kernel
theorem dL_refused_379 : decode cL_refused 379 = .ok (.iload 4, 2) := by decide +kernel
theorem dL_refused_381 : decode cL_refused 381 = .ok (.invokestatic 191, 3) := by decide +kernel
theorem dL_refused_384 : decode cL_refused 384 = .ok (.sipush (-1001), 3) := by decide +kernel
theorem dL_refused_387 : decode cL_refused 387 = .ok (.if_icmp .ne 7, 3) := by decide +kernel
theorem dL_refused_390 : decode cL_refused 390 = .ok (.iconst 1, 1) := by decide +kernel
theorem dL_refused_391 : decode cL_refused 391 = .ok (.goto 4, 3) := by decide +kernel
theorem dL_refused_394 : decode cL_refused 394 = .ok (.iconst 0, 1) := by decide +kernel
theorem dL_refused_395 : decode cL_refused 395 = .ok (.istore 5, 2) := by decide +kernel
theorem dL_refused_397 : decode cL_refused 397 = .ok (.iload_n 3, 1) := by decide +kernel
theorem dL_refused_398 : decode cL_refused 398 = .ok (.ifCond .le 78, 3) := by decide +kernel
theorem dL_refused_401 : decode cL_refused 401 = .ok (.iload 5, 2) := by decide +kernel
theorem dL_refused_403 : decode cL_refused 403 = .ok (.ifCond .eq 70, 3) := by decide +kernel
theorem dL_refused_406 : decode cL_refused 406 = .ok (.aload_n 0, 1) := by decide +kernel
theorem dL_refused_407 : decode cL_refused 407 = .ok (.iconst 0, 1) := by decide +kernel
theorem dL_refused_408 : decode cL_refused 408 = .ok (.bipush 101, 2) := by decide +kernel
theorem dL_refused_410 : decode cL_refused 410 = .ok (.iconst 0, 1) := by decide +kernel
theorem dL_refused_411 : decode cL_refused 411 = .ok (.invokestatic 219, 3) := by decide +kernel
theorem dL_refused_414 : decode cL_refused 414 = .ok (.sipush (-1002), 3) := by decide +kernel
theorem dL_refused_417 : decode cL_refused 417 = .ok (.if_icmp .ne 56, 3) := by decide +kernel
theorem dL_refused_420 : decode cL_refused 420 = .ok (.aload_n 0, 1) := by decide +kernel
theorem dL_refused_421 : decode cL_refused 421 = .ok (.iconst 0, 1) := by decide +kernel
theorem dL_refused_422 : decode cL_refused 422 = .ok (.iconst 2, 1) := by decide +kernel
theorem dL_refused_423 : decode cL_refused 423 = .ok (.invokestatic 152, 3) := by decide +kernel
theorem dL_refused_426 : decode cL_refused 426 = .ok (.sipush (-1002), 3) := by decide +kernel
theorem dL_refused_429 : decode cL_refused 429 = .ok (.if_icmp .ne 44, 3) := by decide +kernel
theorem dL_refused_432 : decode cL_refused 432 = .ok (.aload_n 0, 1) := by decide +kernel
theorem dL_refused_433 : decode cL_refused 433 = .ok (.iconst 0, 1) := by decide +kernel
theorem dL_refused_434 : decode cL_refused 434 = .ok (.iconst 0, 1) := by decide +kernel
theorem dL_refused_435 : decode cL_refused 435 = .ok (.invokestatic 223, 3) := by decide +kernel
theorem dL_refused_438 : decode cL_refused 438 = .ok (.sipush (-1002), 3) := by decide +kernel
theorem dL_refused_441 : decode cL_refused 441 = .ok (.if_icmp .ne 32, 3) := by decide +kernel
theorem dL_refused_444 : decode cL_refused 444 = .ok (.aload_n 0, 1) := by decide +kernel
theorem dL_refused_445 : decode cL_refused 445 = .ok (.iconst 0, 1) := by decide +kernel
theorem dL_refused_446 : decode cL_refused 446 = .ok (.iconst 0, 1) := by decide +kernel
theorem dL_refused_447 : decode cL_refused 447 = .ok (.invokestatic 261, 3) := by decide +kernel
theorem dL_refused_450 : decode cL_refused 450 = .ok (.sipush (-1002), 3) := by decide +kernel
theorem dL_refused_453 : decode cL_refused 453 = .ok (.if_icmp .ne 20, 3) := by decide +kernel
theorem dL_refused_456 : decode cL_refused 456 = .ok (.aload_n 0, 1) := by decide +kernel
theorem dL_refused_457 : decode cL_refused 457 = .ok (.iconst 0, 1) := by decide +kernel
theorem dL_refused_458 : decode cL_refused 458 = .ok (.bipush 99, 2) := by decide +kernel
theorem dL_refused_460 : decode cL_refused 460 = .ok (.invokestatic 243, 3) := by decide +kernel
theorem dL_refused_463 : decode cL_refused 463 = .ok (.sipush (-1002), 3) := by decide +kernel
theorem dL_refused_466 : decode cL_refused 466 = .ok (.if_icmp .ne 7, 3) := by decide +kernel
theorem dL_refused_469 : decode cL_refused 469 = .ok (.iconst 1, 1) := by decide +kernel
theorem dL_refused_470 : decode cL_refused 470 = .ok (.goto 4, 3) := by decide +kernel
theorem dL_refused_473 : decode cL_refused 473 = .ok (.iconst 0, 1) := by decide +kernel
theorem dL_refused_474 : decode cL_refused 474 = .ok (.istore 5, 2) := by decide +kernel
theorem dL_refused_476 : decode cL_refused 476 = .ok (.iload 4, 2) := by decide +kernel
theorem dL_refused_478 : decode cL_refused 478 = .ok (.ifCond .le 114, 3) := by decide +kernel
theorem dL_refused_481 : decode cL_refused 481 = .ok (.iload 5, 2) := by decide +kernel
theorem dL_refused_483 : decode cL_refused 483 = .ok (.ifCond .eq 106, 3) := by decide +kernel
theorem dL_refused_486 : decode cL_refused 486 = .ok (.aload_n 0, 1) := by decide +kernel
theorem dL_refused_487 : decode cL_refused 487 = .ok (.iconst 0, 1) := by decide +kernel
theorem dL_refused_488 : decode cL_refused 488 = .ok (.iconst 2, 1) := by decide +kernel
theorem dL_refused_489 : decode cL_refused 489 = .ok (.invokestatic 155, 3) := by decide +kernel
theorem dL_refused_492 : decode cL_refused 492 = .ok (.sipush (-1002), 3) := by decide +kernel
theorem dL_refused_495 : decode cL_refused 495 = .ok (.if_icmp .ne 94, 3) := by decide +kernel
theorem dL_refused_498 : decode cL_refused 498 = .ok (.aload_n 0, 1) := by decide +kernel
theorem dL_refused_499 : decode cL_refused 499 = .ok (.aload_n 0, 1) := by decide +kernel
theorem dL_refused_500 : decode cL_refused 500 = .ok (.iconst 0, 1) := by decide +kernel
theorem dL_refused_501 : decode cL_refused 501 = .ok (.iconst 0, 1) := by decide +kernel
theorem dL_refused_502 : decode cL_refused 502 = .ok (.invokestatic 155, 3) := by decide +kernel
theorem dL_refused_505 : decode cL_refused 505 = .ok (.invokestatic 216, 3) := by decide +kernel
theorem dL_refused_508 : decode cL_refused 508 = .ok (.sipush (-1002), 3) := by decide +kernel
theorem dL_refused_511 : decode cL_refused 511 = .ok (.if_icmp .ne 78, 3) := by decide +kernel
theorem dL_refused_514 : decode cL_refused 514 = .ok (.aload_n 0, 1) := by decide +kernel
theorem dL_refused_515 : decode cL_refused 515 = .ok (.aload_n 0, 1) := by decide +kernel
theorem dL_refused_516 : decode cL_refused 516 = .ok (.iconst 0, 1) := by decide +kernel
theorem dL_refused_517 : decode cL_refused 517 = .ok (.iconst 1, 1) := by decide +kernel
theorem dL_refused_518 : decode cL_refused 518 = .ok (.invokestatic 155, 3) := by decide +kernel
theorem dL_refused_521 : decode cL_refused 521 = .ok (.bipush 50, 2) := by decide +kernel
theorem dL_refused_523 : decode cL_refused 523 = .ok (.bipush 50, 2) := by decide +kernel
theorem dL_refused_525 : decode cL_refused 525 = .ok (.invokestatic 219, 3) := by decide +kernel
theorem dL_refused_528 : decode cL_refused 528 = .ok (.sipush (-1003), 3) := by decide +kernel
theorem dL_refused_531 : decode cL_refused 531 = .ok (.if_icmp .ne 58, 3) := by decide +kernel
theorem dL_refused_534 : decode cL_refused 534 = .ok (.aload_n 0, 1) := by decide +kernel
theorem dL_refused_535 : decode cL_refused 535 = .ok (.aload_n 0, 1) := by decide +kernel
theorem dL_refused_536 : decode cL_refused 536 = .ok (.iconst 0, 1) := by decide +kernel
theorem dL_refused_537 : decode cL_refused 537 = .ok (.iconst 1, 1) := by decide +kernel
theorem dL_refused_538 : decode cL_refused 538 = .ok (.invokestatic 155, 3) := by decide +kernel
theorem dL_refused_541 : decode cL_refused 541 = .ok (.invokestatic 186, 3) := by decide +kernel
theorem dL_refused_544 : decode cL_refused 544 = .ok (.sipush (-1002), 3) := by decide +kernel
theorem dL_refused_547 : decode cL_refused 547 = .ok (.if_icmp .ne 42, 3) := by decide +kernel
theorem dL_refused_550 : decode cL_refused 550 = .ok (.aload_n 0, 1) := by decide +kernel
theorem dL_refused_551 : decode cL_refused 551 = .ok (.aload_n 0, 1) := by decide +kernel
theorem dL_refused_552 : decode cL_refused 552 = .ok (.iconst 0, 1) := by decide +kernel
theorem dL_refused_553 : decode cL_refused 553 = .ok (.iconst 1, 1) := by decide +kernel
theorem dL_refused_554 : decode cL_refused 554 = .ok (.invokestatic 155, 3) := by decide +kernel
theorem dL_refused_557 : decode cL_refused 557 = .ok (.aload_n 0, 1) := by decide +kernel
theorem dL_refused_558 : decode cL_refused 558 = .ok (.iconst 0, 1) := by decide +kernel
theorem dL_refused_559 : decode cL_refused 559 = .ok (.iconst 0, 1) := by decide +kernel
theorem dL_refused_560 : decode cL_refused 560 = .ok (.invokestatic 155, 3) := by decide +kernel
theorem dL_refused_563 : decode cL_refused 563 = .ok (.invokestatic 223, 3) := by decide +kernel
theorem dL_refused_566 : decode cL_refused 566 = .ok (.iload 4, 2) := by decide +kernel
theorem dL_refused_568 : decode cL_refused 568 = .ok (.bipush 10, 2) := by decide +kernel
theorem dL_refused_570 : decode cL_refused 570 = .ok (.if_icmp .ne 9, 3) := by decide +kernel
theorem dL_refused_573 : decode cL_refused 573 = .ok (.sipush (-1003), 3) := by decide +kernel
theorem dL_refused_576 : decode cL_refused 576 = .ok (.goto 6, 3) := by decide +kernel
theorem dL_refused_579 : decode cL_refused 579 = .ok (.sipush (-1004), 3) := by decide +kernel
theorem dL_refused_582 : decode cL_refused 582 = .ok (.if_icmp .ne 7, 3) := by decide +kernel
theorem dL_refused_585 : decode cL_refused 585 = .ok (.iconst 1, 1) := by decide +kernel
theorem dL_refused_586 : decode cL_refused 586 = .ok (.goto 4, 3) := by decide +kernel
theorem dL_refused_589 : decode cL_refused 589 = .ok (.iconst 0, 1) := by decide +kernel
theorem dL_refused_590 : decode cL_refused 590 = .ok (.istore 5, 2) := by decide +kernel
theorem dL_refused_592 : decode cL_refused 592 = .ok (.iload 5, 2) := by decide +kernel
theorem dL_refused_594 : decode cL_refused 594 = .ok (.ifCond .eq 16, 3) := by decide +kernel
theorem dL_refused_597 : decode cL_refused 597 = .ok (.aload_n 0, 1) := by decide +kernel
theorem dL_refused_598 : decode cL_refused 598 = .ok (.invokestatic 237, 3) := by decide +kernel
theorem dL_refused_601 : decode cL_refused 601 = .ok (.lload_n 1, 1) := by decide +kernel
theorem dL_refused_602 : decode cL_refused 602 = .ok (.lcmp, 1) := by decide +kernel
theorem dL_refused_603 : decode cL_refused 603 = .ok (.ifCond .ne 7, 3) := by decide +kernel
theorem dL_refused_606 : decode cL_refused 606 = .ok (.iconst 1, 1) := by decide +kernel
theorem dL_refused_607 : decode cL_refused 607 = .ok (.goto 4, 3) := by decide +kernel
theorem dL_refused_610 : decode cL_refused 610 = .ok (.iconst 0, 1) := by decide +kernel
theorem dL_refused_611 : decode cL_refused 611 = .ok (.ireturn, 1) := by decide +kernel
theorem dL_law_0 : decode cL_law 0 = .ok (.new 8, 3) := by decide +kernel
theorem dL_law_3 : decode cL_law 3 = .ok (.dup, 1) := by decide +kernel
theorem dL_law_4 : decode cL_law 4 = .ok (.invokespecial 263, 3) := by decide +kernel
theorem dL_law_7 : decode cL_law 7 = .ok (.astore_n 1, 1) := by decide +kernel
theorem dL_law_8 : decode cL_law 8 = .ok (.aload_n 1, 1) := by decide +kernel
theorem dL_law_9 : decode cL_law 9 = .ok (.invokevirtual 146, 3) := by decide +kernel
theorem dL_law_12 : decode cL_law 12 = .ok (.ifCond .ne 96, 3) := by decide +kernel
theorem dL_law_15 : decode cL_law 15 = .ok (.aload_n 1, 1) := by decide +kernel
theorem dL_law_16 : decode cL_law 16 = .ok (.invokevirtual 162, 3) := by decide +kernel
theorem dL_law_19 : decode cL_law 19 = .ok (.ifCond .ne 89, 3) := by decide +kernel
theorem dL_law_22 : decode cL_law 22 = .ok (.aload_n 1, 1) := by decide +kernel
theorem dL_law_23 : decode cL_law 23 = .ok (.invokevirtual 165, 3) := by decide +kernel
theorem dL_law_26 : decode cL_law 26 = .ok (.ifCond .ne 82, 3) := by decide +kernel
theorem dL_law_29 : decode cL_law 29 = .ok (.aload_n 1, 1) := by decide +kernel
theorem dL_law_30 : decode cL_law 30 = .ok (.invokevirtual 168, 3) := by decide +kernel
theorem dL_law_33 : decode cL_law 33 = .ok (.ifCond .ne 75, 3) := by decide +kernel
theorem dL_law_36 : decode cL_law 36 = .ok (.aload_n 1, 1) := by decide +kernel
theorem dL_law_37 : decode cL_law 37 = .ok (.invokestatic 206, 3) := by decide +kernel
theorem dL_law_40 : decode cL_law 40 = .ok (.ldc2_w 93, 3) := by decide +kernel
theorem dL_law_43 : decode cL_law 43 = .ok (.dcmp .l, 1) := by decide +kernel
theorem dL_law_44 : decode cL_law 44 = .ok (.ifCond .ne 64, 3) := by decide +kernel
theorem dL_law_47 : decode cL_law 47 = .ok (.aload_n 1, 1) := by decide +kernel
theorem dL_law_48 : decode cL_law 48 = .ok (.iconst 0, 1) := by decide +kernel
theorem dL_law_49 : decode cL_law 49 = .ok (.invokestatic 193, 3) := by decide +kernel
theorem dL_law_52 : decode cL_law 52 = .ok (.sipush (-1002), 3) := by decide +kernel
theorem dL_law_55 : decode cL_law 55 = .ok (.if_icmp .ne 53, 3) := by decide +kernel
theorem dL_law_58 : decode cL_law 58 = .ok (.aload_n 1, 1) := by decide +kernel
theorem dL_law_59 : decode cL_law 59 = .ok (.iconst 0, 1) := by decide +kernel
theorem dL_law_60 : decode cL_law 60 = .ok (.iconst 0, 1) := by decide +kernel
theorem dL_law_61 : decode cL_law 61 = .ok (.invokestatic 255, 3) := by decide +kernel
theorem dL_law_64 : decode cL_law 64 = .ok (.ifCond .ne 44, 3) := by decide +kernel
theorem dL_law_67 : decode cL_law 67 = .ok (.aload_n 1, 1) := by decide +kernel
theorem dL_law_68 : decode cL_law 68 = .ok (.iconst 0, 1) := by decide +kernel
theorem dL_law_69 : decode cL_law 69 = .ok (.iconst 0, 1) := by decide +kernel
theorem dL_law_70 : decode cL_law 70 = .ok (.invokestatic 198, 3) := by decide +kernel
theorem dL_law_73 : decode cL_law 73 = .ok (.sipush (-1002), 3) := by decide +kernel
theorem dL_law_76 : decode cL_law 76 = .ok (.if_icmp .ne 32, 3) := by decide +kernel
theorem dL_law_79 : decode cL_law 79 = .ok (.aload_n 1, 1) := by decide +kernel
theorem dL_law_80 : decode cL_law 80 = .ok (.invokestatic 264, 3) := by decide +kernel
theorem dL_law_83 : decode cL_law 83 = .ok (.sipush (-1001), 3) := by decide +kernel
theorem dL_law_86 : decode cL_law 86 = .ok (.if_icmp .ne 22, 3) := by decide +kernel
theorem dL_law_89 : decode cL_law 89 = .ok (.aload_n 1, 1) := by decide +kernel
theorem dL_law_90 : decode cL_law 90 = .ok (.invokestatic 267, 3) := by decide +kernel
theorem dL_law_93 : decode cL_law 93 = .ok (.sipush (-1001), 3) := by decide +kernel
theorem dL_law_96 : decode cL_law 96 = .ok (.if_icmp .ne 12, 3) := by decide +kernel
theorem dL_law_99 : decode cL_law 99 = .ok (.aload_n 1, 1) := by decide +kernel
theorem dL_law_100 : decode cL_law 100 = .ok (.iconst 5, 1) := by decide +kernel
theorem dL_law_101 : decode cL_law 101 = .ok (.iconst 5, 1) := by decide +kernel
theorem dL_law_102 : decode cL_law 102 = .ok (.invokestatic 196, 3) := by decide +kernel
theorem dL_law_105 : decode cL_law 105 = .ok (.ifCond .eq 5, 3) := by decide +kernel
theorem dL_law_108 : decode cL_law 108 = .ok (.iconst 0, 1) := by decide +kernel
theorem dL_law_109 : decode cL_law 109 = .ok (.ireturn, 1) := by decide +kernel
theorem dL_law_110 : decode cL_law 110 = .ok (.aload_n 1, 1) := by decide +kernel
theorem dL_law_111 : decode cL_law 111 = .ok (.iconst 0, 1) := by decide +kernel
theorem dL_law_112 : decode cL_law 112 = .ok (.iconst 0, 1) := by decide +kernel
theorem dL_law_113 : decode cL_law 113 = .ok (.invokestatic 213, 3) := by decide +kernel
theorem dL_law_116 : decode cL_law 116 = .ok (.ifCond .ne 185, 3) := by decide +kernel
theorem dL_law_119 : decode cL_law 119 = .ok (.aload_n 1, 1) := by decide +kernel
theorem dL_law_120 : decode cL_law 120 = .ok (.iconst 4, 1) := by decide +kernel
theorem dL_law_121 : decode cL_law 121 = .ok (.iconst 0, 1) := by decide +kernel
theorem dL_law_122 : decode cL_law 122 = .ok (.invokestatic 213, 3) := by decide +kernel
theorem dL_law_125 : decode cL_law 125 = .ok (.iconst 1, 1) := by decide +kernel
theorem dL_law_126 : decode cL_law 126 = .ok (.if_icmp .ne 175, 3) := by decide +kernel
theorem dL_law_129 : decode cL_law 129 = .ok (.aload_n 1, 1) := by decide +kernel
theorem dL_law_130 : decode cL_law 130 = .ok (.invokevirtual 165, 3) := by decide +kernel
theorem dL_law_133 : decode cL_law 133 = .ok (.iconst 1, 1) := by decide +kernel
theorem dL_law_134 : decode cL_law 134 = .ok (.if_icmp .ne 167, 3) := by decide +kernel
theorem dL_law_137 : decode cL_law 137 = .ok (.aload_n 1, 1) := by decide +kernel
theorem dL_law_138 : decode cL_law 138 = .ok (.iconst 4, 1) := by decide +kernel
theorem dL_law_139 : decode cL_law 139 = .ok (.iconst 4, 1) := by decide +kernel
theorem dL_law_140 : decode cL_law 140 = .ok (.invokestatic 213, 3) := by decide +kernel
theorem dL_law_143 : decode cL_law 143 = .ok (.iconst 2, 1) := by decide +kernel
theorem dL_law_144 : decode cL_law 144 = .ok (.if_icmp .ne 157, 3) := by decide +kernel
theorem dL_law_147 : decode cL_law 147 = .ok (.aload_n 1, 1) := by decide +kernel
theorem dL_law_148 : decode cL_law 148 = .ok (.invokevirtual 162, 3) := by decide +kernel
theorem dL_law_151 : decode cL_law 151 = .ok (.iconst 1, 1) := by decide +kernel
theorem dL_law_152 : decode cL_law 152 = .ok (.if_icmp .ne 149, 3) := by decide +kernel
theorem dL_law_155 : decode cL_law 155 = .ok (.aload_n 1, 1) := by decide +kernel
theorem dL_law_156 : decode cL_law 156 = .ok (.iconst 0, 1) := by decide +kernel
theorem dL_law_157 : decode cL_law 157 = .ok (.iconst 4, 1) := by decide +kernel
theorem dL_law_158 : decode cL_law 158 = .ok (.invokestatic 213, 3) := by decide +kernel
theorem dL_law_161 : decode cL_law 161 = .ok (.iconst 3, 1) := by decide +kernel
theorem dL_law_162 : decode cL_law 162 = .ok (.if_icmp .ne 139, 3) := by decide +kernel
theorem dL_law_165 : decode cL_law 165 = .ok (.aload_n 1, 1) := by decide +kernel
theorem dL_law_166 : decode cL_law 166 = .ok (.invokevirtual 162, 3) := by decide +kernel
theorem dL_law_169 : decode cL_law 169 = .ok (.iconst 2, 1) := by decide +kernel
theorem dL_law_170 : decode cL_law 170 = .ok (.if_icmp .ne 131, 3) := by decide +kernel
theorem dL_law_173 : decode cL_law 173 = .ok (.aload_n 1, 1) := by decide +kernel
theorem dL_law_174 : decode cL_law 174 = .ok (.iconst 0, 1) := by decide +kernel
theorem dL_law_175 : decode cL_law 175 = .ok (.iconst 2, 1) := by decide +kernel
theorem dL_law_176 : decode cL_law 176 = .ok (.invokestatic 240, 3) := by decide +kernel
theorem dL_law_179 : decode cL_law 179 = .ok (.ifCond .lt 122, 3) := by decide +kernel
theorem dL_law_182 : decode cL_law 182 = .ok (.aload_n 1, 1) := by decide +kernel
theorem dL_law_183 : decode cL_law 183 = .ok (.iconst 1, 1) := by decide +kernel
theorem dL_law_184 : decode cL_law 184 = .ok (.iconst 3, 1) := by decide +kernel
theorem dL_law_185 : decode cL_law 185 = .ok (.invokestatic 240, 3) := by decide +kernel
theorem dL_law_188 : decode cL_law 188 = .ok (.ifCond .ge 113, 3) := by decide +kernel
theorem dL_law_191 : decode cL_law 191 = .ok (.aload_n 1, 1) := by decide +kernel
theorem dL_law_192 : decode cL_law 192 = .ok (.invokevirtual 168, 3) := by decide +kernel
theorem dL_law_195 : decode cL_law 195 = .ok (.iconst 4, 1) := by decide +kernel
theorem dL_law_196 : decode cL_law 196 = .ok (.if_icmp .ne 105, 3) := by decide +kernel
theorem dL_law_199 : decode cL_law 199 = .ok (.aload_n 1, 1) := by decide +kernel
theorem dL_law_200 : decode cL_law 200 = .ok (.iconst 1, 1) := by decide +kernel
theorem dL_law_201 : decode cL_law 201 = .ok (.iconst 3, 1) := by decide +kernel
theorem dL_law_202 : decode cL_law 202 = .ok (.invokestatic 223, 3) := by decide +kernel
theorem dL_law_205 : decode cL_law 205 = .ok (.ifCond .ne 96, 3) := by decide +kernel
theorem dL_law_208 : decode cL_law 208 = .ok (.aload_n 1, 1) := by decide +kernel
theorem dL_law_209 : decode cL_law 209 = .ok (.iconst 1, 1) := by decide +kernel
theorem dL_law_210 : decode cL_law 210 = .ok (.iconst 3, 1) := by decide +kernel
theorem dL_law_211 : decode cL_law 211 = .ok (.invokestatic 240, 3) := by decide +kernel
theorem dL_law_214 : decode cL_law 214 = .ok (.ifCond .lt 87, 3) := by decide +kernel
theorem dL_law_217 : decode cL_law 217 = .ok (.aload_n 1, 1) := by decide +kernel
theorem dL_law_218 : decode cL_law 218 = .ok (.invokevirtual 201, 3) := by decide +kernel
theorem dL_law_221 : decode cL_law 221 = .ok (.iconst 1, 1) := by decide +kernel
theorem dL_law_222 : decode cL_law 222 = .ok (.if_icmp .ne 79, 3) := by decide +kernel
theorem dL_law_225 : decode cL_law 225 = .ok (.aload_n 1, 1) := by decide +kernel
theorem dL_law_226 : decode cL_law 226 = .ok (.iconst 0, 1) := by decide +kernel
theorem dL_law_227 : decode cL_law 227 = .ok (.invokestatic 191, 3) := by decide +kernel
theorem dL_law_230 : decode cL_law 230 = .ok (.iconst 1, 1) := by decide +kernel
theorem dL_law_231 : decode cL_law 231 = .ok (.if_icmp .ne 70, 3) := by decide +kernel
theorem dL_law_234 : decode cL_law 234 = .ok (.aload_n 1, 1) := by decide +kernel
theorem dL_law_235 : decode cL_law 235 = .ok (.iconst 2, 1) := by decide +kernel
theorem dL_law_236 : decode cL_law 236 = .ok (.iconst 2, 1) := by decide +kernel
theorem dL_law_237 : decode cL_law 237 = .ok (.invokestatic 213, 3) := by decide +kernel
theorem dL_law_240 : decode cL_law 240 = .ok (.sipush (-1003), 3) := by decide +kernel
theorem dL_law_243 : decode cL_law 243 = .ok (.if_icmp .ne 58, 3) := by decide +kernel
theorem dL_law_246 : decode cL_law 246 = .ok (.aload_n 1, 1) := by decide +kernel
theorem dL_law_247 : decode cL_law 247 = .ok (.iconst 0, 1) := by decide +kernel
theorem dL_law_248 : decode cL_law 248 = .ok (.invokestatic 234, 3) := by decide +kernel
theorem dL_law_251 : decode cL_law 251 = .ok (.ifCond .ne 50, 3) := by decide +kernel
theorem dL_law_254 : decode cL_law 254 = .ok (.aload_n 1, 1) := by decide +kernel
theorem dL_law_255 : decode cL_law 255 = .ok (.iconst 2, 1) := by decide +kernel
theorem dL_law_256 : decode cL_law 256 = .ok (.iconst 2, 1) := by decide +kernel
theorem dL_law_257 : decode cL_law 257 = .ok (.invokestatic 213, 3) := by decide +kernel
theorem dL_law_260 : decode cL_law 260 = .ok (.iconst 4, 1) := by decide +kernel
theorem dL_law_261 : decode cL_law 261 = .ok (.if_icmp .ne 40, 3) := by decide +kernel
theorem dL_law_264 : decode cL_law 264 = .ok (.aload_n 1, 1) := by decide +kernel
theorem dL_law_265 : decode cL_law 265 = .ok (.invokevirtual 162, 3) := by decide +kernel
theorem dL_law_268 : decode cL_law 268 = .ok (.iconst 4, 1) := by decide +kernel
theorem dL_law_269 : decode cL_law 269 = .ok (.if_icmp .ne 32, 3) := by decide +kernel
theorem dL_law_272 : decode cL_law 272 = .ok (.aload_n 1, 1) := by decide +kernel
theorem dL_law_273 : decode cL_law 273 = .ok (.iconst 2, 1) := by decide +kernel
theorem dL_law_274 : decode cL_law 274 = .ok (.invokestatic 193, 3) := by decide +kernel
theorem dL_law_277 : decode cL_law 277 = .ok (.bipush 32, 2) := by decide +kernel
theorem dL_law_279 : decode cL_law 279 = .ok (.if_icmp .ne 22, 3) := by decide +kernel
theorem dL_law_282 : decode cL_law 282 = .ok (.aload_n 1, 1) := by decide +kernel
theorem dL_law_283 : decode cL_law 283 = .ok (.iconst 4, 1) := by decide +kernel
theorem dL_law_284 : decode cL_law 284 = .ok (.invokestatic 186, 3) := by decide +kernel
theorem dL_law_287 : decode cL_law 287 = .ok (.iconst 2, 1) := by decide +kernel
theorem dL_law_288 : decode cL_law 288 = .ok (.if_icmp .ne 13, 3) := by decide +kernel
theorem dL_law_291 : decode cL_law 291 = .ok (.aload_n 1, 1) := by decide +kernel
theorem dL_law_292 : decode cL_law 292 = .ok (.iconst 0, 1) := by decide +kernel
theorem dL_law_293 : decode cL_law 293 = .ok (.iconst 2, 1) := by decide +kernel
theorem dL_law_294 : decode cL_law 294 = .ok (.invokestatic 261, 3) := by decide +kernel
theorem dL_law_297 : decode cL_law 297 = .ok (.iconst 2, 1) := by decide +kernel
theorem dL_law_298 : decode cL_law 298 = .ok (.if_icmp .eq 5, 3) := by decide +kernel
theorem dL_law_301 : decode cL_law 301 = .ok (.iconst 0, 1) := by decide +kernel
theorem dL_law_302 : decode cL_law 302 = .ok (.ireturn, 1) := by decide +kernel
theorem dL_law_303 : decode cL_law 303 = .ok (.new 8, 3) := by decide +kernel
theorem dL_law_306 : decode cL_law 306 = .ok (.dup, 1) := by decide +kernel
theorem dL_law_307 : decode cL_law 307 = .ok (.invokespecial 263, 3) := by decide +kernel
theorem dL_law_310 : decode cL_law 310 = .ok (.astore_n 2, 1) := by decide +kernel
theorem dL_law_311 : decode cL_law 311 = .ok (.bipush 20, 2) := by decide +kernel
theorem dL_law_313 : decode cL_law 313 = .ok (.newarray .long, 2) := by decide +kernel
theorem dL_law_315 : decode cL_law 315 = .ok (.astore_n 3, 1) := by decide +kernel
theorem dL_law_316 : decode cL_law 316 = .ok (.iconst 0, 1) := by decide +kernel
theorem dL_law_317 : decode cL_law 317 = .ok (.istore 4, 2) := by decide +kernel
theorem dL_law_319 : decode cL_law 319 = .ok (.iconst 0, 1) := by decide +kernel
theorem dL_law_320 : decode cL_law 320 = .ok (.istore 5, 2) := by decide +kernel
theorem dL_law_322 : decode cL_law 322 = .ok (.iload 5, 2) := by decide +kernel
theorem dL_law_324 : decode cL_law 324 = .ok (.bipush 18, 2) := by decide +kernel
theorem dL_law_326 : decode cL_law 326 = .ok (.if_icmp .ge 71, 3) := by decide +kernel
theorem dL_law_329 : decode cL_law 329 = .ok (.aload_n 2, 1) := by decide +kernel
theorem dL_law_330 : decode cL_law 330 = .ok (.invokestatic 158, 3) := by decide +kernel
theorem dL_law_333 : decode cL_law 333 = .ok (.lstore 6, 2) := by decide +kernel
theorem dL_law_335 : decode cL_law 335 = .ok (.aload_n 2, 1) := by decide +kernel
theorem dL_law_336 : decode cL_law 336 = .ok (.aload_n 0, 1) := by decide +kernel
theorem dL_law_337 : decode cL_law 337 = .ok (.iload 5, 2) := by decide +kernel
theorem dL_law_339 : decode cL_law 339 = .ok (.invokestatic 269, 3) := by decide +kernel
theorem dL_law_342 : decode cL_law 342 = .ok (.iload 5, 2) := by decide +kernel
theorem dL_law_344 : decode cL_law 344 = .ok (.sipush 15731, 3) := by decide +kernel
theorem dL_law_347 : decode cL_law 347 = .ok (.imul, 1) := by decide +kernel
theorem dL_law_348 : decode cL_law 348 = .ok (.ixor, 1) := by decide +kernel
theorem dL_law_349 : decode cL_law 349 = .ok (.invokestatic 273, 3) := by decide +kernel
theorem dL_law_352 : decode cL_law 352 = .ok (.istore 8, 2) := by decide +kernel
theorem dL_law_354 : decode cL_law 354 = .ok (.iload 8, 2) := by decide +kernel
theorem dL_law_356 : decode cL_law 356 = .ok (.ifCond .lt 18, 3) := by decide +kernel
theorem dL_law_359 : decode cL_law 359 = .ok (.iload 8, 2) := by decide +kernel
theorem dL_law_361 : decode cL_law 361 = .ok (.ifCond .ne 15, 3) := by decide +kernel
theorem dL_law_364 : decode cL_law 364 = .ok (.aload_n 2, 1) := by decide +kernel
theorem dL_law_365 : decode cL_law 365 = .ok (.invokestatic 158, 3) := by decide +kernel
theorem dL_law_368 : decode cL_law 368 = .ok (.lload 6, 2) := by decide +kernel
theorem dL_law_370 : decode cL_law 370 = .ok (.lcmp, 1) := by decide +kernel
theorem dL_law_371 : decode cL_law 371 = .ok (.ifCond .eq 5, 3) := by decide +kernel
theorem dL_law_374 : decode cL_law 374 = .ok (.iconst 0, 1) := by decide +kernel
theorem dL_law_375 : decode cL_law 375 = .ok (.ireturn, 1) := by decide +kernel
theorem dL_law_376 : decode cL_law 376 = .ok (.iload 8, 2) := by decide +kernel
theorem dL_law_378 : decode cL_law 378 = .ok (.iconst 1, 1) := by decide +kernel
theorem dL_law_379 : decode cL_law 379 = .ok (.if_icmp .ne 12, 3) := by decide +kernel
theorem dL_law_382 : decode cL_law 382 = .ok (.aload_n 3, 1) := by decide +kernel
theorem dL_law_383 : decode cL_law 383 = .ok (.iload 4, 2) := by decide +kernel
theorem dL_law_385 : decode cL_law 385 = .ok (.iinc 4 1, 3) := by decide +kernel
theorem dL_law_388 : decode cL_law 388 = .ok (.lload 6, 2) := by decide +kernel
theorem dL_law_390 : decode cL_law 390 = .ok (.lastore, 1) := by decide +kernel
theorem dL_law_391 : decode cL_law 391 = .ok (.iinc 5 1, 3) := by decide +kernel
theorem dL_law_394 : decode cL_law 394 = .ok (.goto (-72), 3) := by decide +kernel
theorem dL_law_397 : decode cL_law 397 = .ok (.aload_n 2, 1) := by decide +kernel
theorem dL_law_398 : decode cL_law 398 = .ok (.invokestatic 237, 3) := by decide +kernel
theorem dL_law_401 : decode cL_law 401 = .ok (.lstore 5, 2) := by decide +kernel
theorem dL_law_403 : decode cL_law 403 = .ok (.aload_n 2, 1) := by decide +kernel
theorem dL_law_404 : decode cL_law 404 = .ok (.invokestatic 237, 3) := by decide +kernel
theorem dL_law_407 : decode cL_law 407 = .ok (.lload 5, 2) := by decide +kernel
theorem dL_law_409 : decode cL_law 409 = .ok (.lcmp, 1) := by decide +kernel
theorem dL_law_410 : decode cL_law 410 = .ok (.ifCond .ne 31, 3) := by decide +kernel
theorem dL_law_413 : decode cL_law 413 = .ok (.aload_n 2, 1) := by decide +kernel
theorem dL_law_414 : decode cL_law 414 = .ok (.invokestatic 276, 3) := by decide +kernel
theorem dL_law_417 : decode cL_law 417 = .ok (.ifCond .eq 24, 3) := by decide +kernel
theorem dL_law_420 : decode cL_law 420 = .ok (.aload_n 2, 1) := by decide +kernel
theorem dL_law_421 : decode cL_law 421 = .ok (.invokestatic 237, 3) := by decide +kernel
theorem dL_law_424 : decode cL_law 424 = .ok (.lload 5, 2) := by decide +kernel
theorem dL_law_426 : decode cL_law 426 = .ok (.lcmp, 1) := by decide +kernel
theorem dL_law_427 : decode cL_law 427 = .ok (.ifCond .ne 14, 3) := by decide +kernel
theorem dL_law_430 : decode cL_law 430 = .ok (.aload_n 2, 1) := by decide +kernel
theorem dL_law_431 : decode cL_law 431 = .ok (.invokevirtual 280, 3) := by decide +kernel
theorem dL_law_434 : decode cL_law 434 = .ok (.aload_n 2, 1) := by decide +kernel
theorem dL_law_435 : decode cL_law 435 = .ok (.invokevirtual 146, 3) := by decide +kernel
theorem dL_law_438 : decode cL_law 438 = .ok (.if_icmp .eq 5, 3) := by decide +kernel
theorem dL_law_441 : decode cL_law 441 = .ok (.iconst 0, 1) := by decide +kernel
theorem dL_law_442 : decode cL_law 442 = .ok (.ireturn, 1) := by decide +kernel
theorem dL_law_443 : decode cL_law 443 = .ok (.bipush 12, 2) := by decide +kernel
theorem dL_law_445 : decode cL_law 445 = .ok (.iload 4, 2) := by decide +kernel
theorem dL_law_447 : decode cL_law 447 = .ok (.invokestatic 226, 3) := by decide +kernel
theorem dL_law_450 : decode cL_law 450 = .ok (.istore 7, 2) := by decide +kernel
theorem dL_law_452 : decode cL_law 452 = .ok (.iconst 1, 1) := by decide +kernel
theorem dL_law_453 : decode cL_law 453 = .ok (.istore 8, 2) := by decide +kernel
theorem dL_law_455 : decode cL_law 455 = .ok (.iload 8, 2) := by decide +kernel
theorem dL_law_457 : decode cL_law 457 = .ok (.iload 7, 2) := by decide +kernel
theorem dL_law_459 : decode cL_law 459 = .ok (.if_icmp .gt 38, 3) := by decide +kernel
theorem dL_law_462 : decode cL_law 462 = .ok (.aload_n 2, 1) := by decide +kernel
theorem dL_law_463 : decode cL_law 463 = .ok (.invokestatic 264, 3) := by decide +kernel
theorem dL_law_466 : decode cL_law 466 = .ok (.iload 7, 2) := by decide +kernel
theorem dL_law_468 : decode cL_law 468 = .ok (.iload 8, 2) := by decide +kernel
theorem dL_law_470 : decode cL_law 470 = .ok (.isub, 1) := by decide +kernel
theorem dL_law_471 : decode cL_law 471 = .ok (.if_icmp .ne 18, 3) := by decide +kernel
theorem dL_law_474 : decode cL_law 474 = .ok (.aload_n 2, 1) := by decide +kernel
theorem dL_law_475 : decode cL_law 475 = .ok (.invokestatic 158, 3) := by decide +kernel
theorem dL_law_478 : decode cL_law 478 = .ok (.aload_n 3, 1) := by decide +kernel
theorem dL_law_479 : decode cL_law 479 = .ok (.iload 4, 2) := by decide +kernel
theorem dL_law_481 : decode cL_law 481 = .ok (.iload 8, 2) := by decide +kernel
theorem dL_law_483 : decode cL_law 483 = .ok (.isub, 1) := by decide +kernel
theorem dL_law_484 : decode cL_law 484 = .ok (.laload, 1) := by decide +kernel
theorem dL_law_485 : decode cL_law 485 = .ok (.lcmp, 1) := by decide +kernel
theorem dL_law_486 : decode cL_law 486 = .ok (.ifCond .eq 5, 3) := by decide +kernel
theorem dL_law_489 : decode cL_law 489 = .ok (.iconst 0, 1) := by decide +kernel
theorem dL_law_490 : decode cL_law 490 = .ok (.ireturn, 1) := by decide +kernel
theorem dL_law_491 : decode cL_law 491 = .ok (.iinc 8 1, 3) := by decide +kernel
theorem dL_law_494 : decode cL_law 494 = .ok (.goto (-39), 3) := by decide +kernel
theorem dL_law_497 : decode cL_law 497 = .ok (.aload_n 2, 1) := by decide +kernel
theorem dL_law_498 : decode cL_law 498 = .ok (.invokestatic 264, 3) := by decide +kernel
theorem dL_law_501 : decode cL_law 501 = .ok (.sipush (-1001), 3) := by decide +kernel
theorem dL_law_504 : decode cL_law 504 = .ok (.if_icmp .ne 34, 3) := by decide +kernel
theorem dL_law_507 : decode cL_law 507 = .ok (.aload_n 2, 1) := by decide +kernel
theorem dL_law_508 : decode cL_law 508 = .ok (.invokestatic 267, 3) := by decide +kernel
theorem dL_law_511 : decode cL_law 511 = .ok (.aload_n 2, 1) := by decide +kernel
theorem dL_law_512 : decode cL_law 512 = .ok (.invokevirtual 146, 3) := by decide +kernel
theorem dL_law_515 : decode cL_law 515 = .ok (.if_icmp .ne 23, 3) := by decide +kernel
theorem dL_law_518 : decode cL_law 518 = .ok (.aload_n 2, 1) := by decide +kernel
theorem dL_law_519 : decode cL_law 519 = .ok (.invokestatic 237, 3) := by decide +kernel
theorem dL_law_522 : decode cL_law 522 = .ok (.lload 5, 2) := by decide +kernel
theorem dL_law_524 : decode cL_law 524 = .ok (.lcmp, 1) := by decide +kernel
theorem dL_law_525 : decode cL_law 525 = .ok (.ifCond .ne 13, 3) := by decide +kernel
theorem dL_law_528 : decode cL_law 528 = .ok (.aload_n 2, 1) := by decide +kernel
theorem dL_law_529 : decode cL_law 529 = .ok (.invokestatic 264, 3) := by decide +kernel
theorem dL_law_532 : decode cL_law 532 = .ok (.sipush (-1001), 3) := by decide +kernel
theorem dL_law_535 : decode cL_law 535 = .ok (.if_icmp .eq 5, 3) := by decide +kernel
theorem dL_law_538 : decode cL_law 538 = .ok (.iconst 0, 1) := by decide +kernel
theorem dL_law_539 : decode cL_law 539 = .ok (.ireturn, 1) := by decide +kernel
theorem dL_law_540 : decode cL_law 540 = .ok (.iconst 0, 1) := by decide +kernel
theorem dL_law_541 : decode cL_law 541 = .ok (.istore 8, 2) := by decide +kernel
theorem dL_law_543 : decode cL_law 543 = .ok (.iload 8, 2) := by decide +kernel
theorem dL_law_545 : decode cL_law 545 = .ok (.iconst 3, 1) := by decide +kernel
theorem dL_law_546 : decode cL_law 546 = .ok (.if_icmp .ge 27, 3) := by decide +kernel
theorem dL_law_549 : decode cL_law 549 = .ok (.aload_n 2, 1) := by decide +kernel
theorem dL_law_550 : decode cL_law 550 = .ok (.aload_n 0, 1) := by decide +kernel
theorem dL_law_551 : decode cL_law 551 = .ok (.bipush 18, 2) := by decide +kernel
theorem dL_law_553 : decode cL_law 553 = .ok (.iload 8, 2) := by decide +kernel
theorem dL_law_555 : decode cL_law 555 = .ok (.iadd, 1) := by decide +kernel
theorem dL_law_556 : decode cL_law 556 = .ok (.invokestatic 269, 3) := by decide +kernel
theorem dL_law_559 : decode cL_law 559 = .ok (.invokestatic 273, 3) := by decide +kernel
theorem dL_law_562 : decode cL_law 562 = .ok (.ifCond .ge 5, 3) := by decide +kernel
theorem dL_law_565 : decode cL_law 565 = .ok (.iconst 0, 1) := by decide +kernel
theorem dL_law_566 : decode cL_law 566 = .ok (.ireturn, 1) := by decide +kernel
theorem dL_law_567 : decode cL_law 567 = .ok (.iinc 8 1, 3) := by decide +kernel
theorem dL_law_570 : decode cL_law 570 = .ok (.goto (-27), 3) := by decide +kernel
theorem dL_law_573 : decode cL_law 573 = .ok (.aload_n 2, 1) := by decide +kernel
theorem dL_law_574 : decode cL_law 574 = .ok (.invokestatic 267, 3) := by decide +kernel
theorem dL_law_577 : decode cL_law 577 = .ok (.aload_n 2, 1) := by decide +kernel
theorem dL_law_578 : decode cL_law 578 = .ok (.invokevirtual 146, 3) := by decide +kernel
theorem dL_law_581 : decode cL_law 581 = .ok (.if_icmp .ne 17, 3) := by decide +kernel
theorem dL_law_584 : decode cL_law 584 = .ok (.aload_n 2, 1) := by decide +kernel
theorem dL_law_585 : decode cL_law 585 = .ok (.invokestatic 237, 3) := by decide +kernel
theorem dL_law_588 : decode cL_law 588 = .ok (.lload 5, 2) := by decide +kernel
theorem dL_law_590 : decode cL_law 590 = .ok (.lcmp, 1) := by decide +kernel
theorem dL_law_591 : decode cL_law 591 = .ok (.ifCond .ne 7, 3) := by decide +kernel
theorem dL_law_594 : decode cL_law 594 = .ok (.iconst 1, 1) := by decide +kernel
theorem dL_law_595 : decode cL_law 595 = .ok (.goto 4, 3) := by decide +kernel
theorem dL_law_598 : decode cL_law 598 = .ok (.iconst 0, 1) := by decide +kernel
theorem dL_law_599 : decode cL_law 599 = .ok (.ireturn, 1) := by decide +kernel
