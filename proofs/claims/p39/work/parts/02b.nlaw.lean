theorem dL_cell_0 : decode cL_cell 0 = .ok (.iload_n 1, 1) := by decide +kernel
theorem dL_cell_1 : decode cL_cell 1 = .ok (.aload_n 0, 1) := by decide +kernel
theorem dL_cell_2 : decode cL_cell 2 = .ok (.arraylength, 1) := by decide +kernel
theorem dL_cell_3 : decode cL_cell 3 = .ok (.if_icmp .ge 9, 3) := by decide +kernel
theorem dL_cell_6 : decode cL_cell 6 = .ok (.aload_n 0, 1) := by decide +kernel
theorem dL_cell_7 : decode cL_cell 7 = .ok (.iload_n 1, 1) := by decide +kernel
theorem dL_cell_8 : decode cL_cell 8 = .ok (.iaload, 1) := by decide +kernel
theorem dL_cell_9 : decode cL_cell 9 = .ok (.goto 7, 3) := by decide +kernel
theorem dL_cell_12 : decode cL_cell 12 = .ok (.ldc 7, 2) := by decide +kernel
theorem dL_cell_14 : decode cL_cell 14 = .ok (.iload_n 1, 1) := by decide +kernel
theorem dL_cell_15 : decode cL_cell 15 = .ok (.imul, 1) := by decide +kernel
theorem dL_cell_16 : decode cL_cell 16 = .ok (.ireturn, 1) := by decide +kernel
theorem dL_set_0 : decode cL_set 0 = .ok (.aload_n 0, 1) := by decide +kernel
theorem dL_set_1 : decode cL_set 1 = .ok (.iload_n 1, 1) := by decide +kernel
theorem dL_set_2 : decode cL_set 2 = .ok (.iload_n 2, 1) := by decide +kernel
theorem dL_set_3 : decode cL_set 3 = .ok (.invokevirtual 8, 3) := by decide +kernel
theorem dL_set_6 : decode cL_set 6 = .ok (.ireturn, 1) := by decide +kernel
theorem dL_set_7 : decode cL_set 7 = .ok (.astore_n 3, 1) := by decide +kernel
theorem dL_set_8 : decode cL_set 8 = .ok (.bipush (-101), 2) := by decide +kernel
theorem dL_set_10 : decode cL_set 10 = .ok (.ireturn, 1) := by decide +kernel
theorem dL_drill_0 : decode cL_drill 0 = .ok (.aload_n 0, 1) := by decide +kernel
theorem dL_drill_1 : decode cL_drill 1 = .ok (.iload_n 1, 1) := by decide +kernel
theorem dL_drill_2 : decode cL_drill 2 = .ok (.invokevirtual 16, 3) := by decide +kernel
theorem dL_drill_5 : decode cL_drill 5 = .ok (.ireturn, 1) := by decide +kernel
theorem dL_drill_6 : decode cL_drill 6 = .ok (.astore_n 2, 1) := by decide +kernel
theorem dL_drill_7 : decode cL_drill 7 = .ok (.iconst (-1), 1) := by decide +kernel
theorem dL_drill_8 : decode cL_drill 8 = .ok (.ireturn, 1) := by decide +kernel
theorem dL_drilled_0 : decode cL_drilled 0 = .ok (.aload_n 0, 1) := by decide +kernel
theorem dL_drilled_1 : decode cL_drilled 1 = .ok (.iload_n 1, 1) := by decide +kernel
theorem dL_drilled_2 : decode cL_drilled 2 = .ok (.invokevirtual 22, 3) := by decide +kernel
theorem dL_drilled_5 : decode cL_drilled 5 = .ok (.ireturn, 1) := by decide +kernel
theorem dL_drilled_6 : decode cL_drilled 6 = .ok (.astore_n 2, 1) := by decide +kernel
theorem dL_drilled_7 : decode cL_drilled 7 = .ok (.bipush (-11), 2) := by decide +kernel
theorem dL_drilled_9 : decode cL_drilled 9 = .ok (.ireturn, 1) := by decide +kernel
theorem dL_drilled_10 : decode cL_drilled 10 = .ok (.astore_n 2, 1) := by decide +kernel
theorem dL_drilled_11 : decode cL_drilled 11 = .ok (.bipush (-13), 2) := by decide +kernel
theorem dL_drilled_13 : decode cL_drilled 13 = .ok (.ireturn, 1) := by decide +kernel
theorem dL_mileOf_0 : decode cL_mileOf 0 = .ok (.aload_n 0, 1) := by decide +kernel
theorem dL_mileOf_1 : decode cL_mileOf 1 = .ok (.iload_n 1, 1) := by decide +kernel
theorem dL_mileOf_2 : decode cL_mileOf 2 = .ok (.iload_n 2, 1) := by decide +kernel
theorem dL_mileOf_3 : decode cL_mileOf 3 = .ok (.invokevirtual 27, 3) := by decide +kernel
theorem dL_mileOf_6 : decode cL_mileOf 6 = .ok (.ireturn, 1) := by decide +kernel
theorem dL_mileOf_7 : decode cL_mileOf 7 = .ok (.astore_n 3, 1) := by decide +kernel
theorem dL_mileOf_8 : decode cL_mileOf 8 = .ok (.bipush (-11), 2) := by decide +kernel
theorem dL_mileOf_10 : decode cL_mileOf 10 = .ok (.ireturn, 1) := by decide +kernel
theorem dL_mileOf_11 : decode cL_mileOf 11 = .ok (.astore_n 3, 1) := by decide +kernel
theorem dL_mileOf_12 : decode cL_mileOf 12 = .ok (.bipush (-12), 2) := by decide +kernel
theorem dL_mileOf_14 : decode cL_mileOf 14 = .ok (.ireturn, 1) := by decide +kernel
theorem dL_truck_0 : decode cL_truck 0 = .ok (.aload_n 0, 1) := by decide +kernel
theorem dL_truck_1 : decode cL_truck 1 = .ok (.iload_n 1, 1) := by decide +kernel
theorem dL_truck_2 : decode cL_truck 2 = .ok (.iload_n 2, 1) := by decide +kernel
theorem dL_truck_3 : decode cL_truck 3 = .ok (.iload_n 3, 1) := by decide +kernel
theorem dL_truck_4 : decode cL_truck 4 = .ok (.iload 4, 2) := by decide +kernel
theorem dL_truck_6 : decode cL_truck 6 = .ok (.invokevirtual 30, 3) := by decide +kernel
theorem dL_truck_9 : decode cL_truck 9 = .ok (.ireturn, 1) := by decide +kernel
theorem dL_truck_10 : decode cL_truck 10 = .ok (.astore 5, 2) := by decide +kernel
theorem dL_truck_12 : decode cL_truck 12 = .ok (.iconst (-1), 1) := by decide +kernel
theorem dL_truck_13 : decode cL_truck 13 = .ok (.ireturn, 1) := by decide +kernel
theorem dL_truck_14 : decode cL_truck 14 = .ok (.astore 5, 2) := by decide +kernel
theorem dL_truck_16 : decode cL_truck 16 = .ok (.bipush (-2), 2) := by decide +kernel
theorem dL_truck_18 : decode cL_truck 18 = .ok (.ireturn, 1) := by decide +kernel
theorem dL_truck_19 : decode cL_truck 19 = .ok (.astore 5, 2) := by decide +kernel
theorem dL_truck_21 : decode cL_truck 21 = .ok (.bipush (-3), 2) := by decide +kernel
theorem dL_truck_23 : decode cL_truck 23 = .ok (.ireturn, 1) := by decide +kernel
theorem dL_inRow_0 : decode cL_inRow 0 = .ok (.aload_n 0, 1) := by decide +kernel
theorem dL_inRow_1 : decode cL_inRow 1 = .ok (.iload_n 1, 1) := by decide +kernel
theorem dL_inRow_2 : decode cL_inRow 2 = .ok (.iload_n 2, 1) := by decide +kernel
theorem dL_inRow_3 : decode cL_inRow 3 = .ok (.iload_n 3, 1) := by decide +kernel
theorem dL_inRow_4 : decode cL_inRow 4 = .ok (.invokevirtual 36, 3) := by decide +kernel
theorem dL_inRow_7 : decode cL_inRow 7 = .ok (.ireturn, 1) := by decide +kernel
theorem dL_inRow_8 : decode cL_inRow 8 = .ok (.astore 4, 2) := by decide +kernel
theorem dL_inRow_10 : decode cL_inRow 10 = .ok (.bipush (-11), 2) := by decide +kernel
theorem dL_inRow_12 : decode cL_inRow 12 = .ok (.ireturn, 1) := by decide +kernel
theorem dL_inRow_13 : decode cL_inRow 13 = .ok (.astore 4, 2) := by decide +kernel
theorem dL_inRow_15 : decode cL_inRow 15 = .ok (.bipush (-13), 2) := by decide +kernel
theorem dL_inRow_17 : decode cL_inRow 17 = .ok (.ireturn, 1) := by decide +kernel
theorem dL_inRow_18 : decode cL_inRow 18 = .ok (.astore 4, 2) := by decide +kernel
theorem dL_inRow_20 : decode cL_inRow 20 = .ok (.bipush (-12), 2) := by decide +kernel
theorem dL_inRow_22 : decode cL_inRow 22 = .ok (.ireturn, 1) := by decide +kernel
theorem dL_convoy_0 : decode cL_convoy 0 = .ok (.aload_n 0, 1) := by decide +kernel
theorem dL_convoy_1 : decode cL_convoy 1 = .ok (.iload_n 1, 1) := by decide +kernel
theorem dL_convoy_2 : decode cL_convoy 2 = .ok (.invokevirtual 40, 3) := by decide +kernel
theorem dL_convoy_5 : decode cL_convoy 5 = .ok (.ireturn, 1) := by decide +kernel
theorem dL_convoy_6 : decode cL_convoy 6 = .ok (.astore_n 2, 1) := by decide +kernel
theorem dL_convoy_7 : decode cL_convoy 7 = .ok (.iconst (-1), 1) := by decide +kernel
theorem dL_convoy_8 : decode cL_convoy 8 = .ok (.ireturn, 1) := by decide +kernel
theorem dL_convoy_9 : decode cL_convoy 9 = .ok (.astore_n 2, 1) := by decide +kernel
theorem dL_convoy_10 : decode cL_convoy 10 = .ok (.bipush (-2), 2) := by decide +kernel
theorem dL_convoy_12 : decode cL_convoy 12 = .ok (.ireturn, 1) := by decide +kernel
theorem dL_join_0 : decode cL_join 0 = .ok (.aload_n 0, 1) := by decide +kernel
theorem dL_join_1 : decode cL_join 1 = .ok (.iload_n 1, 1) := by decide +kernel
theorem dL_join_2 : decode cL_join 2 = .ok (.iload_n 2, 1) := by decide +kernel
theorem dL_join_3 : decode cL_join 3 = .ok (.iload_n 3, 1) := by decide +kernel
theorem dL_join_4 : decode cL_join 4 = .ok (.invokevirtual 43, 3) := by decide +kernel
theorem dL_join_7 : decode cL_join 7 = .ok (.ireturn, 1) := by decide +kernel
theorem dL_join_8 : decode cL_join 8 = .ok (.astore 4, 2) := by decide +kernel
theorem dL_join_10 : decode cL_join 10 = .ok (.iconst (-1), 1) := by decide +kernel
theorem dL_join_11 : decode cL_join 11 = .ok (.ireturn, 1) := by decide +kernel
theorem dL_join_12 : decode cL_join 12 = .ok (.astore 4, 2) := by decide +kernel
theorem dL_join_14 : decode cL_join 14 = .ok (.bipush (-2), 2) := by decide +kernel
theorem dL_join_16 : decode cL_join 16 = .ok (.ireturn, 1) := by decide +kernel
theorem dL_join_17 : decode cL_join 17 = .ok (.astore 4, 2) := by decide +kernel
theorem dL_join_19 : decode cL_join 19 = .ok (.bipush (-3), 2) := by decide +kernel
theorem dL_join_21 : decode cL_join 21 = .ok (.ireturn, 1) := by decide +kernel
theorem dL_start_0 : decode cL_start 0 = .ok (.aload_n 0, 1) := by decide +kernel
theorem dL_start_1 : decode cL_start 1 = .ok (.iload_n 1, 1) := by decide +kernel
theorem dL_start_2 : decode cL_start 2 = .ok (.invokevirtual 46, 3) := by decide +kernel
theorem dL_start_5 : decode cL_start 5 = .ok (.ireturn, 1) := by decide +kernel
theorem dL_start_6 : decode cL_start 6 = .ok (.astore_n 2, 1) := by decide +kernel
theorem dL_start_7 : decode cL_start 7 = .ok (.iconst (-1), 1) := by decide +kernel
theorem dL_start_8 : decode cL_start 8 = .ok (.ireturn, 1) := by decide +kernel
theorem dL_start_9 : decode cL_start 9 = .ok (.astore_n 2, 1) := by decide +kernel
theorem dL_start_10 : decode cL_start 10 = .ok (.bipush (-2), 2) := by decide +kernel
theorem dL_start_12 : decode cL_start 12 = .ok (.ireturn, 1) := by decide +kernel
theorem dL_roll_0 : decode cL_roll 0 = .ok (.aload_n 0, 1) := by decide +kernel
theorem dL_roll_1 : decode cL_roll 1 = .ok (.iload_n 1, 1) := by decide +kernel
theorem dL_roll_2 : decode cL_roll 2 = .ok (.invokevirtual 49, 3) := by decide +kernel
theorem dL_roll_5 : decode cL_roll 5 = .ok (.ireturn, 1) := by decide +kernel
theorem dL_roll_6 : decode cL_roll 6 = .ok (.astore_n 2, 1) := by decide +kernel
theorem dL_roll_7 : decode cL_roll 7 = .ok (.iconst (-1), 1) := by decide +kernel
theorem dL_roll_8 : decode cL_roll 8 = .ok (.ireturn, 1) := by decide +kernel
theorem dL_roll_9 : decode cL_roll 9 = .ok (.astore_n 2, 1) := by decide +kernel
theorem dL_roll_10 : decode cL_roll 10 = .ok (.bipush (-2), 2) := by decide +kernel
theorem dL_roll_12 : decode cL_roll 12 = .ok (.ireturn, 1) := by decide +kernel
theorem dL_why_0 : decode cL_why 0 = .ok (.aload_n 0, 1) := by decide +kernel
theorem dL_why_1 : decode cL_why 1 = .ok (.iload_n 1, 1) := by decide +kernel
theorem dL_why_2 : decode cL_why 2 = .ok (.iload_n 2, 1) := by decide +kernel
theorem dL_why_3 : decode cL_why 3 = .ok (.invokevirtual 52, 3) := by decide +kernel
theorem dL_why_6 : decode cL_why 6 = .ok (.ireturn, 1) := by decide +kernel
theorem dL_why_7 : decode cL_why 7 = .ok (.astore_n 3, 1) := by decide +kernel
theorem dL_why_8 : decode cL_why 8 = .ok (.bipush (-11), 2) := by decide +kernel
theorem dL_why_10 : decode cL_why 10 = .ok (.ireturn, 1) := by decide +kernel
theorem dL_convoyOf_0 : decode cL_convoyOf 0 = .ok (.aload_n 0, 1) := by decide +kernel
theorem dL_convoyOf_1 : decode cL_convoyOf 1 = .ok (.iload_n 1, 1) := by decide +kernel
theorem dL_convoyOf_2 : decode cL_convoyOf 2 = .ok (.iload_n 2, 1) := by decide +kernel
theorem dL_convoyOf_3 : decode cL_convoyOf 3 = .ok (.invokevirtual 56, 3) := by decide +kernel
theorem dL_convoyOf_6 : decode cL_convoyOf 6 = .ok (.ireturn, 1) := by decide +kernel
theorem dL_convoyOf_7 : decode cL_convoyOf 7 = .ok (.astore_n 3, 1) := by decide +kernel
theorem dL_convoyOf_8 : decode cL_convoyOf 8 = .ok (.bipush (-11), 2) := by decide +kernel
theorem dL_convoyOf_10 : decode cL_convoyOf 10 = .ok (.ireturn, 1) := by decide +kernel
theorem dL_convoyOf_11 : decode cL_convoyOf 11 = .ok (.astore_n 3, 1) := by decide +kernel
theorem dL_convoyOf_12 : decode cL_convoyOf 12 = .ok (.bipush (-12), 2) := by decide +kernel
theorem dL_convoyOf_14 : decode cL_convoyOf 14 = .ok (.ireturn, 1) := by decide +kernel
theorem dL_truckOf_0 : decode cL_truckOf 0 = .ok (.aload_n 0, 1) := by decide +kernel
theorem dL_truckOf_1 : decode cL_truckOf 1 = .ok (.iload_n 1, 1) := by decide +kernel
theorem dL_truckOf_2 : decode cL_truckOf 2 = .ok (.iload_n 2, 1) := by decide +kernel
theorem dL_truckOf_3 : decode cL_truckOf 3 = .ok (.iload_n 3, 1) := by decide +kernel
theorem dL_truckOf_4 : decode cL_truckOf 4 = .ok (.invokevirtual 59, 3) := by decide +kernel
theorem dL_truckOf_7 : decode cL_truckOf 7 = .ok (.ireturn, 1) := by decide +kernel
theorem dL_truckOf_8 : decode cL_truckOf 8 = .ok (.astore 4, 2) := by decide +kernel
theorem dL_truckOf_10 : decode cL_truckOf 10 = .ok (.bipush (-111), 2) := by decide +kernel
theorem dL_truckOf_12 : decode cL_truckOf 12 = .ok (.ireturn, 1) := by decide +kernel
theorem dL_truckOf_13 : decode cL_truckOf 13 = .ok (.astore 4, 2) := by decide +kernel
theorem dL_truckOf_15 : decode cL_truckOf 15 = .ok (.bipush (-112), 2) := by decide +kernel
theorem dL_truckOf_17 : decode cL_truckOf 17 = .ok (.ireturn, 1) := by decide +kernel
theorem dL_at_0 : decode cL_at 0 = .ok (.aload_n 0, 1) := by decide +kernel
theorem dL_at_1 : decode cL_at 1 = .ok (.iload_n 1, 1) := by decide +kernel
theorem dL_at_2 : decode cL_at 2 = .ok (.invokevirtual 62, 3) := by decide +kernel
theorem dL_at_5 : decode cL_at 5 = .ok (.ireturn, 1) := by decide +kernel
theorem dL_at_6 : decode cL_at 6 = .ok (.astore_n 2, 1) := by decide +kernel
theorem dL_at_7 : decode cL_at 7 = .ok (.bipush (-11), 2) := by decide +kernel
theorem dL_at_9 : decode cL_at 9 = .ok (.ireturn, 1) := by decide +kernel
theorem dL_at_10 : decode cL_at 10 = .ok (.astore_n 2, 1) := by decide +kernel
theorem dL_at_11 : decode cL_at 11 = .ok (.bipush (-13), 2) := by decide +kernel
theorem dL_at_13 : decode cL_at 13 = .ok (.ireturn, 1) := by decide +kernel
theorem dL_rolls_0 : decode cL_rolls 0 = .ok (.iload_n 2, 1) := by decide +kernel
theorem dL_rolls_1 : decode cL_rolls 1 = .ok (.ifCond .eq 11, 3) := by decide +kernel
theorem dL_rolls_4 : decode cL_rolls 4 = .ok (.aload_n 0, 1) := by decide +kernel
theorem dL_rolls_5 : decode cL_rolls 5 = .ok (.iload_n 1, 1) := by decide +kernel
theorem dL_rolls_6 : decode cL_rolls 6 = .ok (.invokevirtual 65, 3) := by decide +kernel
theorem dL_rolls_9 : decode cL_rolls 9 = .ok (.goto 8, 3) := by decide +kernel
theorem dL_rolls_12 : decode cL_rolls 12 = .ok (.aload_n 0, 1) := by decide +kernel
theorem dL_rolls_13 : decode cL_rolls 13 = .ok (.iload_n 1, 1) := by decide +kernel
theorem dL_rolls_14 : decode cL_rolls 14 = .ok (.invokevirtual 68, 3) := by decide +kernel
theorem dL_rolls_17 : decode cL_rolls 17 = .ok (.ireturn, 1) := by decide +kernel
theorem dL_rolls_18 : decode cL_rolls 18 = .ok (.astore_n 3, 1) := by decide +kernel
theorem dL_rolls_19 : decode cL_rolls 19 = .ok (.bipush (-11), 2) := by decide +kernel
theorem dL_rolls_21 : decode cL_rolls 21 = .ok (.ireturn, 1) := by decide +kernel
theorem dL_iceIn_0 : decode cL_iceIn 0 = .ok (.aload_n 0, 1) := by decide +kernel
theorem dL_iceIn_1 : decode cL_iceIn 1 = .ok (.iload_n 1, 1) := by decide +kernel
theorem dL_iceIn_2 : decode cL_iceIn 2 = .ok (.iload_n 2, 1) := by decide +kernel
theorem dL_iceIn_3 : decode cL_iceIn 3 = .ok (.invokevirtual 71, 3) := by decide +kernel
theorem dL_iceIn_6 : decode cL_iceIn 6 = .ok (.ireturn, 1) := by decide +kernel
theorem dL_iceIn_7 : decode cL_iceIn 7 = .ok (.astore_n 3, 1) := by decide +kernel
theorem dL_iceIn_8 : decode cL_iceIn 8 = .ok (.bipush (-11), 2) := by decide +kernel
theorem dL_iceIn_10 : decode cL_iceIn 10 = .ok (.ireturn, 1) := by decide +kernel
theorem dL_iceIn_11 : decode cL_iceIn 11 = .ok (.astore_n 3, 1) := by decide +kernel
theorem dL_iceIn_12 : decode cL_iceIn 12 = .ok (.bipush (-12), 2) := by decide +kernel
theorem dL_iceIn_14 : decode cL_iceIn 14 = .ok (.ireturn, 1) := by decide +kernel
theorem dL_bearsIn_0 : decode cL_bearsIn 0 = .ok (.aload_n 0, 1) := by decide +kernel
theorem dL_bearsIn_1 : decode cL_bearsIn 1 = .ok (.iload_n 1, 1) := by decide +kernel
theorem dL_bearsIn_2 : decode cL_bearsIn 2 = .ok (.iload_n 2, 1) := by decide +kernel
theorem dL_bearsIn_3 : decode cL_bearsIn 3 = .ok (.invokevirtual 74, 3) := by decide +kernel
theorem dL_bearsIn_6 : decode cL_bearsIn 6 = .ok (.ireturn, 1) := by decide +kernel
theorem dL_bearsIn_7 : decode cL_bearsIn 7 = .ok (.astore_n 3, 1) := by decide +kernel
theorem dL_bearsIn_8 : decode cL_bearsIn 8 = .ok (.bipush (-11), 2) := by decide +kernel
theorem dL_bearsIn_10 : decode cL_bearsIn 10 = .ok (.ireturn, 1) := by decide +kernel
theorem dL_bearsIn_11 : decode cL_bearsIn 11 = .ok (.astore_n 3, 1) := by decide +kernel
theorem dL_bearsIn_12 : decode cL_bearsIn 12 = .ok (.bipush (-12), 2) := by decide +kernel
theorem dL_bearsIn_14 : decode cL_bearsIn 14 = .ok (.ireturn, 1) := by decide +kernel
theorem dL_bearsIn_15 : decode cL_bearsIn 15 = .ok (.astore_n 3, 1) := by decide +kernel
theorem dL_bearsIn_16 : decode cL_bearsIn 16 = .ok (.bipush (-13), 2) := by decide +kernel
theorem dL_bearsIn_18 : decode cL_bearsIn 18 = .ok (.ireturn, 1) := by decide +kernel
theorem dL_pass_0 : decode cL_pass 0 = .ok (.aload_n 0, 1) := by decide +kernel
theorem dL_pass_1 : decode cL_pass 1 = .ok (.iload_n 1, 1) := by decide +kernel
theorem dL_pass_2 : decode cL_pass 2 = .ok (.invokevirtual 77, 3) := by decide +kernel
theorem dL_pass_5 : decode cL_pass 5 = .ok (.ireturn, 1) := by decide +kernel
theorem dL_pass_6 : decode cL_pass 6 = .ok (.astore_n 2, 1) := by decide +kernel
theorem dL_pass_7 : decode cL_pass 7 = .ok (.iconst (-1), 1) := by decide +kernel
theorem dL_pass_8 : decode cL_pass 8 = .ok (.ireturn, 1) := by decide +kernel
theorem dL_refusal_0 : decode cL_refusal 0 = .ok (.aload_n 0, 1) := by decide +kernel
theorem dL_refusal_1 : decode cL_refusal 1 = .ok (.iload_n 1, 1) := by decide +kernel
theorem dL_refusal_2 : decode cL_refusal 2 = .ok (.invokevirtual 80, 3) := by decide +kernel
theorem dL_refusal_5 : decode cL_refusal 5 = .ok (.ireturn, 1) := by decide +kernel
theorem dL_refusal_6 : decode cL_refusal 6 = .ok (.astore_n 2, 1) := by decide +kernel
theorem dL_refusal_7 : decode cL_refusal 7 = .ok (.bipush (-101), 2) := by decide +kernel
theorem dL_refusal_9 : decode cL_refusal 9 = .ok (.ireturn, 1) := by decide +kernel
theorem dL_append_0 : decode cL_append 0 = .ok (.aload_n 0, 1) := by decide +kernel
theorem dL_append_1 : decode cL_append 1 = .ok (.iload_n 1, 1) := by decide +kernel
theorem dL_append_2 : decode cL_append 2 = .ok (.invokevirtual 84, 3) := by decide +kernel
theorem dL_append_5 : decode cL_append 5 = .ok (.ireturn, 1) := by decide +kernel
theorem dL_append_6 : decode cL_append 6 = .ok (.astore_n 2, 1) := by decide +kernel
theorem dL_append_7 : decode cL_append 7 = .ok (.iconst (-1), 1) := by decide +kernel
theorem dL_append_8 : decode cL_append 8 = .ok (.ireturn, 1) := by decide +kernel
theorem dL_does_0 : decode cL_does 0 = .ok (.aload_n 0, 1) := by decide +kernel
theorem dL_does_1 : decode cL_does 1 = .ok (.invokevirtual 90, 3) := by decide +kernel
theorem dL_does_4 : decode cL_does 4 = .ok (.ireturn, 1) := by decide +kernel
theorem dL_does_5 : decode cL_does 5 = .ok (.astore_n 1, 1) := by decide +kernel
theorem dL_does_6 : decode cL_does 6 = .ok (.iconst (-1), 1) := by decide +kernel
theorem dL_does_7 : decode cL_does 7 = .ok (.ireturn, 1) := by decide +kernel
theorem dL_does_8 : decode cL_does 8 = .ok (.astore_n 1, 1) := by decide +kernel
theorem dL_does_9 : decode cL_does 9 = .ok (.bipush (-2), 2) := by decide +kernel
theorem dL_does_11 : decode cL_does 11 = .ok (.ireturn, 1) := by decide +kernel
theorem dL_read_0 : decode cL_read 0 = .ok (.iconst 0, 1) := by decide +kernel
theorem dL_read_1 : decode cL_read 1 = .ok (.istore_n 2, 1) := by decide +kernel
theorem dL_read_2 : decode cL_read 2 = .ok (.iload_n 2, 1) := by decide +kernel
theorem dL_read_3 : decode cL_read 3 = .ok (.aload_n 1, 1) := by decide +kernel
theorem dL_read_4 : decode cL_read 4 = .ok (.invokevirtual 94, 3) := by decide +kernel
theorem dL_read_7 : decode cL_read 7 = .ok (.if_icmp .ge 27, 3) := by decide +kernel
theorem dL_read_10 : decode cL_read 10 = .ok (.aload_n 0, 1) := by decide +kernel
theorem dL_read_11 : decode cL_read 11 = .ok (.aload_n 1, 1) := by decide +kernel
theorem dL_read_12 : decode cL_read 12 = .ok (.iload_n 2, 1) := by decide +kernel
theorem dL_read_13 : decode cL_read 13 = .ok (.invokevirtual 99, 3) := by decide +kernel
theorem dL_read_16 : decode cL_read 16 = .ok (.invokestatic 103, 3) := by decide +kernel
theorem dL_read_19 : decode cL_read 19 = .ok (.iload_n 2, 1) := by decide +kernel
theorem dL_read_20 : decode cL_read 20 = .ok (.iconst 1, 1) := by decide +kernel
theorem dL_read_21 : decode cL_read 21 = .ok (.iadd, 1) := by decide +kernel
theorem dL_read_22 : decode cL_read 22 = .ok (.if_icmp .eq 6, 3) := by decide +kernel
theorem dL_read_25 : decode cL_read 25 = .ok (.bipush (-9), 2) := by decide +kernel
theorem dL_read_27 : decode cL_read 27 = .ok (.ireturn, 1) := by decide +kernel
theorem dL_read_28 : decode cL_read 28 = .ok (.iinc 2 1, 3) := by decide +kernel
theorem dL_read_31 : decode cL_read 31 = .ok (.goto (-29), 3) := by decide +kernel
theorem dL_read_34 : decode cL_read 34 = .ok (.aload_n 0, 1) := by decide +kernel
theorem dL_read_35 : decode cL_read 35 = .ok (.invokestatic 108, 3) := by decide +kernel
theorem dL_read_38 : decode cL_read 38 = .ok (.ireturn, 1) := by decide +kernel
theorem dL_undo_0 : decode cL_undo 0 = .ok (.aload_n 0, 1) := by decide +kernel
theorem dL_undo_1 : decode cL_undo 1 = .ok (.invokevirtual 112, 3) := by decide +kernel
theorem dL_undo_4 : decode cL_undo 4 = .ok (.ireturn, 1) := by decide +kernel
theorem dL_undo_5 : decode cL_undo 5 = .ok (.astore_n 1, 1) := by decide +kernel
theorem dL_undo_6 : decode cL_undo 6 = .ok (.iconst (-1), 1) := by decide +kernel
theorem dL_undo_7 : decode cL_undo 7 = .ok (.ireturn, 1) := by decide +kernel
theorem dL_bears_0 : decode cL_bears 0 = .ok (.aload_n 0, 1) := by decide +kernel
theorem dL_bears_1 : decode cL_bears 1 = .ok (.iload_n 1, 1) := by decide +kernel
theorem dL_bears_2 : decode cL_bears 2 = .ok (.invokevirtual 115, 3) := by decide +kernel
theorem dL_bears_5 : decode cL_bears 5 = .ok (.invokestatic 118, 3) := by decide +kernel
theorem dL_bears_8 : decode cL_bears 8 = .ok (.freturn, 1) := by decide +kernel
theorem dL_drawn_0 : decode cL_drawn 0 = .ok (.new 9, 3) := by decide +kernel
theorem dL_drawn_3 : decode cL_drawn 3 = .ok (.dup, 1) := by decide +kernel
theorem dL_drawn_4 : decode cL_drawn 4 = .ok (.invokespecial 124, 3) := by decide +kernel
theorem dL_drawn_7 : decode cL_drawn 7 = .ok (.astore_n 1, 1) := by decide +kernel
theorem dL_drawn_8 : decode cL_drawn 8 = .ok (.aload_n 0, 1) := by decide +kernel
theorem dL_drawn_9 : decode cL_drawn 9 = .ok (.iconst 0, 1) := by decide +kernel
theorem dL_drawn_10 : decode cL_drawn 10 = .ok (.invokestatic 125, 3) := by decide +kernel
theorem dL_drawn_13 : decode cL_drawn 13 = .ok (.iconst 1, 1) := by decide +kernel
theorem dL_drawn_14 : decode cL_drawn 14 = .ok (.iushr, 1) := by decide +kernel
theorem dL_drawn_15 : decode cL_drawn 15 = .ok (.istore_n 2, 1) := by decide +kernel
theorem dL_drawn_16 : decode cL_drawn 16 = .ok (.aload_n 1, 1) := by decide +kernel
theorem dL_drawn_17 : decode cL_drawn 17 = .ok (.iconst 0, 1) := by decide +kernel
theorem dL_drawn_18 : decode cL_drawn 18 = .ok (.iload_n 2, 1) := by decide +kernel
theorem dL_drawn_19 : decode cL_drawn 19 = .ok (.bipush 41, 2) := by decide +kernel
theorem dL_drawn_21 : decode cL_drawn 21 = .ok (.irem, 1) := by decide +kernel
theorem dL_drawn_22 : decode cL_drawn 22 = .ok (.ineg, 1) := by decide +kernel
theorem dL_drawn_23 : decode cL_drawn 23 = .ok (.invokestatic 129, 3) := by decide +kernel
theorem dL_drawn_26 : decode cL_drawn 26 = .ok (.bipush (-20), 2) := by decide +kernel
theorem dL_drawn_28 : decode cL_drawn 28 = .ok (.if_icmp .ne 58, 3) := by decide +kernel
theorem dL_drawn_31 : decode cL_drawn 31 = .ok (.aload_n 1, 1) := by decide +kernel
theorem dL_drawn_32 : decode cL_drawn 32 = .ok (.iconst 1, 1) := by decide +kernel
theorem dL_drawn_33 : decode cL_drawn 33 = .ok (.bipush 60, 2) := by decide +kernel
theorem dL_drawn_35 : decode cL_drawn 35 = .ok (.iload_n 2, 1) := by decide +kernel
theorem dL_drawn_36 : decode cL_drawn 36 = .ok (.bipush 6, 2) := by decide +kernel
theorem dL_drawn_38 : decode cL_drawn 38 = .ok (.iushr, 1) := by decide +kernel
theorem dL_drawn_39 : decode cL_drawn 39 = .ok (.bipush 41, 2) := by decide +kernel
theorem dL_drawn_41 : decode cL_drawn 41 = .ok (.irem, 1) := by decide +kernel
theorem dL_drawn_42 : decode cL_drawn 42 = .ok (.iadd, 1) := by decide +kernel
theorem dL_drawn_43 : decode cL_drawn 43 = .ok (.invokestatic 129, 3) := by decide +kernel
theorem dL_drawn_46 : decode cL_drawn 46 = .ok (.bipush 100, 2) := by decide +kernel
theorem dL_drawn_48 : decode cL_drawn 48 = .ok (.if_icmp .ne 38, 3) := by decide +kernel
theorem dL_drawn_51 : decode cL_drawn 51 = .ok (.aload_n 1, 1) := by decide +kernel
theorem dL_drawn_52 : decode cL_drawn 52 = .ok (.iconst 2, 1) := by decide +kernel
theorem dL_drawn_53 : decode cL_drawn 53 = .ok (.iconst 1, 1) := by decide +kernel
theorem dL_drawn_54 : decode cL_drawn 54 = .ok (.iload_n 2, 1) := by decide +kernel
theorem dL_drawn_55 : decode cL_drawn 55 = .ok (.bipush 12, 2) := by decide +kernel
theorem dL_drawn_57 : decode cL_drawn 57 = .ok (.iushr, 1) := by decide +kernel
theorem dL_drawn_58 : decode cL_drawn 58 = .ok (.bipush 14, 2) := by decide +kernel
theorem dL_drawn_60 : decode cL_drawn 60 = .ok (.irem, 1) := by decide +kernel
theorem dL_drawn_61 : decode cL_drawn 61 = .ok (.iadd, 1) := by decide +kernel
theorem dL_drawn_62 : decode cL_drawn 62 = .ok (.invokestatic 129, 3) := by decide +kernel
theorem dL_drawn_65 : decode cL_drawn 65 = .ok (.bipush 7, 2) := by decide +kernel
theorem dL_drawn_67 : decode cL_drawn 67 = .ok (.if_icmp .ne 19, 3) := by decide +kernel
theorem dL_drawn_70 : decode cL_drawn 70 = .ok (.aload_n 1, 1) := by decide +kernel
theorem dL_drawn_71 : decode cL_drawn 71 = .ok (.iconst 1, 1) := by decide +kernel
theorem dL_drawn_72 : decode cL_drawn 72 = .ok (.iload_n 2, 1) := by decide +kernel
theorem dL_drawn_73 : decode cL_drawn 73 = .ok (.bipush 16, 2) := by decide +kernel
theorem dL_drawn_75 : decode cL_drawn 75 = .ok (.iushr, 1) := by decide +kernel
theorem dL_drawn_76 : decode cL_drawn 76 = .ok (.bipush 25, 2) := by decide +kernel
theorem dL_drawn_78 : decode cL_drawn 78 = .ok (.irem, 1) := by decide +kernel
theorem dL_drawn_79 : decode cL_drawn 79 = .ok (.iadd, 1) := by decide +kernel
theorem dL_drawn_80 : decode cL_drawn 80 = .ok (.invokestatic 132, 3) := by decide +kernel
theorem dL_drawn_83 : decode cL_drawn 83 = .ok (.ifCond .eq 5, 3) := by decide +kernel
theorem dL_drawn_86 : decode cL_drawn 86 = .ok (.aconst_null, 1) := by decide +kernel
theorem dL_drawn_87 : decode cL_drawn 87 = .ok (.areturn, 1) := by decide +kernel
theorem dL_drawn_88 : decode cL_drawn 88 = .ok (.iconst 1, 1) := by decide +kernel
theorem dL_drawn_89 : decode cL_drawn 89 = .ok (.iload_n 2, 1) := by decide +kernel
theorem dL_drawn_90 : decode cL_drawn 90 = .ok (.bipush 21, 2) := by decide +kernel
theorem dL_drawn_92 : decode cL_drawn 92 = .ok (.iushr, 1) := by decide +kernel
theorem dL_drawn_93 : decode cL_drawn 93 = .ok (.iconst 3, 1) := by decide +kernel
theorem dL_drawn_94 : decode cL_drawn 94 = .ok (.irem, 1) := by decide +kernel
theorem dL_drawn_95 : decode cL_drawn 95 = .ok (.iadd, 1) := by decide +kernel
theorem dL_drawn_96 : decode cL_drawn 96 = .ok (.istore_n 3, 1) := by decide +kernel
theorem dL_drawn_97 : decode cL_drawn 97 = .ok (.iconst 0, 1) := by decide +kernel
theorem dL_drawn_98 : decode cL_drawn 98 = .ok (.istore 4, 2) := by decide +kernel
theorem dL_drawn_100 : decode cL_drawn 100 = .ok (.iload 4, 2) := by decide +kernel
theorem dL_drawn_102 : decode cL_drawn 102 = .ok (.iload_n 3, 1) := by decide +kernel
theorem dL_drawn_103 : decode cL_drawn 103 = .ok (.if_icmp .ge 155, 3) := by decide +kernel
theorem dL_drawn_106 : decode cL_drawn 106 = .ok (.aload_n 0, 1) := by decide +kernel
theorem dL_drawn_107 : decode cL_drawn 107 = .ok (.iconst 1, 1) := by decide +kernel
theorem dL_drawn_108 : decode cL_drawn 108 = .ok (.iload 4, 2) := by decide +kernel
theorem dL_drawn_110 : decode cL_drawn 110 = .ok (.iadd, 1) := by decide +kernel
theorem dL_drawn_111 : decode cL_drawn 111 = .ok (.invokestatic 125, 3) := by decide +kernel
theorem dL_drawn_114 : decode cL_drawn 114 = .ok (.iconst 1, 1) := by decide +kernel
theorem dL_drawn_115 : decode cL_drawn 115 = .ok (.iushr, 1) := by decide +kernel
theorem dL_drawn_116 : decode cL_drawn 116 = .ok (.istore 5, 2) := by decide +kernel
theorem dL_drawn_118 : decode cL_drawn 118 = .ok (.aload_n 1, 1) := by decide +kernel
theorem dL_drawn_119 : decode cL_drawn 119 = .ok (.iconst 1, 1) := by decide +kernel
theorem dL_drawn_120 : decode cL_drawn 120 = .ok (.iload 5, 2) := by decide +kernel
theorem dL_drawn_122 : decode cL_drawn 122 = .ok (.iconst 3, 1) := by decide +kernel
theorem dL_drawn_123 : decode cL_drawn 123 = .ok (.irem, 1) := by decide +kernel
theorem dL_drawn_124 : decode cL_drawn 124 = .ok (.iadd, 1) := by decide +kernel
theorem dL_drawn_125 : decode cL_drawn 125 = .ok (.invokestatic 135, 3) := by decide +kernel
theorem dL_drawn_128 : decode cL_drawn 128 = .ok (.iload 4, 2) := by decide +kernel
theorem dL_drawn_130 : decode cL_drawn 130 = .ok (.if_icmp .eq 5, 3) := by decide +kernel
theorem dL_drawn_133 : decode cL_drawn 133 = .ok (.aconst_null, 1) := by decide +kernel
theorem dL_drawn_134 : decode cL_drawn 134 = .ok (.areturn, 1) := by decide +kernel
theorem dL_drawn_135 : decode cL_drawn 135 = .ok (.iconst 0, 1) := by decide +kernel
theorem dL_drawn_136 : decode cL_drawn 136 = .ok (.istore 6, 2) := by decide +kernel
theorem dL_drawn_138 : decode cL_drawn 138 = .ok (.iload 6, 2) := by decide +kernel
theorem dL_drawn_140 : decode cL_drawn 140 = .ok (.iconst 1, 1) := by decide +kernel
theorem dL_drawn_141 : decode cL_drawn 141 = .ok (.iload 5, 2) := by decide +kernel
theorem dL_drawn_143 : decode cL_drawn 143 = .ok (.iconst 2, 1) := by decide +kernel
theorem dL_drawn_144 : decode cL_drawn 144 = .ok (.iushr, 1) := by decide +kernel
theorem dL_drawn_145 : decode cL_drawn 145 = .ok (.iconst 3, 1) := by decide +kernel
theorem dL_drawn_146 : decode cL_drawn 146 = .ok (.irem, 1) := by decide +kernel
theorem dL_drawn_147 : decode cL_drawn 147 = .ok (.iadd, 1) := by decide +kernel
theorem dL_drawn_148 : decode cL_drawn 148 = .ok (.if_icmp .ge 104, 3) := by decide +kernel
theorem dL_drawn_151 : decode cL_drawn 151 = .ok (.aload_n 0, 1) := by decide +kernel
theorem dL_drawn_152 : decode cL_drawn 152 = .ok (.iconst 4, 1) := by decide +kernel
theorem dL_drawn_153 : decode cL_drawn 153 = .ok (.iconst 3, 1) := by decide +kernel
theorem dL_drawn_154 : decode cL_drawn 154 = .ok (.iload 4, 2) := by decide +kernel
theorem dL_drawn_156 : decode cL_drawn 156 = .ok (.imul, 1) := by decide +kernel
theorem dL_drawn_157 : decode cL_drawn 157 = .ok (.iadd, 1) := by decide +kernel
theorem dL_drawn_158 : decode cL_drawn 158 = .ok (.iload 6, 2) := by decide +kernel
theorem dL_drawn_160 : decode cL_drawn 160 = .ok (.iadd, 1) := by decide +kernel
theorem dL_drawn_161 : decode cL_drawn 161 = .ok (.invokestatic 125, 3) := by decide +kernel
theorem dL_drawn_164 : decode cL_drawn 164 = .ok (.iconst 1, 1) := by decide +kernel
theorem dL_drawn_165 : decode cL_drawn 165 = .ok (.iushr, 1) := by decide +kernel
theorem dL_drawn_166 : decode cL_drawn 166 = .ok (.istore 7, 2) := by decide +kernel
theorem dL_drawn_168 : decode cL_drawn 168 = .ok (.iload 7, 2) := by decide +kernel
theorem dL_drawn_170 : decode cL_drawn 170 = .ok (.iconst 2, 1) := by decide +kernel
theorem dL_drawn_171 : decode cL_drawn 171 = .ok (.irem, 1) := by decide +kernel
theorem dL_drawn_172 : decode cL_drawn 172 = .ok (.istore 8, 2) := by decide +kernel
theorem dL_drawn_174 : decode cL_drawn 174 = .ok (.iload 7, 2) := by decide +kernel
theorem dL_drawn_176 : decode cL_drawn 176 = .ok (.iconst 1, 1) := by decide +kernel
theorem dL_drawn_177 : decode cL_drawn 177 = .ok (.iushr, 1) := by decide +kernel
theorem dL_drawn_178 : decode cL_drawn 178 = .ok (.iconst 4, 1) := by decide +kernel
theorem dL_drawn_179 : decode cL_drawn 179 = .ok (.irem, 1) := by decide +kernel
theorem dL_drawn_180 : decode cL_drawn 180 = .ok (.ifCond .ne 15, 3) := by decide +kernel
theorem dL_drawn_183 : decode cL_drawn 183 = .ok (.iconst 5, 1) := by decide +kernel
theorem dL_drawn_184 : decode cL_drawn 184 = .ok (.iload 7, 2) := by decide +kernel
theorem dL_drawn_186 : decode cL_drawn 186 = .ok (.iconst 3, 1) := by decide +kernel
theorem dL_drawn_187 : decode cL_drawn 187 = .ok (.iushr, 1) := by decide +kernel
theorem dL_drawn_188 : decode cL_drawn 188 = .ok (.bipush 56, 2) := by decide +kernel
theorem dL_drawn_190 : decode cL_drawn 190 = .ok (.irem, 1) := by decide +kernel
theorem dL_drawn_191 : decode cL_drawn 191 = .ok (.iadd, 1) := by decide +kernel
theorem dL_drawn_192 : decode cL_drawn 192 = .ok (.goto 12, 3) := by decide +kernel
theorem dL_drawn_195 : decode cL_drawn 195 = .ok (.iconst 5, 1) := by decide +kernel
theorem dL_drawn_196 : decode cL_drawn 196 = .ok (.iload 7, 2) := by decide +kernel
theorem dL_drawn_198 : decode cL_drawn 198 = .ok (.iconst 3, 1) := by decide +kernel
theorem dL_drawn_199 : decode cL_drawn 199 = .ok (.iushr, 1) := by decide +kernel
theorem dL_drawn_200 : decode cL_drawn 200 = .ok (.bipush 26, 2) := by decide +kernel
theorem dL_drawn_202 : decode cL_drawn 202 = .ok (.irem, 1) := by decide +kernel
theorem dL_drawn_203 : decode cL_drawn 203 = .ok (.iadd, 1) := by decide +kernel
theorem dL_drawn_204 : decode cL_drawn 204 = .ok (.istore 9, 2) := by decide +kernel
theorem dL_drawn_206 : decode cL_drawn 206 = .ok (.aload_n 1, 1) := by decide +kernel
theorem dL_drawn_207 : decode cL_drawn 207 = .ok (.iload 8, 2) := by decide +kernel
theorem dL_drawn_209 : decode cL_drawn 209 = .ok (.iload 9, 2) := by decide +kernel
theorem dL_drawn_211 : decode cL_drawn 211 = .ok (.iconst 2, 1) := by decide +kernel
theorem dL_drawn_212 : decode cL_drawn 212 = .ok (.iload 7, 2) := by decide +kernel
theorem dL_drawn_214 : decode cL_drawn 214 = .ok (.bipush 9, 2) := by decide +kernel
theorem dL_drawn_216 : decode cL_drawn 216 = .ok (.iushr, 1) := by decide +kernel
theorem dL_drawn_217 : decode cL_drawn 217 = .ok (.iconst 5, 1) := by decide +kernel
theorem dL_drawn_218 : decode cL_drawn 218 = .ok (.irem, 1) := by decide +kernel
theorem dL_drawn_219 : decode cL_drawn 219 = .ok (.iadd, 1) := by decide +kernel
theorem dL_drawn_220 : decode cL_drawn 220 = .ok (.iload 8, 2) := by decide +kernel
theorem dL_drawn_222 : decode cL_drawn 222 = .ok (.invokestatic 137, 3) := by decide +kernel
theorem dL_drawn_225 : decode cL_drawn 225 = .ok (.ifCond .ne 19, 3) := by decide +kernel
theorem dL_drawn_228 : decode cL_drawn 228 = .ok (.aload_n 1, 1) := by decide +kernel
theorem dL_drawn_229 : decode cL_drawn 229 = .ok (.iload 4, 2) := by decide +kernel
theorem dL_drawn_231 : decode cL_drawn 231 = .ok (.iload 8, 2) := by decide +kernel
theorem dL_drawn_233 : decode cL_drawn 233 = .ok (.iconst 0, 1) := by decide +kernel
theorem dL_drawn_234 : decode cL_drawn 234 = .ok (.invokestatic 140, 3) := by decide +kernel
theorem dL_drawn_237 : decode cL_drawn 237 = .ok (.iload 6, 2) := by decide +kernel
theorem dL_drawn_239 : decode cL_drawn 239 = .ok (.iconst 1, 1) := by decide +kernel
theorem dL_drawn_240 : decode cL_drawn 240 = .ok (.iadd, 1) := by decide +kernel
theorem dL_drawn_241 : decode cL_drawn 241 = .ok (.if_icmp .eq 5, 3) := by decide +kernel
theorem dL_drawn_244 : decode cL_drawn 244 = .ok (.aconst_null, 1) := by decide +kernel
theorem dL_drawn_245 : decode cL_drawn 245 = .ok (.areturn, 1) := by decide +kernel
theorem dL_drawn_246 : decode cL_drawn 246 = .ok (.iinc 6 1, 3) := by decide +kernel
theorem dL_drawn_249 : decode cL_drawn 249 = .ok (.goto (-111), 3) := by decide +kernel
theorem dL_drawn_252 : decode cL_drawn 252 = .ok (.iinc 4 1, 3) := by decide +kernel
theorem dL_drawn_255 : decode cL_drawn 255 = .ok (.goto (-155), 3) := by decide +kernel
theorem dL_drawn_258 : decode cL_drawn 258 = .ok (.iconst 0, 1) := by decide +kernel
theorem dL_drawn_259 : decode cL_drawn 259 = .ok (.istore 4, 2) := by decide +kernel
theorem dL_drawn_261 : decode cL_drawn 261 = .ok (.iload 4, 2) := by decide +kernel
theorem dL_drawn_263 : decode cL_drawn 263 = .ok (.bipush 12, 2) := by decide +kernel
theorem dL_drawn_265 : decode cL_drawn 265 = .ok (.if_icmp .ge 45, 3) := by decide +kernel
theorem dL_drawn_268 : decode cL_drawn 268 = .ok (.aload_n 0, 1) := by decide +kernel
theorem dL_drawn_269 : decode cL_drawn 269 = .ok (.bipush 13, 2) := by decide +kernel
theorem dL_drawn_271 : decode cL_drawn 271 = .ok (.invokestatic 125, 3) := by decide +kernel
theorem dL_drawn_274 : decode cL_drawn 274 = .ok (.iload 4, 2) := by decide +kernel
theorem dL_drawn_276 : decode cL_drawn 276 = .ok (.iconst 1, 1) := by decide +kernel
theorem dL_drawn_277 : decode cL_drawn 277 = .ok (.iadd, 1) := by decide +kernel
theorem dL_drawn_278 : decode cL_drawn 278 = .ok (.iushr, 1) := by decide +kernel
theorem dL_drawn_279 : decode cL_drawn 279 = .ok (.iconst 3, 1) := by decide +kernel
theorem dL_drawn_280 : decode cL_drawn 280 = .ok (.iand, 1) := by decide +kernel
theorem dL_drawn_281 : decode cL_drawn 281 = .ok (.ifCond .eq 23, 3) := by decide +kernel
theorem dL_drawn_284 : decode cL_drawn 284 = .ok (.aload_n 1, 1) := by decide +kernel
theorem dL_drawn_285 : decode cL_drawn 285 = .ok (.iload 4, 2) := by decide +kernel
theorem dL_drawn_287 : decode cL_drawn 287 = .ok (.invokestatic 143, 3) := by decide +kernel
theorem dL_drawn_290 : decode cL_drawn 290 = .ok (.aload_n 1, 1) := by decide +kernel
theorem dL_drawn_291 : decode cL_drawn 291 = .ok (.iload 4, 2) := by decide +kernel
theorem dL_drawn_293 : decode cL_drawn 293 = .ok (.invokevirtual 145, 3) := by decide +kernel
theorem dL_drawn_296 : decode cL_drawn 296 = .ok (.invokestatic 148, 3) := by decide +kernel
theorem dL_drawn_299 : decode cL_drawn 299 = .ok (.if_icmp .eq 5, 3) := by decide +kernel
theorem dL_drawn_302 : decode cL_drawn 302 = .ok (.aconst_null, 1) := by decide +kernel
theorem dL_drawn_303 : decode cL_drawn 303 = .ok (.areturn, 1) := by decide +kernel
theorem dL_drawn_304 : decode cL_drawn 304 = .ok (.iinc 4 1, 3) := by decide +kernel
theorem dL_drawn_307 : decode cL_drawn 307 = .ok (.goto (-46), 3) := by decide +kernel
theorem dL_drawn_310 : decode cL_drawn 310 = .ok (.bipush 6, 2) := by decide +kernel
theorem dL_drawn_312 : decode cL_drawn 312 = .ok (.aload_n 0, 1) := by decide +kernel
theorem dL_drawn_313 : decode cL_drawn 313 = .ok (.bipush 14, 2) := by decide +kernel
theorem dL_drawn_315 : decode cL_drawn 315 = .ok (.invokestatic 125, 3) := by decide +kernel
theorem dL_drawn_318 : decode cL_drawn 318 = .ok (.iconst 1, 1) := by decide +kernel
theorem dL_drawn_319 : decode cL_drawn 319 = .ok (.iushr, 1) := by decide +kernel
theorem dL_drawn_320 : decode cL_drawn 320 = .ok (.bipush 28, 2) := by decide +kernel
theorem dL_drawn_322 : decode cL_drawn 322 = .ok (.irem, 1) := by decide +kernel
theorem dL_drawn_323 : decode cL_drawn 323 = .ok (.iadd, 1) := by decide +kernel
theorem dL_drawn_324 : decode cL_drawn 324 = .ok (.istore 4, 2) := by decide +kernel
theorem dL_drawn_326 : decode cL_drawn 326 = .ok (.iconst 0, 1) := by decide +kernel
theorem dL_drawn_327 : decode cL_drawn 327 = .ok (.istore 5, 2) := by decide +kernel
theorem dL_drawn_329 : decode cL_drawn 329 = .ok (.iload 5, 2) := by decide +kernel
theorem dL_drawn_331 : decode cL_drawn 331 = .ok (.iload 4, 2) := by decide +kernel
theorem dL_drawn_333 : decode cL_drawn 333 = .ok (.if_icmp .ge 188, 3) := by decide +kernel
theorem dL_drawn_336 : decode cL_drawn 336 = .ok (.aload_n 0, 1) := by decide +kernel
theorem dL_drawn_337 : decode cL_drawn 337 = .ok (.bipush 15, 2) := by decide +kernel
theorem dL_drawn_339 : decode cL_drawn 339 = .ok (.iload 5, 2) := by decide +kernel
theorem dL_drawn_341 : decode cL_drawn 341 = .ok (.iadd, 1) := by decide +kernel
theorem dL_drawn_342 : decode cL_drawn 342 = .ok (.invokestatic 125, 3) := by decide +kernel
theorem dL_drawn_345 : decode cL_drawn 345 = .ok (.iconst 1, 1) := by decide +kernel
theorem dL_drawn_346 : decode cL_drawn 346 = .ok (.iushr, 1) := by decide +kernel
theorem dL_drawn_347 : decode cL_drawn 347 = .ok (.istore 6, 2) := by decide +kernel
theorem dL_drawn_349 : decode cL_drawn 349 = .ok (.iload 6, 2) := by decide +kernel
theorem dL_drawn_351 : decode cL_drawn 351 = .ok (.bipush 10, 2) := by decide +kernel
theorem dL_drawn_353 : decode cL_drawn 353 = .ok (.irem, 1) := by decide +kernel
theorem dL_drawn_354 : decode cL_drawn 354 = .ok (.tableswitch 117 0 3 #[30, 47, 72, 102], 30) := by decide +kernel
theorem dL_drawn_384 : decode cL_drawn 384 = .ok (.aload_n 1, 1) := by decide +kernel
theorem dL_drawn_385 : decode cL_drawn 385 = .ok (.iconst 1, 1) := by decide +kernel
theorem dL_drawn_386 : decode cL_drawn 386 = .ok (.iload 6, 2) := by decide +kernel
theorem dL_drawn_388 : decode cL_drawn 388 = .ok (.iconst 4, 1) := by decide +kernel
theorem dL_drawn_389 : decode cL_drawn 389 = .ok (.iushr, 1) := by decide +kernel
theorem dL_drawn_390 : decode cL_drawn 390 = .ok (.iconst 4, 1) := by decide +kernel
theorem dL_drawn_391 : decode cL_drawn 391 = .ok (.irem, 1) := by decide +kernel
theorem dL_drawn_392 : decode cL_drawn 392 = .ok (.iadd, 1) := by decide +kernel
theorem dL_drawn_393 : decode cL_drawn 393 = .ok (.invokestatic 132, 3) := by decide +kernel
theorem dL_drawn_396 : decode cL_drawn 396 = .ok (.istore 7, 2) := by decide +kernel
theorem dL_drawn_398 : decode cL_drawn 398 = .ok (.goto 85, 3) := by decide +kernel
theorem dL_drawn_401 : decode cL_drawn 401 = .ok (.aload_n 1, 1) := by decide +kernel
theorem dL_drawn_402 : decode cL_drawn 402 = .ok (.iload 6, 2) := by decide +kernel
theorem dL_drawn_404 : decode cL_drawn 404 = .ok (.iconst 4, 1) := by decide +kernel
theorem dL_drawn_405 : decode cL_drawn 405 = .ok (.iushr, 1) := by decide +kernel
theorem dL_drawn_406 : decode cL_drawn 406 = .ok (.bipush 12, 2) := by decide +kernel
theorem dL_drawn_408 : decode cL_drawn 408 = .ok (.irem, 1) := by decide +kernel
theorem dL_drawn_409 : decode cL_drawn 409 = .ok (.invokestatic 143, 3) := by decide +kernel
theorem dL_drawn_412 : decode cL_drawn 412 = .ok (.iconst (-1), 1) := by decide +kernel
theorem dL_drawn_413 : decode cL_drawn 413 = .ok (.if_icmp .ne 7, 3) := by decide +kernel
theorem dL_drawn_416 : decode cL_drawn 416 = .ok (.iconst (-1), 1) := by decide +kernel
theorem dL_drawn_417 : decode cL_drawn 417 = .ok (.goto 4, 3) := by decide +kernel
theorem dL_drawn_420 : decode cL_drawn 420 = .ok (.iconst 0, 1) := by decide +kernel
theorem dL_drawn_421 : decode cL_drawn 421 = .ok (.istore 7, 2) := by decide +kernel
theorem dL_drawn_423 : decode cL_drawn 423 = .ok (.goto 60, 3) := by decide +kernel
theorem dL_drawn_426 : decode cL_drawn 426 = .ok (.aload_n 1, 1) := by decide +kernel
theorem dL_drawn_427 : decode cL_drawn 427 = .ok (.iconst 0, 1) := by decide +kernel
theorem dL_drawn_428 : decode cL_drawn 428 = .ok (.iload 6, 2) := by decide +kernel
theorem dL_drawn_430 : decode cL_drawn 430 = .ok (.iconst 4, 1) := by decide +kernel
theorem dL_drawn_431 : decode cL_drawn 431 = .ok (.iushr, 1) := by decide +kernel
theorem dL_drawn_432 : decode cL_drawn 432 = .ok (.bipush 51, 2) := by decide +kernel
theorem dL_drawn_434 : decode cL_drawn 434 = .ok (.irem, 1) := by decide +kernel
theorem dL_drawn_435 : decode cL_drawn 435 = .ok (.bipush 40, 2) := by decide +kernel
theorem dL_drawn_437 : decode cL_drawn 437 = .ok (.isub, 1) := by decide +kernel
theorem dL_drawn_438 : decode cL_drawn 438 = .ok (.invokestatic 129, 3) := by decide +kernel
theorem dL_drawn_441 : decode cL_drawn 441 = .ok (.bipush (-40), 2) := by decide +kernel
theorem dL_drawn_443 : decode cL_drawn 443 = .ok (.if_icmp .ge 7, 3) := by decide +kernel
theorem dL_drawn_446 : decode cL_drawn 446 = .ok (.iconst (-1), 1) := by decide +kernel
theorem dL_drawn_447 : decode cL_drawn 447 = .ok (.goto 4, 3) := by decide +kernel
theorem dL_drawn_450 : decode cL_drawn 450 = .ok (.iconst 0, 1) := by decide +kernel
theorem dL_drawn_451 : decode cL_drawn 451 = .ok (.istore 7, 2) := by decide +kernel
theorem dL_drawn_453 : decode cL_drawn 453 = .ok (.goto 30, 3) := by decide +kernel
theorem dL_drawn_456 : decode cL_drawn 456 = .ok (.aload_n 1, 1) := by decide +kernel
theorem dL_drawn_457 : decode cL_drawn 457 = .ok (.iload 6, 2) := by decide +kernel
theorem dL_drawn_459 : decode cL_drawn 459 = .ok (.iconst 4, 1) := by decide +kernel
theorem dL_drawn_460 : decode cL_drawn 460 = .ok (.iushr, 1) := by decide +kernel
theorem dL_drawn_461 : decode cL_drawn 461 = .ok (.iload_n 3, 1) := by decide +kernel
theorem dL_drawn_462 : decode cL_drawn 462 = .ok (.irem, 1) := by decide +kernel
theorem dL_drawn_463 : decode cL_drawn 463 = .ok (.invokestatic 152, 3) := by decide +kernel
theorem dL_drawn_466 : decode cL_drawn 466 = .ok (.istore 7, 2) := by decide +kernel
theorem dL_drawn_468 : decode cL_drawn 468 = .ok (.goto 15, 3) := by decide +kernel
theorem dL_drawn_471 : decode cL_drawn 471 = .ok (.aload_n 1, 1) := by decide +kernel
theorem dL_drawn_472 : decode cL_drawn 472 = .ok (.iload 6, 2) := by decide +kernel
theorem dL_drawn_474 : decode cL_drawn 474 = .ok (.iconst 4, 1) := by decide +kernel
theorem dL_drawn_475 : decode cL_drawn 475 = .ok (.iushr, 1) := by decide +kernel
theorem dL_drawn_476 : decode cL_drawn 476 = .ok (.iload_n 3, 1) := by decide +kernel
theorem dL_drawn_477 : decode cL_drawn 477 = .ok (.irem, 1) := by decide +kernel
theorem dL_drawn_478 : decode cL_drawn 478 = .ok (.invokestatic 154, 3) := by decide +kernel
theorem dL_drawn_481 : decode cL_drawn 481 = .ok (.istore 7, 2) := by decide +kernel
theorem dL_drawn_483 : decode cL_drawn 483 = .ok (.iload 7, 2) := by decide +kernel
theorem dL_drawn_485 : decode cL_drawn 485 = .ok (.iconst (-1), 1) := by decide +kernel
theorem dL_drawn_486 : decode cL_drawn 486 = .ok (.if_icmp .eq 27, 3) := by decide +kernel
theorem dL_drawn_489 : decode cL_drawn 489 = .ok (.iload 7, 2) := by decide +kernel
theorem dL_drawn_491 : decode cL_drawn 491 = .ok (.ifCond .ge 24, 3) := by decide +kernel
theorem dL_drawn_494 : decode cL_drawn 494 = .ok (.aload_n 1, 1) := by decide +kernel
theorem dL_drawn_495 : decode cL_drawn 495 = .ok (.iconst 0, 1) := by decide +kernel
theorem dL_drawn_496 : decode cL_drawn 496 = .ok (.invokestatic 156, 3) := by decide +kernel
theorem dL_drawn_499 : decode cL_drawn 499 = .ok (.iconst 4, 1) := by decide +kernel
theorem dL_drawn_500 : decode cL_drawn 500 = .ok (.if_icmp .lt 13, 3) := by decide +kernel
theorem dL_drawn_503 : decode cL_drawn 503 = .ok (.aload_n 1, 1) := by decide +kernel
theorem dL_drawn_504 : decode cL_drawn 504 = .ok (.iconst 0, 1) := by decide +kernel
theorem dL_drawn_505 : decode cL_drawn 505 = .ok (.invokestatic 156, 3) := by decide +kernel
theorem dL_drawn_508 : decode cL_drawn 508 = .ok (.bipush 8, 2) := by decide +kernel
theorem dL_drawn_510 : decode cL_drawn 510 = .ok (.if_icmp .le 5, 3) := by decide +kernel
theorem dL_drawn_513 : decode cL_drawn 513 = .ok (.aconst_null, 1) := by decide +kernel
theorem dL_drawn_514 : decode cL_drawn 514 = .ok (.areturn, 1) := by decide +kernel
theorem dL_drawn_515 : decode cL_drawn 515 = .ok (.iinc 5 1, 3) := by decide +kernel
theorem dL_drawn_518 : decode cL_drawn 518 = .ok (.goto (-189), 3) := by decide +kernel
theorem dL_drawn_521 : decode cL_drawn 521 = .ok (.aload_n 1, 1) := by decide +kernel
theorem dL_drawn_522 : decode cL_drawn 522 = .ok (.areturn, 1) := by decide +kernel
theorem dL_law_0 : decode cL_law 0 = .ok (.aload_n 0, 1) := by decide +kernel
theorem dL_law_1 : decode cL_law 1 = .ok (.invokestatic 159, 3) := by decide +kernel
theorem dL_law_4 : decode cL_law 4 = .ok (.astore_n 1, 1) := by decide +kernel
theorem dL_law_5 : decode cL_law 5 = .ok (.aload_n 1, 1) := by decide +kernel
theorem dL_law_6 : decode cL_law 6 = .ok (.ifnull 44, 3) := by decide +kernel
theorem dL_law_9 : decode cL_law 9 = .ok (.aload_n 1, 1) := by decide +kernel
theorem dL_law_10 : decode cL_law 10 = .ok (.invokestatic 163, 3) := by decide +kernel
theorem dL_law_13 : decode cL_law 13 = .ok (.ifCond .eq 37, 3) := by decide +kernel
theorem dL_law_16 : decode cL_law 16 = .ok (.aload_n 1, 1) := by decide +kernel
theorem dL_law_17 : decode cL_law 17 = .ok (.invokestatic 167, 3) := by decide +kernel
theorem dL_law_20 : decode cL_law 20 = .ok (.ifCond .eq 30, 3) := by decide +kernel
theorem dL_law_23 : decode cL_law 23 = .ok (.aload_n 1, 1) := by decide +kernel
theorem dL_law_24 : decode cL_law 24 = .ok (.invokestatic 170, 3) := by decide +kernel
theorem dL_law_27 : decode cL_law 27 = .ok (.ifCond .eq 23, 3) := by decide +kernel
theorem dL_law_30 : decode cL_law 30 = .ok (.aload_n 0, 1) := by decide +kernel
theorem dL_law_31 : decode cL_law 31 = .ok (.aload_n 1, 1) := by decide +kernel
theorem dL_law_32 : decode cL_law 32 = .ok (.invokestatic 173, 3) := by decide +kernel
theorem dL_law_35 : decode cL_law 35 = .ok (.ifCond .eq 15, 3) := by decide +kernel
theorem dL_law_38 : decode cL_law 38 = .ok (.aload_n 0, 1) := by decide +kernel
theorem dL_law_39 : decode cL_law 39 = .ok (.aload_n 1, 1) := by decide +kernel
theorem dL_law_40 : decode cL_law 40 = .ok (.invokestatic 177, 3) := by decide +kernel
theorem dL_law_43 : decode cL_law 43 = .ok (.ifCond .eq 7, 3) := by decide +kernel
theorem dL_law_46 : decode cL_law 46 = .ok (.iconst 1, 1) := by decide +kernel
theorem dL_law_47 : decode cL_law 47 = .ok (.goto 4, 3) := by decide +kernel
theorem dL_law_50 : decode cL_law 50 = .ok (.iconst 0, 1) := by decide +kernel
theorem dL_law_51 : decode cL_law 51 = .ok (.ireturn, 1) := by decide +kernel
theorem dL_miles_0 : decode cL_miles 0 = .ok (.iconst 0, 1) := by decide +kernel
theorem dL_miles_1 : decode cL_miles 1 = .ok (.istore_n 1, 1) := by decide +kernel
theorem dL_miles_2 : decode cL_miles 2 = .ok (.dconst 0, 1) := by decide +kernel
theorem dL_miles_3 : decode cL_miles 3 = .ok (.dstore_n 2, 1) := by decide +kernel
theorem dL_miles_4 : decode cL_miles 4 = .ok (.iconst 0, 1) := by decide +kernel
theorem dL_miles_5 : decode cL_miles 5 = .ok (.istore 4, 2) := by decide +kernel
theorem dL_miles_7 : decode cL_miles 7 = .ok (.iconst 0, 1) := by decide +kernel
theorem dL_miles_8 : decode cL_miles 8 = .ok (.istore 5, 2) := by decide +kernel
theorem dL_miles_10 : decode cL_miles 10 = .ok (.iconst 0, 1) := by decide +kernel
theorem dL_miles_11 : decode cL_miles 11 = .ok (.istore 6, 2) := by decide +kernel
theorem dL_miles_13 : decode cL_miles 13 = .ok (.iload 6, 2) := by decide +kernel
theorem dL_miles_15 : decode cL_miles 15 = .ok (.bipush 12, 2) := by decide +kernel
theorem dL_miles_17 : decode cL_miles 17 = .ok (.if_icmp .ge 331, 3) := by decide +kernel
theorem dL_miles_20 : decode cL_miles 20 = .ok (.aload_n 0, 1) := by decide +kernel
theorem dL_miles_21 : decode cL_miles 21 = .ok (.iload 6, 2) := by decide +kernel
theorem dL_miles_23 : decode cL_miles 23 = .ok (.iconst 2, 1) := by decide +kernel
theorem dL_miles_24 : decode cL_miles 24 = .ok (.invokestatic 180, 3) := by decide +kernel
theorem dL_miles_27 : decode cL_miles 27 = .ok (.istore 7, 2) := by decide +kernel
theorem dL_miles_29 : decode cL_miles 29 = .ok (.iload 7, 2) := by decide +kernel
theorem dL_miles_31 : decode cL_miles 31 = .ok (.ifCond .lt 23, 3) := by decide +kernel
theorem dL_miles_34 : decode cL_miles 34 = .ok (.aload_n 0, 1) := by decide +kernel
theorem dL_miles_35 : decode cL_miles 35 = .ok (.iconst 0, 1) := by decide +kernel
theorem dL_miles_36 : decode cL_miles 36 = .ok (.invokevirtual 182, 3) := by decide +kernel
theorem dL_miles_39 : decode cL_miles 39 = .ok (.iload 7, 2) := by decide +kernel
theorem dL_miles_41 : decode cL_miles 41 = .ok (.aload_n 0, 1) := by decide +kernel
theorem dL_miles_42 : decode cL_miles 42 = .ok (.iconst 2, 1) := by decide +kernel
theorem dL_miles_43 : decode cL_miles 43 = .ok (.invokevirtual 185, 3) := by decide +kernel
theorem dL_miles_46 : decode cL_miles 46 = .ok (.iadd, 1) := by decide +kernel
theorem dL_miles_47 : decode cL_miles 47 = .ok (.if_icmp .gt 7, 3) := by decide +kernel
theorem dL_miles_50 : decode cL_miles 50 = .ok (.iconst 1, 1) := by decide +kernel
theorem dL_miles_51 : decode cL_miles 51 = .ok (.goto 4, 3) := by decide +kernel
theorem dL_miles_54 : decode cL_miles 54 = .ok (.iconst 0, 1) := by decide +kernel
theorem dL_miles_55 : decode cL_miles 55 = .ok (.istore 8, 2) := by decide +kernel
theorem dL_miles_57 : decode cL_miles 57 = .ok (.iload 7, 2) := by decide +kernel
theorem dL_miles_59 : decode cL_miles 59 = .ok (.ifCond .ge 7, 3) := by decide +kernel
theorem dL_miles_62 : decode cL_miles 62 = .ok (.fconst 0, 1) := by decide +kernel
theorem dL_miles_63 : decode cL_miles 63 = .ok (.goto 12, 3) := by decide +kernel
theorem dL_miles_66 : decode cL_miles 66 = .ok (.aload_n 0, 1) := by decide +kernel
theorem dL_miles_67 : decode cL_miles 67 = .ok (.iload 6, 2) := by decide +kernel
theorem dL_miles_69 : decode cL_miles 69 = .ok (.invokestatic 188, 3) := by decide +kernel
theorem dL_miles_72 : decode cL_miles 72 = .ok (.invokestatic 118, 3) := by decide +kernel
theorem dL_miles_75 : decode cL_miles 75 = .ok (.fstore 9, 2) := by decide +kernel
theorem dL_miles_77 : decode cL_miles 77 = .ok (.iload 8, 2) := by decide +kernel
theorem dL_miles_79 : decode cL_miles 79 = .ok (.ifCond .eq 38, 3) := by decide +kernel
theorem dL_miles_82 : decode cL_miles 82 = .ok (.fload 9, 2) := by decide +kernel
theorem dL_miles_84 : decode cL_miles 84 = .ok (.fload 9, 2) := by decide +kernel
theorem dL_miles_86 : decode cL_miles 86 = .ok (.fmul, 1) := by decide +kernel
theorem dL_miles_87 : decode cL_miles 87 = .ok (.ldc 190, 2) := by decide +kernel
theorem dL_miles_89 : decode cL_miles 89 = .ok (.fmul, 1) := by decide +kernel
theorem dL_miles_90 : decode cL_miles 90 = .ok (.fconst 1, 1) := by decide +kernel
theorem dL_miles_91 : decode cL_miles 91 = .ok (.ldc 191, 2) := by decide +kernel
theorem dL_miles_93 : decode cL_miles 93 = .ok (.aload_n 0, 1) := by decide +kernel
theorem dL_miles_94 : decode cL_miles 94 = .ok (.iload 6, 2) := by decide +kernel
theorem dL_miles_96 : decode cL_miles 96 = .ok (.iconst 0, 1) := by decide +kernel
theorem dL_miles_97 : decode cL_miles 97 = .ok (.invokestatic 180, 3) := by decide +kernel
theorem dL_miles_100 : decode cL_miles 100 = .ok (.i2f, 1) := by decide +kernel
theorem dL_miles_101 : decode cL_miles 101 = .ok (.fmul, 1) := by decide +kernel
theorem dL_miles_102 : decode cL_miles 102 = .ok (.fsub, 1) := by decide +kernel
theorem dL_miles_103 : decode cL_miles 103 = .ok (.fmul, 1) := by decide +kernel
theorem dL_miles_104 : decode cL_miles 104 = .ok (.aload_n 0, 1) := by decide +kernel
theorem dL_miles_105 : decode cL_miles 105 = .ok (.iconst 1, 1) := by decide +kernel
theorem dL_miles_106 : decode cL_miles 106 = .ok (.invokevirtual 185, 3) := by decide +kernel
theorem dL_miles_109 : decode cL_miles 109 = .ok (.i2f, 1) := by decide +kernel
theorem dL_miles_110 : decode cL_miles 110 = .ok (.ldc 192, 2) := by decide +kernel
theorem dL_miles_112 : decode cL_miles 112 = .ok (.fdiv, 1) := by decide +kernel
theorem dL_miles_113 : decode cL_miles 113 = .ok (.fmul, 1) := by decide +kernel
theorem dL_miles_114 : decode cL_miles 114 = .ok (.goto 4, 3) := by decide +kernel
theorem dL_miles_117 : decode cL_miles 117 = .ok (.fconst 0, 1) := by decide +kernel
theorem dL_miles_118 : decode cL_miles 118 = .ok (.fstore 10, 2) := by decide +kernel
theorem dL_miles_120 : decode cL_miles 120 = .ok (.aload_n 0, 1) := by decide +kernel
theorem dL_miles_121 : decode cL_miles 121 = .ok (.iload 6, 2) := by decide +kernel
theorem dL_miles_123 : decode cL_miles 123 = .ok (.invokestatic 193, 3) := by decide +kernel
theorem dL_miles_126 : decode cL_miles 126 = .ok (.ifCond .lt 8, 3) := by decide +kernel
theorem dL_miles_129 : decode cL_miles 129 = .ok (.bipush 84, 2) := by decide +kernel
theorem dL_miles_131 : decode cL_miles 131 = .ok (.goto 24, 3) := by decide +kernel
theorem dL_miles_134 : decode cL_miles 134 = .ok (.iload 8, 2) := by decide +kernel
theorem dL_miles_136 : decode cL_miles 136 = .ok (.ifCond .eq 17, 3) := by decide +kernel
theorem dL_miles_139 : decode cL_miles 139 = .ok (.bipush 48, 2) := by decide +kernel
theorem dL_miles_141 : decode cL_miles 141 = .ok (.aload_n 0, 1) := by decide +kernel
theorem dL_miles_142 : decode cL_miles 142 = .ok (.iload 6, 2) := by decide +kernel
theorem dL_miles_144 : decode cL_miles 144 = .ok (.iconst 0, 1) := by decide +kernel
theorem dL_miles_145 : decode cL_miles 145 = .ok (.invokestatic 180, 3) := by decide +kernel
theorem dL_miles_148 : decode cL_miles 148 = .ok (.iadd, 1) := by decide +kernel
theorem dL_miles_149 : decode cL_miles 149 = .ok (.i2c, 1) := by decide +kernel
theorem dL_miles_150 : decode cL_miles 150 = .ok (.goto 5, 3) := by decide +kernel
theorem dL_miles_153 : decode cL_miles 153 = .ok (.bipush 63, 2) := by decide +kernel
theorem dL_miles_155 : decode cL_miles 155 = .ok (.istore 11, 2) := by decide +kernel
theorem dL_miles_157 : decode cL_miles 157 = .ok (.dload_n 2, 1) := by decide +kernel
theorem dL_miles_158 : decode cL_miles 158 = .ok (.aload_n 0, 1) := by decide +kernel
theorem dL_miles_159 : decode cL_miles 159 = .ok (.iload 6, 2) := by decide +kernel
theorem dL_miles_161 : decode cL_miles 161 = .ok (.invokevirtual 145, 3) := by decide +kernel
theorem dL_miles_164 : decode cL_miles 164 = .ok (.f2d, 1) := by decide +kernel
theorem dL_miles_165 : decode cL_miles 165 = .ok (.dadd, 1) := by decide +kernel
theorem dL_miles_166 : decode cL_miles 166 = .ok (.dstore_n 2, 1) := by decide +kernel
theorem dL_miles_167 : decode cL_miles 167 = .ok (.iload 4, 2) := by decide +kernel
theorem dL_miles_169 : decode cL_miles 169 = .ok (.aload_n 0, 1) := by decide +kernel
theorem dL_miles_170 : decode cL_miles 170 = .ok (.iload 6, 2) := by decide +kernel
theorem dL_miles_172 : decode cL_miles 172 = .ok (.iconst 0, 1) := by decide +kernel
theorem dL_miles_173 : decode cL_miles 173 = .ok (.invokestatic 180, 3) := by decide +kernel
theorem dL_miles_176 : decode cL_miles 176 = .ok (.iadd, 1) := by decide +kernel
theorem dL_miles_177 : decode cL_miles 177 = .ok (.istore 4, 2) := by decide +kernel
theorem dL_miles_179 : decode cL_miles 179 = .ok (.iload 5, 2) := by decide +kernel
theorem dL_miles_181 : decode cL_miles 181 = .ok (.iload 8, 2) := by decide +kernel
theorem dL_miles_183 : decode cL_miles 183 = .ok (.ifCond .eq 7, 3) := by decide +kernel
theorem dL_miles_186 : decode cL_miles 186 = .ok (.iconst 1, 1) := by decide +kernel
theorem dL_miles_187 : decode cL_miles 187 = .ok (.goto 4, 3) := by decide +kernel
theorem dL_miles_190 : decode cL_miles 190 = .ok (.iconst 0, 1) := by decide +kernel
theorem dL_miles_191 : decode cL_miles 191 = .ok (.iadd, 1) := by decide +kernel
theorem dL_miles_192 : decode cL_miles 192 = .ok (.istore 5, 2) := by decide +kernel
theorem dL_miles_194 : decode cL_miles 194 = .ok (.aload_n 0, 1) := by decide +kernel
theorem dL_miles_195 : decode cL_miles 195 = .ok (.iload 6, 2) := by decide +kernel
theorem dL_miles_197 : decode cL_miles 197 = .ok (.invokestatic 195, 3) := by decide +kernel
theorem dL_miles_200 : decode cL_miles 200 = .ok (.fload 10, 2) := by decide +kernel
theorem dL_miles_202 : decode cL_miles 202 = .ok (.fcmp .l, 1) := by decide +kernel
theorem dL_miles_203 : decode cL_miles 203 = .ok (.ifCond .ne 119, 3) := by decide +kernel
theorem dL_miles_206 : decode cL_miles 206 = .ok (.aload_n 0, 1) := by decide +kernel
theorem dL_miles_207 : decode cL_miles 207 = .ok (.iload 6, 2) := by decide +kernel
theorem dL_miles_209 : decode cL_miles 209 = .ok (.invokevirtual 198, 3) := by decide +kernel
theorem dL_miles_212 : decode cL_miles 212 = .ok (.iload 11, 2) := by decide +kernel
theorem dL_miles_214 : decode cL_miles 214 = .ok (.if_icmp .ne 108, 3) := by decide +kernel
theorem dL_miles_217 : decode cL_miles 217 = .ok (.aload_n 0, 1) := by decide +kernel
theorem dL_miles_218 : decode cL_miles 218 = .ok (.iload 6, 2) := by decide +kernel
theorem dL_miles_220 : decode cL_miles 220 = .ok (.iconst 3, 1) := by decide +kernel
theorem dL_miles_221 : decode cL_miles 221 = .ok (.invokestatic 180, 3) := by decide +kernel
theorem dL_miles_224 : decode cL_miles 224 = .ok (.iload 8, 2) := by decide +kernel
theorem dL_miles_226 : decode cL_miles 226 = .ok (.ifCond .eq 7, 3) := by decide +kernel
theorem dL_miles_229 : decode cL_miles 229 = .ok (.iconst 1, 1) := by decide +kernel
theorem dL_miles_230 : decode cL_miles 230 = .ok (.goto 4, 3) := by decide +kernel
theorem dL_miles_233 : decode cL_miles 233 = .ok (.iconst 0, 1) := by decide +kernel
theorem dL_miles_234 : decode cL_miles 234 = .ok (.if_icmp .ne 88, 3) := by decide +kernel
theorem dL_miles_237 : decode cL_miles 237 = .ok (.aload_n 0, 1) := by decide +kernel
theorem dL_miles_238 : decode cL_miles 238 = .ok (.iload 6, 2) := by decide +kernel
theorem dL_miles_240 : decode cL_miles 240 = .ok (.invokestatic 188, 3) := by decide +kernel
theorem dL_miles_243 : decode cL_miles 243 = .ok (.bipush (-13), 2) := by decide +kernel
theorem dL_miles_245 : decode cL_miles 245 = .ok (.if_icmp .ne 7, 3) := by decide +kernel
theorem dL_miles_248 : decode cL_miles 248 = .ok (.iconst 1, 1) := by decide +kernel
theorem dL_miles_249 : decode cL_miles 249 = .ok (.goto 4, 3) := by decide +kernel
theorem dL_miles_252 : decode cL_miles 252 = .ok (.iconst 0, 1) := by decide +kernel
theorem dL_miles_253 : decode cL_miles 253 = .ok (.iload 7, 2) := by decide +kernel
theorem dL_miles_255 : decode cL_miles 255 = .ok (.ifCond .ge 7, 3) := by decide +kernel
theorem dL_miles_258 : decode cL_miles 258 = .ok (.iconst 1, 1) := by decide +kernel
theorem dL_miles_259 : decode cL_miles 259 = .ok (.goto 4, 3) := by decide +kernel
theorem dL_miles_262 : decode cL_miles 262 = .ok (.iconst 0, 1) := by decide +kernel
theorem dL_miles_263 : decode cL_miles 263 = .ok (.if_icmp .ne 59, 3) := by decide +kernel
theorem dL_miles_266 : decode cL_miles 266 = .ok (.aload_n 0, 1) := by decide +kernel
theorem dL_miles_267 : decode cL_miles 267 = .ok (.iload 6, 2) := by decide +kernel
theorem dL_miles_269 : decode cL_miles 269 = .ok (.invokevirtual 145, 3) := by decide +kernel
theorem dL_miles_272 : decode cL_miles 272 = .ok (.fconst 0, 1) := by decide +kernel
theorem dL_miles_273 : decode cL_miles 273 = .ok (.fcmp .g, 1) := by decide +kernel
theorem dL_miles_274 : decode cL_miles 274 = .ok (.ifCond .lt 48, 3) := by decide +kernel
theorem dL_miles_277 : decode cL_miles 277 = .ok (.aload_n 0, 1) := by decide +kernel
theorem dL_miles_278 : decode cL_miles 278 = .ok (.iload 6, 2) := by decide +kernel
theorem dL_miles_280 : decode cL_miles 280 = .ok (.invokevirtual 145, 3) := by decide +kernel
theorem dL_miles_283 : decode cL_miles 283 = .ok (.ldc 201, 2) := by decide +kernel
theorem dL_miles_285 : decode cL_miles 285 = .ok (.fcmp .l, 1) := by decide +kernel
theorem dL_miles_286 : decode cL_miles 286 = .ok (.ifCond .gt 36, 3) := by decide +kernel
theorem dL_miles_289 : decode cL_miles 289 = .ok (.aload_n 0, 1) := by decide +kernel
theorem dL_miles_290 : decode cL_miles 290 = .ok (.iload 6, 2) := by decide +kernel
theorem dL_miles_292 : decode cL_miles 292 = .ok (.iconst 0, 1) := by decide +kernel
theorem dL_miles_293 : decode cL_miles 293 = .ok (.invokestatic 180, 3) := by decide +kernel
theorem dL_miles_296 : decode cL_miles 296 = .ok (.iconst 5, 1) := by decide +kernel
theorem dL_miles_297 : decode cL_miles 297 = .ok (.if_icmp .gt 25, 3) := by decide +kernel
theorem dL_miles_300 : decode cL_miles 300 = .ok (.aload_n 0, 1) := by decide +kernel
theorem dL_miles_301 : decode cL_miles 301 = .ok (.iload 6, 2) := by decide +kernel
theorem dL_miles_303 : decode cL_miles 303 = .ok (.iconst 1, 1) := by decide +kernel
theorem dL_miles_304 : decode cL_miles 304 = .ok (.invokestatic 180, 3) := by decide +kernel
theorem dL_miles_307 : decode cL_miles 307 = .ok (.bipush 19, 2) := by decide +kernel
theorem dL_miles_309 : decode cL_miles 309 = .ok (.if_icmp .gt 13, 3) := by decide +kernel
theorem dL_miles_312 : decode cL_miles 312 = .ok (.aload_n 0, 1) := by decide +kernel
theorem dL_miles_313 : decode cL_miles 313 = .ok (.iload 6, 2) := by decide +kernel
theorem dL_miles_315 : decode cL_miles 315 = .ok (.iconst 1, 1) := by decide +kernel
theorem dL_miles_316 : decode cL_miles 316 = .ok (.invokestatic 180, 3) := by decide +kernel
theorem dL_miles_319 : decode cL_miles 319 = .ok (.ifCond .ge 5, 3) := by decide +kernel
theorem dL_miles_322 : decode cL_miles 322 = .ok (.iconst 0, 1) := by decide +kernel
theorem dL_miles_323 : decode cL_miles 323 = .ok (.ireturn, 1) := by decide +kernel
theorem dL_miles_324 : decode cL_miles 324 = .ok (.fload 10, 2) := by decide +kernel
theorem dL_miles_326 : decode cL_miles 326 = .ok (.aload_n 0, 1) := by decide +kernel
theorem dL_miles_327 : decode cL_miles 327 = .ok (.iload_n 1, 1) := by decide +kernel
theorem dL_miles_328 : decode cL_miles 328 = .ok (.invokestatic 195, 3) := by decide +kernel
theorem dL_miles_331 : decode cL_miles 331 = .ok (.fcmp .g, 1) := by decide +kernel
theorem dL_miles_332 : decode cL_miles 332 = .ok (.ifCond .ge 8, 3) := by decide +kernel
theorem dL_miles_335 : decode cL_miles 335 = .ok (.iload 6, 2) := by decide +kernel
theorem dL_miles_337 : decode cL_miles 337 = .ok (.goto 4, 3) := by decide +kernel
theorem dL_miles_340 : decode cL_miles 340 = .ok (.iload_n 1, 1) := by decide +kernel
theorem dL_miles_341 : decode cL_miles 341 = .ok (.istore_n 1, 1) := by decide +kernel
theorem dL_miles_342 : decode cL_miles 342 = .ok (.iinc 6 1, 3) := by decide +kernel
theorem dL_miles_345 : decode cL_miles 345 = .ok (.goto (-332), 3) := by decide +kernel
theorem dL_miles_348 : decode cL_miles 348 = .ok (.aload_n 0, 1) := by decide +kernel
theorem dL_miles_349 : decode cL_miles 349 = .ok (.invokevirtual 202, 3) := by decide +kernel
theorem dL_miles_352 : decode cL_miles 352 = .ok (.iload_n 1, 1) := by decide +kernel
theorem dL_miles_353 : decode cL_miles 353 = .ok (.if_icmp .ne 45, 3) := by decide +kernel
theorem dL_miles_356 : decode cL_miles 356 = .ok (.aload_n 0, 1) := by decide +kernel
theorem dL_miles_357 : decode cL_miles 357 = .ok (.invokevirtual 205, 3) := by decide +kernel
theorem dL_miles_360 : decode cL_miles 360 = .ok (.dload_n 2, 1) := by decide +kernel
theorem dL_miles_361 : decode cL_miles 361 = .ok (.ldc2_w 209, 3) := by decide +kernel
theorem dL_miles_364 : decode cL_miles 364 = .ok (.ddiv, 1) := by decide +kernel
theorem dL_miles_365 : decode cL_miles 365 = .ok (.invokestatic 211, 3) := by decide +kernel
theorem dL_miles_368 : decode cL_miles 368 = .ok (.lcmp, 1) := by decide +kernel
theorem dL_miles_369 : decode cL_miles 369 = .ok (.ifCond .ne 29, 3) := by decide +kernel
theorem dL_miles_372 : decode cL_miles 372 = .ok (.aload_n 0, 1) := by decide +kernel
theorem dL_miles_373 : decode cL_miles 373 = .ok (.bipush 9, 2) := by decide +kernel
theorem dL_miles_375 : decode cL_miles 375 = .ok (.invokevirtual 182, 3) := by decide +kernel
theorem dL_miles_378 : decode cL_miles 378 = .ok (.iload 4, 2) := by decide +kernel
theorem dL_miles_380 : decode cL_miles 380 = .ok (.if_icmp .ne 18, 3) := by decide +kernel
theorem dL_miles_383 : decode cL_miles 383 = .ok (.aload_n 0, 1) := by decide +kernel
theorem dL_miles_384 : decode cL_miles 384 = .ok (.bipush 10, 2) := by decide +kernel
theorem dL_miles_386 : decode cL_miles 386 = .ok (.invokevirtual 182, 3) := by decide +kernel
theorem dL_miles_389 : decode cL_miles 389 = .ok (.iload 5, 2) := by decide +kernel
theorem dL_miles_391 : decode cL_miles 391 = .ok (.if_icmp .ne 7, 3) := by decide +kernel
theorem dL_miles_394 : decode cL_miles 394 = .ok (.iconst 1, 1) := by decide +kernel
theorem dL_miles_395 : decode cL_miles 395 = .ok (.goto 4, 3) := by decide +kernel
theorem dL_miles_398 : decode cL_miles 398 = .ok (.iconst 0, 1) := by decide +kernel
theorem dL_miles_399 : decode cL_miles 399 = .ok (.ireturn, 1) := by decide +kernel
theorem dL_sums_0 : decode cL_sums 0 = .ok (.bipush 12, 2) := by decide +kernel
theorem dL_sums_2 : decode cL_sums 2 = .ok (.newarray .int, 2) := by decide +kernel
theorem dL_sums_4 : decode cL_sums 4 = .ok (.astore_n 1, 1) := by decide +kernel
theorem dL_sums_5 : decode cL_sums 5 = .ok (.iconst 0, 1) := by decide +kernel
theorem dL_sums_6 : decode cL_sums 6 = .ok (.istore_n 2, 1) := by decide +kernel
theorem dL_sums_7 : decode cL_sums 7 = .ok (.iconst 0, 1) := by decide +kernel
theorem dL_sums_8 : decode cL_sums 8 = .ok (.istore_n 3, 1) := by decide +kernel
theorem dL_sums_9 : decode cL_sums 9 = .ok (.iconst 0, 1) := by decide +kernel
theorem dL_sums_10 : decode cL_sums 10 = .ok (.istore 4, 2) := by decide +kernel
theorem dL_sums_12 : decode cL_sums 12 = .ok (.iload 4, 2) := by decide +kernel
theorem dL_sums_14 : decode cL_sums 14 = .ok (.bipush 10, 2) := by decide +kernel
theorem dL_sums_16 : decode cL_sums 16 = .ok (.if_icmp .ge 46, 3) := by decide +kernel
theorem dL_sums_19 : decode cL_sums 19 = .ok (.aload_n 0, 1) := by decide +kernel
theorem dL_sums_20 : decode cL_sums 20 = .ok (.iload 4, 2) := by decide +kernel
theorem dL_sums_22 : decode cL_sums 22 = .ok (.iconst 5, 1) := by decide +kernel
theorem dL_sums_23 : decode cL_sums 23 = .ok (.idiv, 1) := by decide +kernel
theorem dL_sums_24 : decode cL_sums 24 = .ok (.iload 4, 2) := by decide +kernel
theorem dL_sums_26 : decode cL_sums 26 = .ok (.iconst 5, 1) := by decide +kernel
theorem dL_sums_27 : decode cL_sums 27 = .ok (.irem, 1) := by decide +kernel
theorem dL_sums_28 : decode cL_sums 28 = .ok (.iconst 0, 1) := by decide +kernel
theorem dL_sums_29 : decode cL_sums 29 = .ok (.invokestatic 217, 3) := by decide +kernel
theorem dL_sums_32 : decode cL_sums 32 = .ok (.istore 5, 2) := by decide +kernel
theorem dL_sums_34 : decode cL_sums 34 = .ok (.iload_n 2, 1) := by decide +kernel
theorem dL_sums_35 : decode cL_sums 35 = .ok (.iload 5, 2) := by decide +kernel
theorem dL_sums_37 : decode cL_sums 37 = .ok (.ifCond .le 7, 3) := by decide +kernel
theorem dL_sums_40 : decode cL_sums 40 = .ok (.iconst 1, 1) := by decide +kernel
theorem dL_sums_41 : decode cL_sums 41 = .ok (.goto 4, 3) := by decide +kernel
theorem dL_sums_44 : decode cL_sums 44 = .ok (.iconst 0, 1) := by decide +kernel
theorem dL_sums_45 : decode cL_sums 45 = .ok (.iadd, 1) := by decide +kernel
theorem dL_sums_46 : decode cL_sums 46 = .ok (.istore_n 2, 1) := by decide +kernel
theorem dL_sums_47 : decode cL_sums 47 = .ok (.iload_n 3, 1) := by decide +kernel
theorem dL_sums_48 : decode cL_sums 48 = .ok (.iconst 0, 1) := by decide +kernel
theorem dL_sums_49 : decode cL_sums 49 = .ok (.iload 5, 2) := by decide +kernel
theorem dL_sums_51 : decode cL_sums 51 = .ok (.invokestatic 219, 3) := by decide +kernel
theorem dL_sums_54 : decode cL_sums 54 = .ok (.iadd, 1) := by decide +kernel
theorem dL_sums_55 : decode cL_sums 55 = .ok (.istore_n 3, 1) := by decide +kernel
theorem dL_sums_56 : decode cL_sums 56 = .ok (.iinc 4 1, 3) := by decide +kernel
theorem dL_sums_59 : decode cL_sums 59 = .ok (.goto (-47), 3) := by decide +kernel
theorem dL_sums_62 : decode cL_sums 62 = .ok (.iconst 0, 1) := by decide +kernel
theorem dL_sums_63 : decode cL_sums 63 = .ok (.istore 4, 2) := by decide +kernel
theorem dL_sums_65 : decode cL_sums 65 = .ok (.iconst 0, 1) := by decide +kernel
theorem dL_sums_66 : decode cL_sums 66 = .ok (.istore 5, 2) := by decide +kernel
theorem dL_sums_68 : decode cL_sums 68 = .ok (.iconst 0, 1) := by decide +kernel
theorem dL_sums_69 : decode cL_sums 69 = .ok (.istore 6, 2) := by decide +kernel
theorem dL_sums_71 : decode cL_sums 71 = .ok (.iconst 0, 1) := by decide +kernel
theorem dL_sums_72 : decode cL_sums 72 = .ok (.istore 7, 2) := by decide +kernel
theorem dL_sums_74 : decode cL_sums 74 = .ok (.iconst 0, 1) := by decide +kernel
theorem dL_sums_75 : decode cL_sums 75 = .ok (.istore 8, 2) := by decide +kernel
theorem dL_sums_77 : decode cL_sums 77 = .ok (.iconst 0, 1) := by decide +kernel
theorem dL_sums_78 : decode cL_sums 78 = .ok (.istore 9, 2) := by decide +kernel
theorem dL_sums_80 : decode cL_sums 80 = .ok (.iload 9, 2) := by decide +kernel
theorem dL_sums_82 : decode cL_sums 82 = .ok (.aload_n 0, 1) := by decide +kernel
theorem dL_sums_83 : decode cL_sums 83 = .ok (.iconst 2, 1) := by decide +kernel
theorem dL_sums_84 : decode cL_sums 84 = .ok (.invokevirtual 182, 3) := by decide +kernel
theorem dL_sums_87 : decode cL_sums 87 = .ok (.if_icmp .ge 367, 3) := by decide +kernel
theorem dL_sums_90 : decode cL_sums 90 = .ok (.aload_n 0, 1) := by decide +kernel
theorem dL_sums_91 : decode cL_sums 91 = .ok (.iload 9, 2) := by decide +kernel
theorem dL_sums_93 : decode cL_sums 93 = .ok (.iconst 2, 1) := by decide +kernel
theorem dL_sums_94 : decode cL_sums 94 = .ok (.invokestatic 224, 3) := by decide +kernel
theorem dL_sums_97 : decode cL_sums 97 = .ok (.istore 10, 2) := by decide +kernel
theorem dL_sums_99 : decode cL_sums 99 = .ok (.iconst 0, 1) := by decide +kernel
theorem dL_sums_100 : decode cL_sums 100 = .ok (.istore 11, 2) := by decide +kernel
theorem dL_sums_102 : decode cL_sums 102 = .ok (.iconst 0, 1) := by decide +kernel
theorem dL_sums_103 : decode cL_sums 103 = .ok (.istore 12, 2) := by decide +kernel
theorem dL_sums_105 : decode cL_sums 105 = .ok (.iconst 0, 1) := by decide +kernel
theorem dL_sums_106 : decode cL_sums 106 = .ok (.istore 13, 2) := by decide +kernel
theorem dL_sums_108 : decode cL_sums 108 = .ok (.iload 13, 2) := by decide +kernel
theorem dL_sums_110 : decode cL_sums 110 = .ok (.aload_n 0, 1) := by decide +kernel
theorem dL_sums_111 : decode cL_sums 111 = .ok (.iload 9, 2) := by decide +kernel
theorem dL_sums_113 : decode cL_sums 113 = .ok (.iconst 1, 1) := by decide +kernel
theorem dL_sums_114 : decode cL_sums 114 = .ok (.invokestatic 224, 3) := by decide +kernel
theorem dL_sums_117 : decode cL_sums 117 = .ok (.if_icmp .ge 212, 3) := by decide +kernel
theorem dL_sums_120 : decode cL_sums 120 = .ok (.iload 10, 2) := by decide +kernel
theorem dL_sums_122 : decode cL_sums 122 = .ok (.ifCond .ge 7, 3) := by decide +kernel
theorem dL_sums_125 : decode cL_sums 125 = .ok (.iconst (-1), 1) := by decide +kernel
theorem dL_sums_126 : decode cL_sums 126 = .ok (.goto 18, 3) := by decide +kernel
theorem dL_sums_129 : decode cL_sums 129 = .ok (.iload 10, 2) := by decide +kernel
theorem dL_sums_131 : decode cL_sums 131 = .ok (.iload 13, 2) := by decide +kernel
theorem dL_sums_133 : decode cL_sums 133 = .ok (.iconst 1, 1) := by decide +kernel
theorem dL_sums_134 : decode cL_sums 134 = .ok (.aload_n 0, 1) := by decide +kernel
theorem dL_sums_135 : decode cL_sums 135 = .ok (.iload 9, 2) := by decide +kernel
theorem dL_sums_137 : decode cL_sums 137 = .ok (.iconst 0, 1) := by decide +kernel
theorem dL_sums_138 : decode cL_sums 138 = .ok (.invokestatic 224, 3) := by decide +kernel
theorem dL_sums_141 : decode cL_sums 141 = .ok (.iadd, 1) := by decide +kernel
theorem dL_sums_142 : decode cL_sums 142 = .ok (.imul, 1) := by decide +kernel
theorem dL_sums_143 : decode cL_sums 143 = .ok (.isub, 1) := by decide +kernel
theorem dL_sums_144 : decode cL_sums 144 = .ok (.istore 14, 2) := by decide +kernel
theorem dL_sums_146 : decode cL_sums 146 = .ok (.aload_n 0, 1) := by decide +kernel
theorem dL_sums_147 : decode cL_sums 147 = .ok (.iload 9, 2) := by decide +kernel
theorem dL_sums_149 : decode cL_sums 149 = .ok (.iload 13, 2) := by decide +kernel
theorem dL_sums_151 : decode cL_sums 151 = .ok (.iconst 1, 1) := by decide +kernel
theorem dL_sums_152 : decode cL_sums 152 = .ok (.invokestatic 226, 3) := by decide +kernel
theorem dL_sums_155 : decode cL_sums 155 = .ok (.i2f, 1) := by decide +kernel
theorem dL_sums_156 : decode cL_sums 156 = .ok (.fstore 15, 2) := by decide +kernel
theorem dL_sums_158 : decode cL_sums 158 = .ok (.aload_n 0, 1) := by decide +kernel
theorem dL_sums_159 : decode cL_sums 159 = .ok (.iload 9, 2) := by decide +kernel
theorem dL_sums_161 : decode cL_sums 161 = .ok (.iload 13, 2) := by decide +kernel
theorem dL_sums_163 : decode cL_sums 163 = .ok (.iconst 0, 1) := by decide +kernel
theorem dL_sums_164 : decode cL_sums 164 = .ok (.invokestatic 226, 3) := by decide +kernel
theorem dL_sums_167 : decode cL_sums 167 = .ok (.iconst 1, 1) := by decide +kernel
theorem dL_sums_168 : decode cL_sums 168 = .ok (.if_icmp .ne 22, 3) := by decide +kernel
theorem dL_sums_171 : decode cL_sums 171 = .ok (.fload 15, 2) := by decide +kernel
theorem dL_sums_173 : decode cL_sums 173 = .ok (.ldc 228, 2) := by decide +kernel
theorem dL_sums_175 : decode cL_sums 175 = .ok (.aload_n 0, 1) := by decide +kernel
theorem dL_sums_176 : decode cL_sums 176 = .ok (.iload 9, 2) := by decide +kernel
theorem dL_sums_178 : decode cL_sums 178 = .ok (.iload 13, 2) := by decide +kernel
theorem dL_sums_180 : decode cL_sums 180 = .ok (.iconst 2, 1) := by decide +kernel
theorem dL_sums_181 : decode cL_sums 181 = .ok (.invokestatic 226, 3) := by decide +kernel
theorem dL_sums_184 : decode cL_sums 184 = .ok (.i2f, 1) := by decide +kernel
theorem dL_sums_185 : decode cL_sums 185 = .ok (.fmul, 1) := by decide +kernel
theorem dL_sums_186 : decode cL_sums 186 = .ok (.fadd, 1) := by decide +kernel
theorem dL_sums_187 : decode cL_sums 187 = .ok (.goto 5, 3) := by decide +kernel
theorem dL_sums_190 : decode cL_sums 190 = .ok (.fload 15, 2) := by decide +kernel
theorem dL_sums_192 : decode cL_sums 192 = .ok (.fstore 15, 2) := by decide +kernel
theorem dL_sums_194 : decode cL_sums 194 = .ok (.aload_n 0, 1) := by decide +kernel
theorem dL_sums_195 : decode cL_sums 195 = .ok (.iload 9, 2) := by decide +kernel
theorem dL_sums_197 : decode cL_sums 197 = .ok (.iload 13, 2) := by decide +kernel
theorem dL_sums_199 : decode cL_sums 199 = .ok (.iconst 3, 1) := by decide +kernel
theorem dL_sums_200 : decode cL_sums 200 = .ok (.invokestatic 226, 3) := by decide +kernel
theorem dL_sums_203 : decode cL_sums 203 = .ok (.iload 14, 2) := by decide +kernel
theorem dL_sums_205 : decode cL_sums 205 = .ok (.if_icmp .ne 17, 3) := by decide +kernel
theorem dL_sums_208 : decode cL_sums 208 = .ok (.aload_n 0, 1) := by decide +kernel
theorem dL_sums_209 : decode cL_sums 209 = .ok (.iload 9, 2) := by decide +kernel
theorem dL_sums_211 : decode cL_sums 211 = .ok (.iload 13, 2) := by decide +kernel
theorem dL_sums_213 : decode cL_sums 213 = .ok (.invokevirtual 229, 3) := by decide +kernel
theorem dL_sums_216 : decode cL_sums 216 = .ok (.fload 15, 2) := by decide +kernel
theorem dL_sums_218 : decode cL_sums 218 = .ok (.fcmp .l, 1) := by decide +kernel
theorem dL_sums_219 : decode cL_sums 219 = .ok (.ifCond .eq 5, 3) := by decide +kernel
theorem dL_sums_222 : decode cL_sums 222 = .ok (.iconst 0, 1) := by decide +kernel
theorem dL_sums_223 : decode cL_sums 223 = .ok (.ireturn, 1) := by decide +kernel
theorem dL_sums_224 : decode cL_sums 224 = .ok (.iload 14, 2) := by decide +kernel
theorem dL_sums_226 : decode cL_sums 226 = .ok (.ifCond .lt 32, 3) := by decide +kernel
theorem dL_sums_229 : decode cL_sums 229 = .ok (.iload 14, 2) := by decide +kernel
theorem dL_sums_231 : decode cL_sums 231 = .ok (.bipush 12, 2) := by decide +kernel
theorem dL_sums_233 : decode cL_sums 233 = .ok (.if_icmp .ge 25, 3) := by decide +kernel
theorem dL_sums_236 : decode cL_sums 236 = .ok (.aload_n 1, 1) := by decide +kernel
theorem dL_sums_237 : decode cL_sums 237 = .ok (.iload 14, 2) := by decide +kernel
theorem dL_sums_239 : decode cL_sums 239 = .ok (.dup2, 1) := by decide +kernel
theorem dL_sums_240 : decode cL_sums 240 = .ok (.iaload, 1) := by decide +kernel
theorem dL_sums_241 : decode cL_sums 241 = .ok (.bipush 10, 2) := by decide +kernel
theorem dL_sums_243 : decode cL_sums 243 = .ok (.iload 9, 2) := by decide +kernel
theorem dL_sums_245 : decode cL_sums 245 = .ok (.imul, 1) := by decide +kernel
theorem dL_sums_246 : decode cL_sums 246 = .ok (.iload 13, 2) := by decide +kernel
theorem dL_sums_248 : decode cL_sums 248 = .ok (.iadd, 1) := by decide +kernel
theorem dL_sums_249 : decode cL_sums 249 = .ok (.sipush 1000, 3) := by decide +kernel
theorem dL_sums_252 : decode cL_sums 252 = .ok (.iadd, 1) := by decide +kernel
theorem dL_sums_253 : decode cL_sums 253 = .ok (.iadd, 1) := by decide +kernel
theorem dL_sums_254 : decode cL_sums 254 = .ok (.iastore, 1) := by decide +kernel
theorem dL_sums_255 : decode cL_sums 255 = .ok (.iinc 11 1, 3) := by decide +kernel
theorem dL_sums_258 : decode cL_sums 258 = .ok (.iload 12, 2) := by decide +kernel
theorem dL_sums_260 : decode cL_sums 260 = .ok (.iload 14, 2) := by decide +kernel
theorem dL_sums_262 : decode cL_sums 262 = .ok (.bipush 11, 2) := by decide +kernel
theorem dL_sums_264 : decode cL_sums 264 = .ok (.if_icmp .le 7, 3) := by decide +kernel
theorem dL_sums_267 : decode cL_sums 267 = .ok (.iconst 1, 1) := by decide +kernel
theorem dL_sums_268 : decode cL_sums 268 = .ok (.goto 4, 3) := by decide +kernel
theorem dL_sums_271 : decode cL_sums 271 = .ok (.iconst 0, 1) := by decide +kernel
theorem dL_sums_272 : decode cL_sums 272 = .ok (.iadd, 1) := by decide +kernel
theorem dL_sums_273 : decode cL_sums 273 = .ok (.istore 12, 2) := by decide +kernel
theorem dL_sums_275 : decode cL_sums 275 = .ok (.iload 5, 2) := by decide +kernel
theorem dL_sums_277 : decode cL_sums 277 = .ok (.iload 14, 2) := by decide +kernel
theorem dL_sums_279 : decode cL_sums 279 = .ok (.bipush 11, 2) := by decide +kernel
theorem dL_sums_281 : decode cL_sums 281 = .ok (.if_icmp .le 15, 3) := by decide +kernel
theorem dL_sums_284 : decode cL_sums 284 = .ok (.aload_n 0, 1) := by decide +kernel
theorem dL_sums_285 : decode cL_sums 285 = .ok (.iload 9, 2) := by decide +kernel
theorem dL_sums_287 : decode cL_sums 287 = .ok (.iload 13, 2) := by decide +kernel
theorem dL_sums_289 : decode cL_sums 289 = .ok (.iconst 1, 1) := by decide +kernel
theorem dL_sums_290 : decode cL_sums 290 = .ok (.invokestatic 226, 3) := by decide +kernel
theorem dL_sums_293 : decode cL_sums 293 = .ok (.goto 4, 3) := by decide +kernel
theorem dL_sums_296 : decode cL_sums 296 = .ok (.iconst 0, 1) := by decide +kernel
theorem dL_sums_297 : decode cL_sums 297 = .ok (.iadd, 1) := by decide +kernel
theorem dL_sums_298 : decode cL_sums 298 = .ok (.istore 5, 2) := by decide +kernel
theorem dL_sums_300 : decode cL_sums 300 = .ok (.iload_n 3, 1) := by decide +kernel
theorem dL_sums_301 : decode cL_sums 301 = .ok (.iload 14, 2) := by decide +kernel
theorem dL_sums_303 : decode cL_sums 303 = .ok (.bipush 11, 2) := by decide +kernel
theorem dL_sums_305 : decode cL_sums 305 = .ok (.if_icmp .le 7, 3) := by decide +kernel
theorem dL_sums_308 : decode cL_sums 308 = .ok (.iconst 0, 1) := by decide +kernel
theorem dL_sums_309 : decode cL_sums 309 = .ok (.goto 12, 3) := by decide +kernel
theorem dL_sums_312 : decode cL_sums 312 = .ok (.aload_n 0, 1) := by decide +kernel
theorem dL_sums_313 : decode cL_sums 313 = .ok (.iload 9, 2) := by decide +kernel
theorem dL_sums_315 : decode cL_sums 315 = .ok (.iload 13, 2) := by decide +kernel
theorem dL_sums_317 : decode cL_sums 317 = .ok (.iconst 1, 1) := by decide +kernel
theorem dL_sums_318 : decode cL_sums 318 = .ok (.invokestatic 226, 3) := by decide +kernel
theorem dL_sums_321 : decode cL_sums 321 = .ok (.iadd, 1) := by decide +kernel
theorem dL_sums_322 : decode cL_sums 322 = .ok (.istore_n 3, 1) := by decide +kernel
theorem dL_sums_323 : decode cL_sums 323 = .ok (.iinc 13 1, 3) := by decide +kernel
theorem dL_sums_326 : decode cL_sums 326 = .ok (.goto (-218), 3) := by decide +kernel
theorem dL_sums_329 : decode cL_sums 329 = .ok (.iload 12, 2) := by decide +kernel
theorem dL_sums_331 : decode cL_sums 331 = .ok (.ifCond .le 19, 3) := by decide +kernel
theorem dL_sums_334 : decode cL_sums 334 = .ok (.iload 12, 2) := by decide +kernel
theorem dL_sums_336 : decode cL_sums 336 = .ok (.aload_n 0, 1) := by decide +kernel
theorem dL_sums_337 : decode cL_sums 337 = .ok (.iload 9, 2) := by decide +kernel
theorem dL_sums_339 : decode cL_sums 339 = .ok (.iconst 1, 1) := by decide +kernel
theorem dL_sums_340 : decode cL_sums 340 = .ok (.invokestatic 224, 3) := by decide +kernel
theorem dL_sums_343 : decode cL_sums 343 = .ok (.if_icmp .ne 7, 3) := by decide +kernel
theorem dL_sums_346 : decode cL_sums 346 = .ok (.iconst 1, 1) := by decide +kernel
theorem dL_sums_347 : decode cL_sums 347 = .ok (.goto 4, 3) := by decide +kernel
theorem dL_sums_350 : decode cL_sums 350 = .ok (.iconst 0, 1) := by decide +kernel
theorem dL_sums_351 : decode cL_sums 351 = .ok (.istore 13, 2) := by decide +kernel
theorem dL_sums_353 : decode cL_sums 353 = .ok (.iload 7, 2) := by decide +kernel
theorem dL_sums_355 : decode cL_sums 355 = .ok (.iload 13, 2) := by decide +kernel
theorem dL_sums_357 : decode cL_sums 357 = .ok (.ifCond .eq 7, 3) := by decide +kernel
theorem dL_sums_360 : decode cL_sums 360 = .ok (.iconst 1, 1) := by decide +kernel
theorem dL_sums_361 : decode cL_sums 361 = .ok (.goto 4, 3) := by decide +kernel
theorem dL_sums_364 : decode cL_sums 364 = .ok (.iconst 0, 1) := by decide +kernel
theorem dL_sums_365 : decode cL_sums 365 = .ok (.iadd, 1) := by decide +kernel
theorem dL_sums_366 : decode cL_sums 366 = .ok (.istore 7, 2) := by decide +kernel
theorem dL_sums_368 : decode cL_sums 368 = .ok (.iload 6, 2) := by decide +kernel
theorem dL_sums_370 : decode cL_sums 370 = .ok (.iload 10, 2) := by decide +kernel
theorem dL_sums_372 : decode cL_sums 372 = .ok (.ifCond .lt 12, 3) := by decide +kernel
theorem dL_sums_375 : decode cL_sums 375 = .ok (.iload 13, 2) := by decide +kernel
theorem dL_sums_377 : decode cL_sums 377 = .ok (.ifCond .ne 7, 3) := by decide +kernel
theorem dL_sums_380 : decode cL_sums 380 = .ok (.iconst 1, 1) := by decide +kernel
theorem dL_sums_381 : decode cL_sums 381 = .ok (.goto 4, 3) := by decide +kernel
theorem dL_sums_384 : decode cL_sums 384 = .ok (.iconst 0, 1) := by decide +kernel
theorem dL_sums_385 : decode cL_sums 385 = .ok (.iadd, 1) := by decide +kernel
theorem dL_sums_386 : decode cL_sums 386 = .ok (.istore 6, 2) := by decide +kernel
theorem dL_sums_388 : decode cL_sums 388 = .ok (.iload 8, 2) := by decide +kernel
theorem dL_sums_390 : decode cL_sums 390 = .ok (.iload 11, 2) := by decide +kernel
theorem dL_sums_392 : decode cL_sums 392 = .ok (.iadd, 1) := by decide +kernel
theorem dL_sums_393 : decode cL_sums 393 = .ok (.istore 8, 2) := by decide +kernel
theorem dL_sums_395 : decode cL_sums 395 = .ok (.iload 4, 2) := by decide +kernel
theorem dL_sums_397 : decode cL_sums 397 = .ok (.iload 12, 2) := by decide +kernel
theorem dL_sums_399 : decode cL_sums 399 = .ok (.iadd, 1) := by decide +kernel
theorem dL_sums_400 : decode cL_sums 400 = .ok (.istore 4, 2) := by decide +kernel
theorem dL_sums_402 : decode cL_sums 402 = .ok (.aload_n 0, 1) := by decide +kernel
theorem dL_sums_403 : decode cL_sums 403 = .ok (.iload 9, 2) := by decide +kernel
theorem dL_sums_405 : decode cL_sums 405 = .ok (.iconst 3, 1) := by decide +kernel
theorem dL_sums_406 : decode cL_sums 406 = .ok (.invokestatic 224, 3) := by decide +kernel
theorem dL_sums_409 : decode cL_sums 409 = .ok (.iload 11, 2) := by decide +kernel
theorem dL_sums_411 : decode cL_sums 411 = .ok (.if_icmp .ne 35, 3) := by decide +kernel
theorem dL_sums_414 : decode cL_sums 414 = .ok (.aload_n 0, 1) := by decide +kernel
theorem dL_sums_415 : decode cL_sums 415 = .ok (.iload 9, 2) := by decide +kernel
theorem dL_sums_417 : decode cL_sums 417 = .ok (.iconst 4, 1) := by decide +kernel
theorem dL_sums_418 : decode cL_sums 418 = .ok (.invokestatic 224, 3) := by decide +kernel
theorem dL_sums_421 : decode cL_sums 421 = .ok (.iload 12, 2) := by decide +kernel
theorem dL_sums_423 : decode cL_sums 423 = .ok (.if_icmp .ne 23, 3) := by decide +kernel
theorem dL_sums_426 : decode cL_sums 426 = .ok (.aload_n 0, 1) := by decide +kernel
theorem dL_sums_427 : decode cL_sums 427 = .ok (.iload 9, 2) := by decide +kernel
theorem dL_sums_429 : decode cL_sums 429 = .ok (.iconst 5, 1) := by decide +kernel
theorem dL_sums_430 : decode cL_sums 430 = .ok (.invokestatic 224, 3) := by decide +kernel
theorem dL_sums_433 : decode cL_sums 433 = .ok (.iload 13, 2) := by decide +kernel
theorem dL_sums_435 : decode cL_sums 435 = .ok (.ifCond .eq 7, 3) := by decide +kernel
theorem dL_sums_438 : decode cL_sums 438 = .ok (.iconst 1, 1) := by decide +kernel
theorem dL_sums_439 : decode cL_sums 439 = .ok (.goto 4, 3) := by decide +kernel
theorem dL_sums_442 : decode cL_sums 442 = .ok (.iconst 0, 1) := by decide +kernel
theorem dL_sums_443 : decode cL_sums 443 = .ok (.if_icmp .eq 5, 3) := by decide +kernel
theorem dL_sums_446 : decode cL_sums 446 = .ok (.iconst 0, 1) := by decide +kernel
theorem dL_sums_447 : decode cL_sums 447 = .ok (.ireturn, 1) := by decide +kernel
theorem dL_sums_448 : decode cL_sums 448 = .ok (.iinc 9 1, 3) := by decide +kernel
theorem dL_sums_451 : decode cL_sums 451 = .ok (.goto (-371), 3) := by decide +kernel
theorem dL_sums_454 : decode cL_sums 454 = .ok (.iconst 0, 1) := by decide +kernel
theorem dL_sums_455 : decode cL_sums 455 = .ok (.istore 9, 2) := by decide +kernel
theorem dL_sums_457 : decode cL_sums 457 = .ok (.iload 9, 2) := by decide +kernel
theorem dL_sums_459 : decode cL_sums 459 = .ok (.bipush 12, 2) := by decide +kernel
theorem dL_sums_461 : decode cL_sums 461 = .ok (.if_icmp .ge 50, 3) := by decide +kernel
theorem dL_sums_464 : decode cL_sums 464 = .ok (.aload_n 1, 1) := by decide +kernel
theorem dL_sums_465 : decode cL_sums 465 = .ok (.iload 9, 2) := by decide +kernel
theorem dL_sums_467 : decode cL_sums 467 = .ok (.iaload, 1) := by decide +kernel
theorem dL_sums_468 : decode cL_sums 468 = .ok (.sipush 1999, 3) := by decide +kernel
theorem dL_sums_471 : decode cL_sums 471 = .ok (.if_icmp .gt 32, 3) := by decide +kernel
theorem dL_sums_474 : decode cL_sums 474 = .ok (.aload_n 0, 1) := by decide +kernel
theorem dL_sums_475 : decode cL_sums 475 = .ok (.iload 9, 2) := by decide +kernel
theorem dL_sums_477 : decode cL_sums 477 = .ok (.invokestatic 193, 3) := by decide +kernel
theorem dL_sums_480 : decode cL_sums 480 = .ok (.aload_n 1, 1) := by decide +kernel
theorem dL_sums_481 : decode cL_sums 481 = .ok (.iload 9, 2) := by decide +kernel
theorem dL_sums_483 : decode cL_sums 483 = .ok (.iaload, 1) := by decide +kernel
theorem dL_sums_484 : decode cL_sums 484 = .ok (.ifCond .ne 8, 3) := by decide +kernel
theorem dL_sums_487 : decode cL_sums 487 = .ok (.bipush (-13), 2) := by decide +kernel
theorem dL_sums_489 : decode cL_sums 489 = .ok (.goto 11, 3) := by decide +kernel
theorem dL_sums_492 : decode cL_sums 492 = .ok (.aload_n 1, 1) := by decide +kernel
theorem dL_sums_493 : decode cL_sums 493 = .ok (.iload 9, 2) := by decide +kernel
theorem dL_sums_495 : decode cL_sums 495 = .ok (.iaload, 1) := by decide +kernel
theorem dL_sums_496 : decode cL_sums 496 = .ok (.sipush 1000, 3) := by decide +kernel
theorem dL_sums_499 : decode cL_sums 499 = .ok (.isub, 1) := by decide +kernel
theorem dL_sums_500 : decode cL_sums 500 = .ok (.if_icmp .eq 5, 3) := by decide +kernel
theorem dL_sums_503 : decode cL_sums 503 = .ok (.iconst 0, 1) := by decide +kernel
theorem dL_sums_504 : decode cL_sums 504 = .ok (.ireturn, 1) := by decide +kernel
theorem dL_sums_505 : decode cL_sums 505 = .ok (.iinc 9 1, 3) := by decide +kernel
theorem dL_sums_508 : decode cL_sums 508 = .ok (.goto (-51), 3) := by decide +kernel
theorem dL_sums_511 : decode cL_sums 511 = .ok (.aload_n 0, 1) := by decide +kernel
theorem dL_sums_512 : decode cL_sums 512 = .ok (.bipush 12, 2) := by decide +kernel
theorem dL_sums_514 : decode cL_sums 514 = .ok (.invokevirtual 182, 3) := by decide +kernel
theorem dL_sums_517 : decode cL_sums 517 = .ok (.ifCond .eq 22, 3) := by decide +kernel
theorem dL_sums_520 : decode cL_sums 520 = .ok (.aload_n 0, 1) := by decide +kernel
theorem dL_sums_521 : decode cL_sums 521 = .ok (.invokevirtual 233, 3) := by decide +kernel
theorem dL_sums_524 : decode cL_sums 524 = .ok (.iload 5, 2) := by decide +kernel
theorem dL_sums_526 : decode cL_sums 526 = .ok (.i2f, 1) := by decide +kernel
theorem dL_sums_527 : decode cL_sums 527 = .ok (.aload_n 0, 1) := by decide +kernel
theorem dL_sums_528 : decode cL_sums 528 = .ok (.bipush 12, 2) := by decide +kernel
theorem dL_sums_530 : decode cL_sums 530 = .ok (.invokevirtual 182, 3) := by decide +kernel
theorem dL_sums_533 : decode cL_sums 533 = .ok (.i2f, 1) := by decide +kernel
theorem dL_sums_534 : decode cL_sums 534 = .ok (.fdiv, 1) := by decide +kernel
theorem dL_sums_535 : decode cL_sums 535 = .ok (.fcmp .l, 1) := by decide +kernel
theorem dL_sums_536 : decode cL_sums 536 = .ok (.ifCond .ne 7, 3) := by decide +kernel
theorem dL_sums_539 : decode cL_sums 539 = .ok (.iconst 1, 1) := by decide +kernel
theorem dL_sums_540 : decode cL_sums 540 = .ok (.goto 4, 3) := by decide +kernel
theorem dL_sums_543 : decode cL_sums 543 = .ok (.iconst 0, 1) := by decide +kernel
theorem dL_sums_544 : decode cL_sums 544 = .ok (.istore 9, 2) := by decide +kernel
theorem dL_sums_546 : decode cL_sums 546 = .ok (.aload_n 0, 1) := by decide +kernel
theorem dL_sums_547 : decode cL_sums 547 = .ok (.invokevirtual 237, 3) := by decide +kernel
theorem dL_sums_550 : decode cL_sums 550 = .ok (.ifCond .eq 96, 3) := by decide +kernel
theorem dL_sums_553 : decode cL_sums 553 = .ok (.aload_n 0, 1) := by decide +kernel
theorem dL_sums_554 : decode cL_sums 554 = .ok (.iconst 1, 1) := by decide +kernel
theorem dL_sums_555 : decode cL_sums 555 = .ok (.invokevirtual 182, 3) := by decide +kernel
theorem dL_sums_558 : decode cL_sums 558 = .ok (.iload_n 2, 1) := by decide +kernel
theorem dL_sums_559 : decode cL_sums 559 = .ok (.if_icmp .ne 87, 3) := by decide +kernel
theorem dL_sums_562 : decode cL_sums 562 = .ok (.aload_n 0, 1) := by decide +kernel
theorem dL_sums_563 : decode cL_sums 563 = .ok (.iconst 3, 1) := by decide +kernel
theorem dL_sums_564 : decode cL_sums 564 = .ok (.invokevirtual 182, 3) := by decide +kernel
theorem dL_sums_567 : decode cL_sums 567 = .ok (.iload 6, 2) := by decide +kernel
theorem dL_sums_569 : decode cL_sums 569 = .ok (.if_icmp .ne 77, 3) := by decide +kernel
theorem dL_sums_572 : decode cL_sums 572 = .ok (.aload_n 0, 1) := by decide +kernel
theorem dL_sums_573 : decode cL_sums 573 = .ok (.iconst 4, 1) := by decide +kernel
theorem dL_sums_574 : decode cL_sums 574 = .ok (.invokevirtual 182, 3) := by decide +kernel
theorem dL_sums_577 : decode cL_sums 577 = .ok (.iload 7, 2) := by decide +kernel
theorem dL_sums_579 : decode cL_sums 579 = .ok (.if_icmp .ne 67, 3) := by decide +kernel
theorem dL_sums_582 : decode cL_sums 582 = .ok (.aload_n 0, 1) := by decide +kernel
theorem dL_sums_583 : decode cL_sums 583 = .ok (.iconst 5, 1) := by decide +kernel
theorem dL_sums_584 : decode cL_sums 584 = .ok (.invokevirtual 182, 3) := by decide +kernel
theorem dL_sums_587 : decode cL_sums 587 = .ok (.iload 8, 2) := by decide +kernel
theorem dL_sums_589 : decode cL_sums 589 = .ok (.if_icmp .ne 57, 3) := by decide +kernel
theorem dL_sums_592 : decode cL_sums 592 = .ok (.aload_n 0, 1) := by decide +kernel
theorem dL_sums_593 : decode cL_sums 593 = .ok (.bipush 6, 2) := by decide +kernel
theorem dL_sums_595 : decode cL_sums 595 = .ok (.invokevirtual 182, 3) := by decide +kernel
theorem dL_sums_598 : decode cL_sums 598 = .ok (.iload 4, 2) := by decide +kernel
theorem dL_sums_600 : decode cL_sums 600 = .ok (.if_icmp .ne 46, 3) := by decide +kernel
theorem dL_sums_603 : decode cL_sums 603 = .ok (.aload_n 0, 1) := by decide +kernel
theorem dL_sums_604 : decode cL_sums 604 = .ok (.bipush 7, 2) := by decide +kernel
theorem dL_sums_606 : decode cL_sums 606 = .ok (.invokevirtual 182, 3) := by decide +kernel
theorem dL_sums_609 : decode cL_sums 609 = .ok (.iload 5, 2) := by decide +kernel
theorem dL_sums_611 : decode cL_sums 611 = .ok (.if_icmp .ne 35, 3) := by decide +kernel
theorem dL_sums_614 : decode cL_sums 614 = .ok (.aload_n 0, 1) := by decide +kernel
theorem dL_sums_615 : decode cL_sums 615 = .ok (.bipush 8, 2) := by decide +kernel
theorem dL_sums_617 : decode cL_sums 617 = .ok (.invokevirtual 182, 3) := by decide +kernel
theorem dL_sums_620 : decode cL_sums 620 = .ok (.iload_n 3, 1) := by decide +kernel
theorem dL_sums_621 : decode cL_sums 621 = .ok (.if_icmp .ne 25, 3) := by decide +kernel
theorem dL_sums_624 : decode cL_sums 624 = .ok (.aload_n 0, 1) := by decide +kernel
theorem dL_sums_625 : decode cL_sums 625 = .ok (.bipush 12, 2) := by decide +kernel
theorem dL_sums_627 : decode cL_sums 627 = .ok (.invokevirtual 182, 3) := by decide +kernel
theorem dL_sums_630 : decode cL_sums 630 = .ok (.iload_n 3, 1) := by decide +kernel
theorem dL_sums_631 : decode cL_sums 631 = .ok (.iload 5, 2) := by decide +kernel
theorem dL_sums_633 : decode cL_sums 633 = .ok (.iadd, 1) := by decide +kernel
theorem dL_sums_634 : decode cL_sums 634 = .ok (.if_icmp .ne 12, 3) := by decide +kernel
theorem dL_sums_637 : decode cL_sums 637 = .ok (.iload 9, 2) := by decide +kernel
theorem dL_sums_639 : decode cL_sums 639 = .ok (.ifCond .eq 7, 3) := by decide +kernel
theorem dL_sums_642 : decode cL_sums 642 = .ok (.iconst 1, 1) := by decide +kernel
theorem dL_sums_643 : decode cL_sums 643 = .ok (.goto 4, 3) := by decide +kernel
theorem dL_sums_646 : decode cL_sums 646 = .ok (.iconst 0, 1) := by decide +kernel
theorem dL_sums_647 : decode cL_sums 647 = .ok (.ireturn, 1) := by decide +kernel
theorem dL_expected_0 : decode cL_expected 0 = .ok (.iconst 0, 1) := by decide +kernel
theorem dL_expected_1 : decode cL_expected 1 = .ok (.istore_n 3, 1) := by decide +kernel
theorem dL_expected_2 : decode cL_expected 2 = .ok (.iconst 0, 1) := by decide +kernel
theorem dL_expected_3 : decode cL_expected 3 = .ok (.istore 4, 2) := by decide +kernel
theorem dL_expected_5 : decode cL_expected 5 = .ok (.iload 4, 2) := by decide +kernel
theorem dL_expected_7 : decode cL_expected 7 = .ok (.aload_n 0, 1) := by decide +kernel
theorem dL_expected_8 : decode cL_expected 8 = .ok (.iload_n 1, 1) := by decide +kernel
theorem dL_expected_9 : decode cL_expected 9 = .ok (.iconst 1, 1) := by decide +kernel
theorem dL_expected_10 : decode cL_expected 10 = .ok (.invokestatic 224, 3) := by decide +kernel
theorem dL_expected_13 : decode cL_expected 13 = .ok (.if_icmp .ge 114, 3) := by decide +kernel
theorem dL_expected_16 : decode cL_expected 16 = .ok (.iload_n 2, 1) := by decide +kernel
theorem dL_expected_17 : decode cL_expected 17 = .ok (.iload 4, 2) := by decide +kernel
theorem dL_expected_19 : decode cL_expected 19 = .ok (.iconst 1, 1) := by decide +kernel
theorem dL_expected_20 : decode cL_expected 20 = .ok (.aload_n 0, 1) := by decide +kernel
theorem dL_expected_21 : decode cL_expected 21 = .ok (.iload_n 1, 1) := by decide +kernel
theorem dL_expected_22 : decode cL_expected 22 = .ok (.iconst 0, 1) := by decide +kernel
theorem dL_expected_23 : decode cL_expected 23 = .ok (.invokestatic 224, 3) := by decide +kernel
theorem dL_expected_26 : decode cL_expected 26 = .ok (.iadd, 1) := by decide +kernel
theorem dL_expected_27 : decode cL_expected 27 = .ok (.imul, 1) := by decide +kernel
theorem dL_expected_28 : decode cL_expected 28 = .ok (.isub, 1) := by decide +kernel
theorem dL_expected_29 : decode cL_expected 29 = .ok (.istore 5, 2) := by decide +kernel
theorem dL_expected_31 : decode cL_expected 31 = .ok (.iload 5, 2) := by decide +kernel
theorem dL_expected_33 : decode cL_expected 33 = .ok (.ifCond .lt 14, 3) := by decide +kernel
theorem dL_expected_36 : decode cL_expected 36 = .ok (.iload 5, 2) := by decide +kernel
theorem dL_expected_38 : decode cL_expected 38 = .ok (.bipush 12, 2) := by decide +kernel
theorem dL_expected_40 : decode cL_expected 40 = .ok (.if_icmp .ge 7, 3) := by decide +kernel
theorem dL_expected_43 : decode cL_expected 43 = .ok (.iconst 1, 1) := by decide +kernel
theorem dL_expected_44 : decode cL_expected 44 = .ok (.goto 4, 3) := by decide +kernel
theorem dL_expected_47 : decode cL_expected 47 = .ok (.iconst 0, 1) := by decide +kernel
theorem dL_expected_48 : decode cL_expected 48 = .ok (.istore 6, 2) := by decide +kernel
theorem dL_expected_50 : decode cL_expected 50 = .ok (.iload 6, 2) := by decide +kernel
theorem dL_expected_52 : decode cL_expected 52 = .ok (.ifCond .eq 32, 3) := by decide +kernel
theorem dL_expected_55 : decode cL_expected 55 = .ok (.aload_n 0, 1) := by decide +kernel
theorem dL_expected_56 : decode cL_expected 56 = .ok (.iload 5, 2) := by decide +kernel
theorem dL_expected_58 : decode cL_expected 58 = .ok (.invokestatic 193, 3) := by decide +kernel
theorem dL_expected_61 : decode cL_expected 61 = .ok (.ifCond .lt 23, 3) := by decide +kernel
theorem dL_expected_64 : decode cL_expected 64 = .ok (.aload_n 0, 1) := by decide +kernel
theorem dL_expected_65 : decode cL_expected 65 = .ok (.iload 5, 2) := by decide +kernel
theorem dL_expected_67 : decode cL_expected 67 = .ok (.invokestatic 193, 3) := by decide +kernel
theorem dL_expected_70 : decode cL_expected 70 = .ok (.bipush 10, 2) := by decide +kernel
theorem dL_expected_72 : decode cL_expected 72 = .ok (.idiv, 1) := by decide +kernel
theorem dL_expected_73 : decode cL_expected 73 = .ok (.iload_n 1, 1) := by decide +kernel
theorem dL_expected_74 : decode cL_expected 74 = .ok (.if_icmp .eq 10, 3) := by decide +kernel
theorem dL_expected_77 : decode cL_expected 77 = .ok (.sipush 700, 3) := by decide +kernel
theorem dL_expected_80 : decode cL_expected 80 = .ok (.iload 5, 2) := by decide +kernel
theorem dL_expected_82 : decode cL_expected 82 = .ok (.iadd, 1) := by decide +kernel
theorem dL_expected_83 : decode cL_expected 83 = .ok (.ireturn, 1) := by decide +kernel
theorem dL_expected_84 : decode cL_expected 84 = .ok (.iload 6, 2) := by decide +kernel
theorem dL_expected_86 : decode cL_expected 86 = .ok (.ifCond .eq 33, 3) := by decide +kernel
theorem dL_expected_89 : decode cL_expected 89 = .ok (.iload_n 3, 1) := by decide +kernel
theorem dL_expected_90 : decode cL_expected 90 = .ok (.ifCond .ne 29, 3) := by decide +kernel
theorem dL_expected_93 : decode cL_expected 93 = .ok (.aload_n 0, 1) := by decide +kernel
theorem dL_expected_94 : decode cL_expected 94 = .ok (.iload 5, 2) := by decide +kernel
theorem dL_expected_96 : decode cL_expected 96 = .ok (.invokestatic 195, 3) := by decide +kernel
theorem dL_expected_99 : decode cL_expected 99 = .ok (.aload_n 0, 1) := by decide +kernel
theorem dL_expected_100 : decode cL_expected 100 = .ok (.iload_n 1, 1) := by decide +kernel
theorem dL_expected_101 : decode cL_expected 101 = .ok (.iload 4, 2) := by decide +kernel
theorem dL_expected_103 : decode cL_expected 103 = .ok (.invokevirtual 229, 3) := by decide +kernel
theorem dL_expected_106 : decode cL_expected 106 = .ok (.fcmp .g, 1) := by decide +kernel
theorem dL_expected_107 : decode cL_expected 107 = .ok (.ifCond .ge 12, 3) := by decide +kernel
theorem dL_expected_110 : decode cL_expected 110 = .ok (.sipush 800, 3) := by decide +kernel
theorem dL_expected_113 : decode cL_expected 113 = .ok (.iload 5, 2) := by decide +kernel
theorem dL_expected_115 : decode cL_expected 115 = .ok (.iadd, 1) := by decide +kernel
theorem dL_expected_116 : decode cL_expected 116 = .ok (.goto 4, 3) := by decide +kernel
theorem dL_expected_119 : decode cL_expected 119 = .ok (.iload_n 3, 1) := by decide +kernel
theorem dL_expected_120 : decode cL_expected 120 = .ok (.istore_n 3, 1) := by decide +kernel
theorem dL_expected_121 : decode cL_expected 121 = .ok (.iinc 4 1, 3) := by decide +kernel
theorem dL_expected_124 : decode cL_expected 124 = .ok (.goto (-119), 3) := by decide +kernel
theorem dL_expected_127 : decode cL_expected 127 = .ok (.iload_n 3, 1) := by decide +kernel
theorem dL_expected_128 : decode cL_expected 128 = .ok (.ireturn, 1) := by decide +kernel
theorem dL_reasons_0 : decode cL_reasons 0 = .ok (.iconst 0, 1) := by decide +kernel
theorem dL_reasons_1 : decode cL_reasons 1 = .ok (.istore_n 1, 1) := by decide +kernel
theorem dL_reasons_2 : decode cL_reasons 2 = .ok (.iload_n 1, 1) := by decide +kernel
theorem dL_reasons_3 : decode cL_reasons 3 = .ok (.aload_n 0, 1) := by decide +kernel
theorem dL_reasons_4 : decode cL_reasons 4 = .ok (.iconst 2, 1) := by decide +kernel
theorem dL_reasons_5 : decode cL_reasons 5 = .ok (.invokevirtual 182, 3) := by decide +kernel
theorem dL_reasons_8 : decode cL_reasons 8 = .ok (.if_icmp .ge 351, 3) := by decide +kernel
theorem dL_reasons_11 : decode cL_reasons 11 = .ok (.aload_n 0, 1) := by decide +kernel
theorem dL_reasons_12 : decode cL_reasons 12 = .ok (.iload_n 1, 1) := by decide +kernel
theorem dL_reasons_13 : decode cL_reasons 13 = .ok (.iconst 2, 1) := by decide +kernel
theorem dL_reasons_14 : decode cL_reasons 14 = .ok (.invokestatic 224, 3) := by decide +kernel
theorem dL_reasons_17 : decode cL_reasons 17 = .ok (.istore_n 2, 1) := by decide +kernel
theorem dL_reasons_18 : decode cL_reasons 18 = .ok (.iload_n 2, 1) := by decide +kernel
theorem dL_reasons_19 : decode cL_reasons 19 = .ok (.ifCond .ge 11, 3) := by decide +kernel
theorem dL_reasons_22 : decode cL_reasons 22 = .ok (.sipush 400, 3) := by decide +kernel
theorem dL_reasons_25 : decode cL_reasons 25 = .ok (.iload_n 1, 1) := by decide +kernel
theorem dL_reasons_26 : decode cL_reasons 26 = .ok (.iadd, 1) := by decide +kernel
theorem dL_reasons_27 : decode cL_reasons 27 = .ok (.goto 29, 3) := by decide +kernel
theorem dL_reasons_30 : decode cL_reasons 30 = .ok (.aload_n 0, 1) := by decide +kernel
theorem dL_reasons_31 : decode cL_reasons 31 = .ok (.iload_n 1, 1) := by decide +kernel
theorem dL_reasons_32 : decode cL_reasons 32 = .ok (.iconst 5, 1) := by decide +kernel
theorem dL_reasons_33 : decode cL_reasons 33 = .ok (.invokestatic 224, 3) := by decide +kernel
theorem dL_reasons_36 : decode cL_reasons 36 = .ok (.iconst 1, 1) := by decide +kernel
theorem dL_reasons_37 : decode cL_reasons 37 = .ok (.if_icmp .ne 11, 3) := by decide +kernel
theorem dL_reasons_40 : decode cL_reasons 40 = .ok (.sipush 600, 3) := by decide +kernel
theorem dL_reasons_43 : decode cL_reasons 43 = .ok (.iload_n 1, 1) := by decide +kernel
theorem dL_reasons_44 : decode cL_reasons 44 = .ok (.iadd, 1) := by decide +kernel
theorem dL_reasons_45 : decode cL_reasons 45 = .ok (.goto 11, 3) := by decide +kernel
theorem dL_reasons_48 : decode cL_reasons 48 = .ok (.aload_n 0, 1) := by decide +kernel
theorem dL_reasons_49 : decode cL_reasons 49 = .ok (.iload_n 1, 1) := by decide +kernel
theorem dL_reasons_50 : decode cL_reasons 50 = .ok (.iload_n 2, 1) := by decide +kernel
theorem dL_reasons_51 : decode cL_reasons 51 = .ok (.iconst 1, 1) := by decide +kernel
theorem dL_reasons_52 : decode cL_reasons 52 = .ok (.iadd, 1) := by decide +kernel
theorem dL_reasons_53 : decode cL_reasons 53 = .ok (.invokestatic 241, 3) := by decide +kernel
theorem dL_reasons_56 : decode cL_reasons 56 = .ok (.istore_n 3, 1) := by decide +kernel
theorem dL_reasons_57 : decode cL_reasons 57 = .ok (.iconst 0, 1) := by decide +kernel
theorem dL_reasons_58 : decode cL_reasons 58 = .ok (.istore 4, 2) := by decide +kernel
theorem dL_reasons_60 : decode cL_reasons 60 = .ok (.iconst 0, 1) := by decide +kernel
theorem dL_reasons_61 : decode cL_reasons 61 = .ok (.istore 5, 2) := by decide +kernel
theorem dL_reasons_63 : decode cL_reasons 63 = .ok (.iload 5, 2) := by decide +kernel
theorem dL_reasons_65 : decode cL_reasons 65 = .ok (.aload_n 0, 1) := by decide +kernel
theorem dL_reasons_66 : decode cL_reasons 66 = .ok (.iload_n 1, 1) := by decide +kernel
theorem dL_reasons_67 : decode cL_reasons 67 = .ok (.iconst 1, 1) := by decide +kernel
theorem dL_reasons_68 : decode cL_reasons 68 = .ok (.invokestatic 224, 3) := by decide +kernel
theorem dL_reasons_71 : decode cL_reasons 71 = .ok (.if_icmp .ge 48, 3) := by decide +kernel
theorem dL_reasons_74 : decode cL_reasons 74 = .ok (.iload_n 2, 1) := by decide +kernel
theorem dL_reasons_75 : decode cL_reasons 75 = .ok (.iconst 1, 1) := by decide +kernel
theorem dL_reasons_76 : decode cL_reasons 76 = .ok (.iadd, 1) := by decide +kernel
theorem dL_reasons_77 : decode cL_reasons 77 = .ok (.iload 5, 2) := by decide +kernel
theorem dL_reasons_79 : decode cL_reasons 79 = .ok (.iconst 1, 1) := by decide +kernel
theorem dL_reasons_80 : decode cL_reasons 80 = .ok (.aload_n 0, 1) := by decide +kernel
theorem dL_reasons_81 : decode cL_reasons 81 = .ok (.iload_n 1, 1) := by decide +kernel
theorem dL_reasons_82 : decode cL_reasons 82 = .ok (.iconst 0, 1) := by decide +kernel
theorem dL_reasons_83 : decode cL_reasons 83 = .ok (.invokestatic 224, 3) := by decide +kernel
theorem dL_reasons_86 : decode cL_reasons 86 = .ok (.iadd, 1) := by decide +kernel
theorem dL_reasons_87 : decode cL_reasons 87 = .ok (.imul, 1) := by decide +kernel
theorem dL_reasons_88 : decode cL_reasons 88 = .ok (.isub, 1) := by decide +kernel
theorem dL_reasons_89 : decode cL_reasons 89 = .ok (.istore 6, 2) := by decide +kernel
theorem dL_reasons_91 : decode cL_reasons 91 = .ok (.iload 4, 2) := by decide +kernel
theorem dL_reasons_93 : decode cL_reasons 93 = .ok (.iload 6, 2) := by decide +kernel
theorem dL_reasons_95 : decode cL_reasons 95 = .ok (.ifCond .lt 14, 3) := by decide +kernel
theorem dL_reasons_98 : decode cL_reasons 98 = .ok (.iload 6, 2) := by decide +kernel
theorem dL_reasons_100 : decode cL_reasons 100 = .ok (.bipush 12, 2) := by decide +kernel
theorem dL_reasons_102 : decode cL_reasons 102 = .ok (.if_icmp .ge 7, 3) := by decide +kernel
theorem dL_reasons_105 : decode cL_reasons 105 = .ok (.iconst 1, 1) := by decide +kernel
theorem dL_reasons_106 : decode cL_reasons 106 = .ok (.goto 4, 3) := by decide +kernel
theorem dL_reasons_109 : decode cL_reasons 109 = .ok (.iconst 0, 1) := by decide +kernel
theorem dL_reasons_110 : decode cL_reasons 110 = .ok (.iadd, 1) := by decide +kernel
theorem dL_reasons_111 : decode cL_reasons 111 = .ok (.istore 4, 2) := by decide +kernel
theorem dL_reasons_113 : decode cL_reasons 113 = .ok (.iinc 5 1, 3) := by decide +kernel
theorem dL_reasons_116 : decode cL_reasons 116 = .ok (.goto (-53), 3) := by decide +kernel
theorem dL_reasons_119 : decode cL_reasons 119 = .ok (.aload_n 0, 1) := by decide +kernel
theorem dL_reasons_120 : decode cL_reasons 120 = .ok (.iload_n 1, 1) := by decide +kernel
theorem dL_reasons_121 : decode cL_reasons 121 = .ok (.iconst 0, 1) := by decide +kernel
theorem dL_reasons_122 : decode cL_reasons 122 = .ok (.invokestatic 244, 3) := by decide +kernel
theorem dL_reasons_125 : decode cL_reasons 125 = .ok (.iload_n 3, 1) := by decide +kernel
theorem dL_reasons_126 : decode cL_reasons 126 = .ok (.bipush 100, 2) := by decide +kernel
theorem dL_reasons_128 : decode cL_reasons 128 = .ok (.idiv, 1) := by decide +kernel
theorem dL_reasons_129 : decode cL_reasons 129 = .ok (.if_icmp .ne 16, 3) := by decide +kernel
theorem dL_reasons_132 : decode cL_reasons 132 = .ok (.aload_n 0, 1) := by decide +kernel
theorem dL_reasons_133 : decode cL_reasons 133 = .ok (.iload_n 1, 1) := by decide +kernel
theorem dL_reasons_134 : decode cL_reasons 134 = .ok (.iconst 1, 1) := by decide +kernel
theorem dL_reasons_135 : decode cL_reasons 135 = .ok (.invokestatic 244, 3) := by decide +kernel
theorem dL_reasons_138 : decode cL_reasons 138 = .ok (.iload_n 3, 1) := by decide +kernel
theorem dL_reasons_139 : decode cL_reasons 139 = .ok (.bipush 100, 2) := by decide +kernel
theorem dL_reasons_141 : decode cL_reasons 141 = .ok (.irem, 1) := by decide +kernel
theorem dL_reasons_142 : decode cL_reasons 142 = .ok (.if_icmp .eq 5, 3) := by decide +kernel
theorem dL_reasons_145 : decode cL_reasons 145 = .ok (.iconst 0, 1) := by decide +kernel
theorem dL_reasons_146 : decode cL_reasons 146 = .ok (.ireturn, 1) := by decide +kernel
theorem dL_reasons_147 : decode cL_reasons 147 = .ok (.aload_n 0, 1) := by decide +kernel
theorem dL_reasons_148 : decode cL_reasons 148 = .ok (.iload_n 1, 1) := by decide +kernel
theorem dL_reasons_149 : decode cL_reasons 149 = .ok (.invokestatic 154, 3) := by decide +kernel
theorem dL_reasons_152 : decode cL_reasons 152 = .ok (.istore 5, 2) := by decide +kernel
theorem dL_reasons_154 : decode cL_reasons 154 = .ok (.iload_n 3, 1) := by decide +kernel
theorem dL_reasons_155 : decode cL_reasons 155 = .ok (.ifCond .le 37, 3) := by decide +kernel
theorem dL_reasons_158 : decode cL_reasons 158 = .ok (.iload 5, 2) := by decide +kernel
theorem dL_reasons_160 : decode cL_reasons 160 = .ok (.bipush (-2), 2) := by decide +kernel
theorem dL_reasons_162 : decode cL_reasons 162 = .ok (.if_icmp .ne 63, 3) := by decide +kernel
theorem dL_reasons_165 : decode cL_reasons 165 = .ok (.aload_n 0, 1) := by decide +kernel
theorem dL_reasons_166 : decode cL_reasons 166 = .ok (.iconst 0, 1) := by decide +kernel
theorem dL_reasons_167 : decode cL_reasons 167 = .ok (.invokestatic 156, 3) := by decide +kernel
theorem dL_reasons_170 : decode cL_reasons 170 = .ok (.iload_n 3, 1) := by decide +kernel
theorem dL_reasons_171 : decode cL_reasons 171 = .ok (.bipush 100, 2) := by decide +kernel
theorem dL_reasons_173 : decode cL_reasons 173 = .ok (.idiv, 1) := by decide +kernel
theorem dL_reasons_174 : decode cL_reasons 174 = .ok (.if_icmp .ne 51, 3) := by decide +kernel
theorem dL_reasons_177 : decode cL_reasons 177 = .ok (.aload_n 0, 1) := by decide +kernel
theorem dL_reasons_178 : decode cL_reasons 178 = .ok (.iconst 1, 1) := by decide +kernel
theorem dL_reasons_179 : decode cL_reasons 179 = .ok (.invokestatic 156, 3) := by decide +kernel
theorem dL_reasons_182 : decode cL_reasons 182 = .ok (.iload_n 3, 1) := by decide +kernel
theorem dL_reasons_183 : decode cL_reasons 183 = .ok (.bipush 100, 2) := by decide +kernel
theorem dL_reasons_185 : decode cL_reasons 185 = .ok (.irem, 1) := by decide +kernel
theorem dL_reasons_186 : decode cL_reasons 186 = .ok (.if_icmp .eq 41, 3) := by decide +kernel
theorem dL_reasons_189 : decode cL_reasons 189 = .ok (.goto 36, 3) := by decide +kernel
theorem dL_reasons_192 : decode cL_reasons 192 = .ok (.iload 5, 2) := by decide +kernel
theorem dL_reasons_194 : decode cL_reasons 194 = .ok (.iload 4, 2) := by decide +kernel
theorem dL_reasons_196 : decode cL_reasons 196 = .ok (.if_icmp .ne 29, 3) := by decide +kernel
theorem dL_reasons_199 : decode cL_reasons 199 = .ok (.aload_n 0, 1) := by decide +kernel
theorem dL_reasons_200 : decode cL_reasons 200 = .ok (.iload_n 1, 1) := by decide +kernel
theorem dL_reasons_201 : decode cL_reasons 201 = .ok (.iconst 2, 1) := by decide +kernel
theorem dL_reasons_202 : decode cL_reasons 202 = .ok (.invokestatic 224, 3) := by decide +kernel
theorem dL_reasons_205 : decode cL_reasons 205 = .ok (.iload_n 2, 1) := by decide +kernel
theorem dL_reasons_206 : decode cL_reasons 206 = .ok (.iconst 1, 1) := by decide +kernel
theorem dL_reasons_207 : decode cL_reasons 207 = .ok (.iadd, 1) := by decide +kernel
theorem dL_reasons_208 : decode cL_reasons 208 = .ok (.if_icmp .ne 17, 3) := by decide +kernel
theorem dL_reasons_211 : decode cL_reasons 211 = .ok (.aload_n 0, 1) := by decide +kernel
theorem dL_reasons_212 : decode cL_reasons 212 = .ok (.invokestatic 167, 3) := by decide +kernel
theorem dL_reasons_215 : decode cL_reasons 215 = .ok (.ifCond .eq 10, 3) := by decide +kernel
theorem dL_reasons_218 : decode cL_reasons 218 = .ok (.aload_n 0, 1) := by decide +kernel
theorem dL_reasons_219 : decode cL_reasons 219 = .ok (.invokestatic 247, 3) := by decide +kernel
theorem dL_reasons_222 : decode cL_reasons 222 = .ok (.ifCond .ge 5, 3) := by decide +kernel
theorem dL_reasons_225 : decode cL_reasons 225 = .ok (.iconst 0, 1) := by decide +kernel
theorem dL_reasons_226 : decode cL_reasons 226 = .ok (.ireturn, 1) := by decide +kernel
theorem dL_reasons_227 : decode cL_reasons 227 = .ok (.iload_n 2, 1) := by decide +kernel
theorem dL_reasons_228 : decode cL_reasons 228 = .ok (.ifCond .lt 11, 3) := by decide +kernel
theorem dL_reasons_231 : decode cL_reasons 231 = .ok (.sipush 400, 3) := by decide +kernel
theorem dL_reasons_234 : decode cL_reasons 234 = .ok (.iload_n 1, 1) := by decide +kernel
theorem dL_reasons_235 : decode cL_reasons 235 = .ok (.iadd, 1) := by decide +kernel
theorem dL_reasons_236 : decode cL_reasons 236 = .ok (.goto 26, 3) := by decide +kernel
theorem dL_reasons_239 : decode cL_reasons 239 = .ok (.aload_n 0, 1) := by decide +kernel
theorem dL_reasons_240 : decode cL_reasons 240 = .ok (.iload_n 1, 1) := by decide +kernel
theorem dL_reasons_241 : decode cL_reasons 241 = .ok (.iconst 1, 1) := by decide +kernel
theorem dL_reasons_242 : decode cL_reasons 242 = .ok (.invokestatic 224, 3) := by decide +kernel
theorem dL_reasons_245 : decode cL_reasons 245 = .ok (.ifCond .ne 11, 3) := by decide +kernel
theorem dL_reasons_248 : decode cL_reasons 248 = .ok (.sipush 500, 3) := by decide +kernel
theorem dL_reasons_251 : decode cL_reasons 251 = .ok (.iload_n 1, 1) := by decide +kernel
theorem dL_reasons_252 : decode cL_reasons 252 = .ok (.iadd, 1) := by decide +kernel
theorem dL_reasons_253 : decode cL_reasons 253 = .ok (.goto 9, 3) := by decide +kernel
theorem dL_reasons_256 : decode cL_reasons 256 = .ok (.aload_n 0, 1) := by decide +kernel
theorem dL_reasons_257 : decode cL_reasons 257 = .ok (.iload_n 1, 1) := by decide +kernel
theorem dL_reasons_258 : decode cL_reasons 258 = .ok (.iconst 0, 1) := by decide +kernel
theorem dL_reasons_259 : decode cL_reasons 259 = .ok (.invokestatic 241, 3) := by decide +kernel
theorem dL_reasons_262 : decode cL_reasons 262 = .ok (.istore 6, 2) := by decide +kernel
theorem dL_reasons_264 : decode cL_reasons 264 = .ok (.aload_n 0, 1) := by decide +kernel
theorem dL_reasons_265 : decode cL_reasons 265 = .ok (.iload_n 1, 1) := by decide +kernel
theorem dL_reasons_266 : decode cL_reasons 266 = .ok (.invokestatic 152, 3) := by decide +kernel
theorem dL_reasons_269 : decode cL_reasons 269 = .ok (.istore 7, 2) := by decide +kernel
theorem dL_reasons_271 : decode cL_reasons 271 = .ok (.iload 6, 2) := by decide +kernel
theorem dL_reasons_273 : decode cL_reasons 273 = .ok (.ifCond .le 39, 3) := by decide +kernel
theorem dL_reasons_276 : decode cL_reasons 276 = .ok (.iload 7, 2) := by decide +kernel
theorem dL_reasons_278 : decode cL_reasons 278 = .ok (.bipush (-2), 2) := by decide +kernel
theorem dL_reasons_280 : decode cL_reasons 280 = .ok (.if_icmp .ne 71, 3) := by decide +kernel
theorem dL_reasons_283 : decode cL_reasons 283 = .ok (.aload_n 0, 1) := by decide +kernel
theorem dL_reasons_284 : decode cL_reasons 284 = .ok (.iconst 0, 1) := by decide +kernel
theorem dL_reasons_285 : decode cL_reasons 285 = .ok (.invokestatic 156, 3) := by decide +kernel
theorem dL_reasons_288 : decode cL_reasons 288 = .ok (.iload 6, 2) := by decide +kernel
theorem dL_reasons_290 : decode cL_reasons 290 = .ok (.bipush 100, 2) := by decide +kernel
theorem dL_reasons_292 : decode cL_reasons 292 = .ok (.idiv, 1) := by decide +kernel
theorem dL_reasons_293 : decode cL_reasons 293 = .ok (.if_icmp .ne 58, 3) := by decide +kernel
theorem dL_reasons_296 : decode cL_reasons 296 = .ok (.aload_n 0, 1) := by decide +kernel
theorem dL_reasons_297 : decode cL_reasons 297 = .ok (.iconst 1, 1) := by decide +kernel
theorem dL_reasons_298 : decode cL_reasons 298 = .ok (.invokestatic 156, 3) := by decide +kernel
theorem dL_reasons_301 : decode cL_reasons 301 = .ok (.iload 6, 2) := by decide +kernel
theorem dL_reasons_303 : decode cL_reasons 303 = .ok (.bipush 100, 2) := by decide +kernel
theorem dL_reasons_305 : decode cL_reasons 305 = .ok (.irem, 1) := by decide +kernel
theorem dL_reasons_306 : decode cL_reasons 306 = .ok (.if_icmp .eq 47, 3) := by decide +kernel
theorem dL_reasons_309 : decode cL_reasons 309 = .ok (.goto 42, 3) := by decide +kernel
theorem dL_reasons_312 : decode cL_reasons 312 = .ok (.iload 7, 2) := by decide +kernel
theorem dL_reasons_314 : decode cL_reasons 314 = .ok (.aload_n 0, 1) := by decide +kernel
theorem dL_reasons_315 : decode cL_reasons 315 = .ok (.iload_n 1, 1) := by decide +kernel
theorem dL_reasons_316 : decode cL_reasons 316 = .ok (.iconst 1, 1) := by decide +kernel
theorem dL_reasons_317 : decode cL_reasons 317 = .ok (.invokestatic 224, 3) := by decide +kernel
theorem dL_reasons_320 : decode cL_reasons 320 = .ok (.if_icmp .ne 31, 3) := by decide +kernel
theorem dL_reasons_323 : decode cL_reasons 323 = .ok (.aload_n 0, 1) := by decide +kernel
theorem dL_reasons_324 : decode cL_reasons 324 = .ok (.iload_n 1, 1) := by decide +kernel
theorem dL_reasons_325 : decode cL_reasons 325 = .ok (.iconst 2, 1) := by decide +kernel
theorem dL_reasons_326 : decode cL_reasons 326 = .ok (.invokestatic 224, 3) := by decide +kernel
theorem dL_reasons_329 : decode cL_reasons 329 = .ok (.ifCond .ne 22, 3) := by decide +kernel
theorem dL_reasons_332 : decode cL_reasons 332 = .ok (.aload_n 0, 1) := by decide +kernel
theorem dL_reasons_333 : decode cL_reasons 333 = .ok (.iconst 0, 1) := by decide +kernel
theorem dL_reasons_334 : decode cL_reasons 334 = .ok (.invokestatic 193, 3) := by decide +kernel
theorem dL_reasons_337 : decode cL_reasons 337 = .ok (.bipush 10, 2) := by decide +kernel
theorem dL_reasons_339 : decode cL_reasons 339 = .ok (.iload_n 1, 1) := by decide +kernel
theorem dL_reasons_340 : decode cL_reasons 340 = .ok (.imul, 1) := by decide +kernel
theorem dL_reasons_341 : decode cL_reasons 341 = .ok (.if_icmp .ne 10, 3) := by decide +kernel
theorem dL_reasons_344 : decode cL_reasons 344 = .ok (.aload_n 0, 1) := by decide +kernel
theorem dL_reasons_345 : decode cL_reasons 345 = .ok (.invokestatic 247, 3) := by decide +kernel
theorem dL_reasons_348 : decode cL_reasons 348 = .ok (.ifCond .ge 5, 3) := by decide +kernel
theorem dL_reasons_351 : decode cL_reasons 351 = .ok (.iconst 0, 1) := by decide +kernel
theorem dL_reasons_352 : decode cL_reasons 352 = .ok (.ireturn, 1) := by decide +kernel
theorem dL_reasons_353 : decode cL_reasons 353 = .ok (.iinc 1 1, 3) := by decide +kernel
theorem dL_reasons_356 : decode cL_reasons 356 = .ok (.goto (-354), 3) := by decide +kernel
theorem dL_reasons_359 : decode cL_reasons 359 = .ok (.iconst 1, 1) := by decide +kernel
theorem dL_reasons_360 : decode cL_reasons 360 = .ok (.ireturn, 1) := by decide +kernel
theorem dL_ahead_0 : decode cL_ahead 0 = .ok (.iconst 0, 1) := by decide +kernel
theorem dL_ahead_1 : decode cL_ahead 1 = .ok (.istore_n 2, 1) := by decide +kernel
theorem dL_ahead_2 : decode cL_ahead 2 = .ok (.iload_n 2, 1) := by decide +kernel
theorem dL_ahead_3 : decode cL_ahead 3 = .ok (.aload_n 1, 1) := by decide +kernel
theorem dL_ahead_4 : decode cL_ahead 4 = .ok (.iconst 2, 1) := by decide +kernel
theorem dL_ahead_5 : decode cL_ahead 5 = .ok (.invokevirtual 182, 3) := by decide +kernel
theorem dL_ahead_8 : decode cL_ahead 8 = .ok (.if_icmp .ge 159, 3) := by decide +kernel
theorem dL_ahead_11 : decode cL_ahead 11 = .ok (.aload_n 1, 1) := by decide +kernel
theorem dL_ahead_12 : decode cL_ahead 12 = .ok (.iload_n 2, 1) := by decide +kernel
theorem dL_ahead_13 : decode cL_ahead 13 = .ok (.iconst 0, 1) := by decide +kernel
theorem dL_ahead_14 : decode cL_ahead 14 = .ok (.invokestatic 249, 3) := by decide +kernel
theorem dL_ahead_17 : decode cL_ahead 17 = .ok (.istore_n 3, 1) := by decide +kernel
theorem dL_ahead_18 : decode cL_ahead 18 = .ok (.aload_n 1, 1) := by decide +kernel
theorem dL_ahead_19 : decode cL_ahead 19 = .ok (.iload_n 2, 1) := by decide +kernel
theorem dL_ahead_20 : decode cL_ahead 20 = .ok (.iconst 1, 1) := by decide +kernel
theorem dL_ahead_21 : decode cL_ahead 21 = .ok (.invokestatic 249, 3) := by decide +kernel
theorem dL_ahead_24 : decode cL_ahead 24 = .ok (.iload_n 3, 1) := by decide +kernel
theorem dL_ahead_25 : decode cL_ahead 25 = .ok (.if_icmp .ne 29, 3) := by decide +kernel
theorem dL_ahead_28 : decode cL_ahead 28 = .ok (.iload_n 3, 1) := by decide +kernel
theorem dL_ahead_29 : decode cL_ahead 29 = .ok (.ifCond .ne 7, 3) := by decide +kernel
theorem dL_ahead_32 : decode cL_ahead 32 = .ok (.iconst 1, 1) := by decide +kernel
theorem dL_ahead_33 : decode cL_ahead 33 = .ok (.goto 4, 3) := by decide +kernel
theorem dL_ahead_36 : decode cL_ahead 36 = .ok (.iconst 0, 1) := by decide +kernel
theorem dL_ahead_37 : decode cL_ahead 37 = .ok (.aload_n 1, 1) := by decide +kernel
theorem dL_ahead_38 : decode cL_ahead 38 = .ok (.iload_n 2, 1) := by decide +kernel
theorem dL_ahead_39 : decode cL_ahead 39 = .ok (.iconst 0, 1) := by decide +kernel
theorem dL_ahead_40 : decode cL_ahead 40 = .ok (.invokestatic 244, 3) := by decide +kernel
theorem dL_ahead_43 : decode cL_ahead 43 = .ok (.ifCond .eq 7, 3) := by decide +kernel
theorem dL_ahead_46 : decode cL_ahead 46 = .ok (.iconst 1, 1) := by decide +kernel
theorem dL_ahead_47 : decode cL_ahead 47 = .ok (.goto 4, 3) := by decide +kernel
theorem dL_ahead_50 : decode cL_ahead 50 = .ok (.iconst 0, 1) := by decide +kernel
theorem dL_ahead_51 : decode cL_ahead 51 = .ok (.if_icmp .eq 5, 3) := by decide +kernel
theorem dL_ahead_54 : decode cL_ahead 54 = .ok (.iconst 0, 1) := by decide +kernel
theorem dL_ahead_55 : decode cL_ahead 55 = .ok (.ireturn, 1) := by decide +kernel
theorem dL_ahead_56 : decode cL_ahead 56 = .ok (.aload_n 1, 1) := by decide +kernel
theorem dL_ahead_57 : decode cL_ahead 57 = .ok (.iload_n 2, 1) := by decide +kernel
theorem dL_ahead_58 : decode cL_ahead 58 = .ok (.iconst 2, 1) := by decide +kernel
theorem dL_ahead_59 : decode cL_ahead 59 = .ok (.invokestatic 224, 3) := by decide +kernel
theorem dL_ahead_62 : decode cL_ahead 62 = .ok (.istore 4, 2) := by decide +kernel
theorem dL_ahead_64 : decode cL_ahead 64 = .ok (.iload_n 3, 1) := by decide +kernel
theorem dL_ahead_65 : decode cL_ahead 65 = .ok (.bipush 8, 2) := by decide +kernel
theorem dL_ahead_67 : decode cL_ahead 67 = .ok (.invokestatic 251, 3) := by decide +kernel
theorem dL_ahead_70 : decode cL_ahead 70 = .ok (.istore 5, 2) := by decide +kernel
theorem dL_ahead_72 : decode cL_ahead 72 = .ok (.iconst 0, 1) := by decide +kernel
theorem dL_ahead_73 : decode cL_ahead 73 = .ok (.istore 6, 2) := by decide +kernel
theorem dL_ahead_75 : decode cL_ahead 75 = .ok (.iload 6, 2) := by decide +kernel
theorem dL_ahead_77 : decode cL_ahead 77 = .ok (.iload 5, 2) := by decide +kernel
theorem dL_ahead_79 : decode cL_ahead 79 = .ok (.if_icmp .ge 34, 3) := by decide +kernel
theorem dL_ahead_82 : decode cL_ahead 82 = .ok (.aload_n 1, 1) := by decide +kernel
theorem dL_ahead_83 : decode cL_ahead 83 = .ok (.iload_n 2, 1) := by decide +kernel
theorem dL_ahead_84 : decode cL_ahead 84 = .ok (.invokestatic 154, 3) := by decide +kernel
theorem dL_ahead_87 : decode cL_ahead 87 = .ok (.ifCond .lt 18, 3) := by decide +kernel
theorem dL_ahead_90 : decode cL_ahead 90 = .ok (.aload_n 1, 1) := by decide +kernel
theorem dL_ahead_91 : decode cL_ahead 91 = .ok (.iload_n 2, 1) := by decide +kernel
theorem dL_ahead_92 : decode cL_ahead 92 = .ok (.iconst 0, 1) := by decide +kernel
theorem dL_ahead_93 : decode cL_ahead 93 = .ok (.invokestatic 249, 3) := by decide +kernel
theorem dL_ahead_96 : decode cL_ahead 96 = .ok (.iload_n 3, 1) := by decide +kernel
theorem dL_ahead_97 : decode cL_ahead 97 = .ok (.iload 6, 2) := by decide +kernel
theorem dL_ahead_99 : decode cL_ahead 99 = .ok (.isub, 1) := by decide +kernel
theorem dL_ahead_100 : decode cL_ahead 100 = .ok (.iconst 1, 1) := by decide +kernel
theorem dL_ahead_101 : decode cL_ahead 101 = .ok (.isub, 1) := by decide +kernel
theorem dL_ahead_102 : decode cL_ahead 102 = .ok (.if_icmp .eq 5, 3) := by decide +kernel
theorem dL_ahead_105 : decode cL_ahead 105 = .ok (.iconst 0, 1) := by decide +kernel
theorem dL_ahead_106 : decode cL_ahead 106 = .ok (.ireturn, 1) := by decide +kernel
theorem dL_ahead_107 : decode cL_ahead 107 = .ok (.iinc 6 1, 3) := by decide +kernel
theorem dL_ahead_110 : decode cL_ahead 110 = .ok (.goto (-35), 3) := by decide +kernel
theorem dL_ahead_113 : decode cL_ahead 113 = .ok (.iconst 0, 1) := by decide +kernel
theorem dL_ahead_114 : decode cL_ahead 114 = .ok (.istore 6, 2) := by decide +kernel
theorem dL_ahead_116 : decode cL_ahead 116 = .ok (.iload 6, 2) := by decide +kernel
theorem dL_ahead_118 : decode cL_ahead 118 = .ok (.iload 5, 2) := by decide +kernel
theorem dL_ahead_120 : decode cL_ahead 120 = .ok (.if_icmp .ge 18, 3) := by decide +kernel
theorem dL_ahead_123 : decode cL_ahead 123 = .ok (.aload_n 1, 1) := by decide +kernel
theorem dL_ahead_124 : decode cL_ahead 124 = .ok (.invokestatic 247, 3) := by decide +kernel
theorem dL_ahead_127 : decode cL_ahead 127 = .ok (.ifCond .ge 5, 3) := by decide +kernel
theorem dL_ahead_130 : decode cL_ahead 130 = .ok (.iconst 0, 1) := by decide +kernel
theorem dL_ahead_131 : decode cL_ahead 131 = .ok (.ireturn, 1) := by decide +kernel
theorem dL_ahead_132 : decode cL_ahead 132 = .ok (.iinc 6 1, 3) := by decide +kernel
theorem dL_ahead_135 : decode cL_ahead 135 = .ok (.goto (-19), 3) := by decide +kernel
theorem dL_ahead_138 : decode cL_ahead 138 = .ok (.aload_n 1, 1) := by decide +kernel
theorem dL_ahead_139 : decode cL_ahead 139 = .ok (.iload_n 2, 1) := by decide +kernel
theorem dL_ahead_140 : decode cL_ahead 140 = .ok (.iconst 2, 1) := by decide +kernel
theorem dL_ahead_141 : decode cL_ahead 141 = .ok (.invokestatic 224, 3) := by decide +kernel
theorem dL_ahead_144 : decode cL_ahead 144 = .ok (.iload 4, 2) := by decide +kernel
theorem dL_ahead_146 : decode cL_ahead 146 = .ok (.if_icmp .ne 13, 3) := by decide +kernel
theorem dL_ahead_149 : decode cL_ahead 149 = .ok (.aload_n 1, 1) := by decide +kernel
theorem dL_ahead_150 : decode cL_ahead 150 = .ok (.iload_n 2, 1) := by decide +kernel
theorem dL_ahead_151 : decode cL_ahead 151 = .ok (.iconst 0, 1) := by decide +kernel
theorem dL_ahead_152 : decode cL_ahead 152 = .ok (.invokestatic 249, 3) := by decide +kernel
theorem dL_ahead_155 : decode cL_ahead 155 = .ok (.iload_n 3, 1) := by decide +kernel
theorem dL_ahead_156 : decode cL_ahead 156 = .ok (.if_icmp .eq 5, 3) := by decide +kernel
theorem dL_ahead_159 : decode cL_ahead 159 = .ok (.iconst 0, 1) := by decide +kernel
theorem dL_ahead_160 : decode cL_ahead 160 = .ok (.ireturn, 1) := by decide +kernel
theorem dL_ahead_161 : decode cL_ahead 161 = .ok (.iinc 2 1, 3) := by decide +kernel
theorem dL_ahead_164 : decode cL_ahead 164 = .ok (.goto (-162), 3) := by decide +kernel
theorem dL_ahead_167 : decode cL_ahead 167 = .ok (.aload_n 0, 1) := by decide +kernel
theorem dL_ahead_168 : decode cL_ahead 168 = .ok (.bipush 45, 2) := by decide +kernel
theorem dL_ahead_170 : decode cL_ahead 170 = .ok (.invokestatic 125, 3) := by decide +kernel
theorem dL_ahead_173 : decode cL_ahead 173 = .ok (.iconst 1, 1) := by decide +kernel
theorem dL_ahead_174 : decode cL_ahead 174 = .ok (.iushr, 1) := by decide +kernel
theorem dL_ahead_175 : decode cL_ahead 175 = .ok (.bipush 12, 2) := by decide +kernel
theorem dL_ahead_177 : decode cL_ahead 177 = .ok (.irem, 1) := by decide +kernel
theorem dL_ahead_178 : decode cL_ahead 178 = .ok (.istore_n 2, 1) := by decide +kernel
theorem dL_ahead_179 : decode cL_ahead 179 = .ok (.iconst 1, 1) := by decide +kernel
theorem dL_ahead_180 : decode cL_ahead 180 = .ok (.aload_n 0, 1) := by decide +kernel
theorem dL_ahead_181 : decode cL_ahead 181 = .ok (.bipush 46, 2) := by decide +kernel
theorem dL_ahead_183 : decode cL_ahead 183 = .ok (.invokestatic 125, 3) := by decide +kernel
theorem dL_ahead_186 : decode cL_ahead 186 = .ok (.iconst 1, 1) := by decide +kernel
theorem dL_ahead_187 : decode cL_ahead 187 = .ok (.iushr, 1) := by decide +kernel
theorem dL_ahead_188 : decode cL_ahead 188 = .ok (.bipush 99, 2) := by decide +kernel
theorem dL_ahead_190 : decode cL_ahead 190 = .ok (.irem, 1) := by decide +kernel
theorem dL_ahead_191 : decode cL_ahead 191 = .ok (.iadd, 1) := by decide +kernel
theorem dL_ahead_192 : decode cL_ahead 192 = .ok (.istore_n 3, 1) := by decide +kernel
theorem dL_ahead_193 : decode cL_ahead 193 = .ok (.aload_n 1, 1) := by decide +kernel
theorem dL_ahead_194 : decode cL_ahead 194 = .ok (.iload_n 2, 1) := by decide +kernel
theorem dL_ahead_195 : decode cL_ahead 195 = .ok (.iload_n 3, 1) := by decide +kernel
theorem dL_ahead_196 : decode cL_ahead 196 = .ok (.invokestatic 254, 3) := by decide +kernel
theorem dL_ahead_199 : decode cL_ahead 199 = .ok (.istore 4, 2) := by decide +kernel
theorem dL_ahead_201 : decode cL_ahead 201 = .ok (.iconst 1, 1) := by decide +kernel
theorem dL_ahead_202 : decode cL_ahead 202 = .ok (.istore 5, 2) := by decide +kernel
theorem dL_ahead_204 : decode cL_ahead 204 = .ok (.iload 5, 2) := by decide +kernel
theorem dL_ahead_206 : decode cL_ahead 206 = .ok (.bipush 10, 2) := by decide +kernel
theorem dL_ahead_208 : decode cL_ahead 208 = .ok (.if_icmp .ge 189, 3) := by decide +kernel
theorem dL_ahead_211 : decode cL_ahead 211 = .ok (.bipush 12, 2) := by decide +kernel
theorem dL_ahead_213 : decode cL_ahead 213 = .ok (.newarray .int, 2) := by decide +kernel
theorem dL_ahead_215 : decode cL_ahead 215 = .ok (.astore 6, 2) := by decide +kernel
theorem dL_ahead_217 : decode cL_ahead 217 = .ok (.aload_n 1, 1) := by decide +kernel
theorem dL_ahead_218 : decode cL_ahead 218 = .ok (.bipush 10, 2) := by decide +kernel
theorem dL_ahead_220 : decode cL_ahead 220 = .ok (.invokevirtual 182, 3) := by decide +kernel
theorem dL_ahead_223 : decode cL_ahead 223 = .ok (.istore 7, 2) := by decide +kernel
theorem dL_ahead_225 : decode cL_ahead 225 = .ok (.iconst 0, 1) := by decide +kernel
theorem dL_ahead_226 : decode cL_ahead 226 = .ok (.istore 8, 2) := by decide +kernel
theorem dL_ahead_228 : decode cL_ahead 228 = .ok (.iload 8, 2) := by decide +kernel
theorem dL_ahead_230 : decode cL_ahead 230 = .ok (.bipush 12, 2) := by decide +kernel
theorem dL_ahead_232 : decode cL_ahead 232 = .ok (.if_icmp .ge 22, 3) := by decide +kernel
theorem dL_ahead_235 : decode cL_ahead 235 = .ok (.aload 6, 2) := by decide +kernel
theorem dL_ahead_237 : decode cL_ahead 237 = .ok (.iload 8, 2) := by decide +kernel
theorem dL_ahead_239 : decode cL_ahead 239 = .ok (.aload_n 1, 1) := by decide +kernel
theorem dL_ahead_240 : decode cL_ahead 240 = .ok (.iload 8, 2) := by decide +kernel
theorem dL_ahead_242 : decode cL_ahead 242 = .ok (.iload 5, 2) := by decide +kernel
theorem dL_ahead_244 : decode cL_ahead 244 = .ok (.invokestatic 256, 3) := by decide +kernel
theorem dL_ahead_247 : decode cL_ahead 247 = .ok (.iastore, 1) := by decide +kernel
theorem dL_ahead_248 : decode cL_ahead 248 = .ok (.iinc 8 1, 3) := by decide +kernel
theorem dL_ahead_251 : decode cL_ahead 251 = .ok (.goto (-23), 3) := by decide +kernel
theorem dL_ahead_254 : decode cL_ahead 254 = .ok (.aload_n 1, 1) := by decide +kernel
theorem dL_ahead_255 : decode cL_ahead 255 = .ok (.iload 5, 2) := by decide +kernel
theorem dL_ahead_257 : decode cL_ahead 257 = .ok (.invokestatic 132, 3) := by decide +kernel
theorem dL_ahead_260 : decode cL_ahead 260 = .ok (.istore 8, 2) := by decide +kernel
theorem dL_ahead_262 : decode cL_ahead 262 = .ok (.aload_n 1, 1) := by decide +kernel
theorem dL_ahead_263 : decode cL_ahead 263 = .ok (.iload_n 2, 1) := by decide +kernel
theorem dL_ahead_264 : decode cL_ahead 264 = .ok (.invokevirtual 145, 3) := by decide +kernel
theorem dL_ahead_267 : decode cL_ahead 267 = .ok (.fstore 9, 2) := by decide +kernel
theorem dL_ahead_269 : decode cL_ahead 269 = .ok (.fload 9, 2) := by decide +kernel
theorem dL_ahead_271 : decode cL_ahead 271 = .ok (.fload 9, 2) := by decide +kernel
theorem dL_ahead_273 : decode cL_ahead 273 = .ok (.fmul, 1) := by decide +kernel
theorem dL_ahead_274 : decode cL_ahead 274 = .ok (.ldc 190, 2) := by decide +kernel
theorem dL_ahead_276 : decode cL_ahead 276 = .ok (.fmul, 1) := by decide +kernel
theorem dL_ahead_277 : decode cL_ahead 277 = .ok (.iload_n 3, 1) := by decide +kernel
theorem dL_ahead_278 : decode cL_ahead 278 = .ok (.i2f, 1) := by decide +kernel
theorem dL_ahead_279 : decode cL_ahead 279 = .ok (.fcmp .l, 1) := by decide +kernel
theorem dL_ahead_280 : decode cL_ahead 280 = .ok (.ifCond .lt 7, 3) := by decide +kernel
theorem dL_ahead_283 : decode cL_ahead 283 = .ok (.iconst 1, 1) := by decide +kernel
theorem dL_ahead_284 : decode cL_ahead 284 = .ok (.goto 4, 3) := by decide +kernel
theorem dL_ahead_287 : decode cL_ahead 287 = .ok (.iconst 0, 1) := by decide +kernel
theorem dL_ahead_288 : decode cL_ahead 288 = .ok (.istore 10, 2) := by decide +kernel
theorem dL_ahead_290 : decode cL_ahead 290 = .ok (.iload 8, 2) := by decide +kernel
theorem dL_ahead_292 : decode cL_ahead 292 = .ok (.ifCond .lt 53, 3) := by decide +kernel
theorem dL_ahead_295 : decode cL_ahead 295 = .ok (.aload_n 1, 1) := by decide +kernel
theorem dL_ahead_296 : decode cL_ahead 296 = .ok (.bipush 10, 2) := by decide +kernel
theorem dL_ahead_298 : decode cL_ahead 298 = .ok (.invokevirtual 182, 3) := by decide +kernel
theorem dL_ahead_301 : decode cL_ahead 301 = .ok (.iload 7, 2) := by decide +kernel
theorem dL_ahead_303 : decode cL_ahead 303 = .ok (.iload 8, 2) := by decide +kernel
theorem dL_ahead_305 : decode cL_ahead 305 = .ok (.isub, 1) := by decide +kernel
theorem dL_ahead_306 : decode cL_ahead 306 = .ok (.if_icmp .ne 39, 3) := by decide +kernel
theorem dL_ahead_309 : decode cL_ahead 309 = .ok (.iload 4, 2) := by decide +kernel
theorem dL_ahead_311 : decode cL_ahead 311 = .ok (.iload 5, 2) := by decide +kernel
theorem dL_ahead_313 : decode cL_ahead 313 = .ok (.if_icmp .ne 8, 3) := by decide +kernel
theorem dL_ahead_316 : decode cL_ahead 316 = .ok (.iload 10, 2) := by decide +kernel
theorem dL_ahead_318 : decode cL_ahead 318 = .ok (.ifCond .eq 27, 3) := by decide +kernel
theorem dL_ahead_321 : decode cL_ahead 321 = .ok (.iload 4, 2) := by decide +kernel
theorem dL_ahead_323 : decode cL_ahead 323 = .ok (.ifCond .lt 10, 3) := by decide +kernel
theorem dL_ahead_326 : decode cL_ahead 326 = .ok (.iload 4, 2) := by decide +kernel
theorem dL_ahead_328 : decode cL_ahead 328 = .ok (.iload 5, 2) := by decide +kernel
theorem dL_ahead_330 : decode cL_ahead 330 = .ok (.if_icmp .le 8, 3) := by decide +kernel
theorem dL_ahead_333 : decode cL_ahead 333 = .ok (.iload 10, 2) := by decide +kernel
theorem dL_ahead_335 : decode cL_ahead 335 = .ok (.ifCond .ne 10, 3) := by decide +kernel
theorem dL_ahead_338 : decode cL_ahead 338 = .ok (.aload_n 1, 1) := by decide +kernel
theorem dL_ahead_339 : decode cL_ahead 339 = .ok (.invokestatic 163, 3) := by decide +kernel
theorem dL_ahead_342 : decode cL_ahead 342 = .ok (.ifCond .ne 5, 3) := by decide +kernel
theorem dL_ahead_345 : decode cL_ahead 345 = .ok (.iconst 0, 1) := by decide +kernel
theorem dL_ahead_346 : decode cL_ahead 346 = .ok (.ireturn, 1) := by decide +kernel
theorem dL_ahead_347 : decode cL_ahead 347 = .ok (.iconst 0, 1) := by decide +kernel
theorem dL_ahead_348 : decode cL_ahead 348 = .ok (.istore 11, 2) := by decide +kernel
theorem dL_ahead_350 : decode cL_ahead 350 = .ok (.iload 11, 2) := by decide +kernel
theorem dL_ahead_352 : decode cL_ahead 352 = .ok (.bipush 12, 2) := by decide +kernel
theorem dL_ahead_354 : decode cL_ahead 354 = .ok (.if_icmp .ge 28, 3) := by decide +kernel
theorem dL_ahead_357 : decode cL_ahead 357 = .ok (.aload_n 1, 1) := by decide +kernel
theorem dL_ahead_358 : decode cL_ahead 358 = .ok (.iload 11, 2) := by decide +kernel
theorem dL_ahead_360 : decode cL_ahead 360 = .ok (.invokevirtual 145, 3) := by decide +kernel
theorem dL_ahead_363 : decode cL_ahead 363 = .ok (.invokestatic 148, 3) := by decide +kernel
theorem dL_ahead_366 : decode cL_ahead 366 = .ok (.aload 6, 2) := by decide +kernel
theorem dL_ahead_368 : decode cL_ahead 368 = .ok (.iload 11, 2) := by decide +kernel
theorem dL_ahead_370 : decode cL_ahead 370 = .ok (.iaload, 1) := by decide +kernel
theorem dL_ahead_371 : decode cL_ahead 371 = .ok (.if_icmp .eq 5, 3) := by decide +kernel
theorem dL_ahead_374 : decode cL_ahead 374 = .ok (.iconst 0, 1) := by decide +kernel
theorem dL_ahead_375 : decode cL_ahead 375 = .ok (.ireturn, 1) := by decide +kernel
theorem dL_ahead_376 : decode cL_ahead 376 = .ok (.iinc 11 1, 3) := by decide +kernel
theorem dL_ahead_379 : decode cL_ahead 379 = .ok (.goto (-29), 3) := by decide +kernel
theorem dL_ahead_382 : decode cL_ahead 382 = .ok (.aload_n 1, 1) := by decide +kernel
theorem dL_ahead_383 : decode cL_ahead 383 = .ok (.invokestatic 247, 3) := by decide +kernel
theorem dL_ahead_386 : decode cL_ahead 386 = .ok (.ifCond .ge 5, 3) := by decide +kernel
theorem dL_ahead_389 : decode cL_ahead 389 = .ok (.iconst 0, 1) := by decide +kernel
theorem dL_ahead_390 : decode cL_ahead 390 = .ok (.ireturn, 1) := by decide +kernel
theorem dL_ahead_391 : decode cL_ahead 391 = .ok (.iinc 5 1, 3) := by decide +kernel
theorem dL_ahead_394 : decode cL_ahead 394 = .ok (.goto (-190), 3) := by decide +kernel
theorem dL_ahead_397 : decode cL_ahead 397 = .ok (.iload 4, 2) := by decide +kernel
theorem dL_ahead_399 : decode cL_ahead 399 = .ok (.ifCond .ne 7, 3) := by decide +kernel
theorem dL_ahead_402 : decode cL_ahead 402 = .ok (.iconst 1, 1) := by decide +kernel
theorem dL_ahead_403 : decode cL_ahead 403 = .ok (.goto 4, 3) := by decide +kernel
theorem dL_ahead_406 : decode cL_ahead 406 = .ok (.iconst 0, 1) := by decide +kernel
theorem dL_ahead_407 : decode cL_ahead 407 = .ok (.aload_n 1, 1) := by decide +kernel
theorem dL_ahead_408 : decode cL_ahead 408 = .ok (.iload_n 2, 1) := by decide +kernel
theorem dL_ahead_409 : decode cL_ahead 409 = .ok (.invokevirtual 145, 3) := by decide +kernel
theorem dL_ahead_412 : decode cL_ahead 412 = .ok (.aload_n 1, 1) := by decide +kernel
theorem dL_ahead_413 : decode cL_ahead 413 = .ok (.iload_n 2, 1) := by decide +kernel
theorem dL_ahead_414 : decode cL_ahead 414 = .ok (.invokevirtual 145, 3) := by decide +kernel
theorem dL_ahead_417 : decode cL_ahead 417 = .ok (.fmul, 1) := by decide +kernel
theorem dL_ahead_418 : decode cL_ahead 418 = .ok (.ldc 190, 2) := by decide +kernel
theorem dL_ahead_420 : decode cL_ahead 420 = .ok (.fmul, 1) := by decide +kernel
theorem dL_ahead_421 : decode cL_ahead 421 = .ok (.iload_n 3, 1) := by decide +kernel
theorem dL_ahead_422 : decode cL_ahead 422 = .ok (.i2f, 1) := by decide +kernel
theorem dL_ahead_423 : decode cL_ahead 423 = .ok (.fcmp .l, 1) := by decide +kernel
theorem dL_ahead_424 : decode cL_ahead 424 = .ok (.ifCond .lt 7, 3) := by decide +kernel
theorem dL_ahead_427 : decode cL_ahead 427 = .ok (.iconst 1, 1) := by decide +kernel
theorem dL_ahead_428 : decode cL_ahead 428 = .ok (.goto 4, 3) := by decide +kernel
theorem dL_ahead_431 : decode cL_ahead 431 = .ok (.iconst 0, 1) := by decide +kernel
theorem dL_ahead_432 : decode cL_ahead 432 = .ok (.if_icmp .ne 7, 3) := by decide +kernel
theorem dL_ahead_435 : decode cL_ahead 435 = .ok (.iconst 1, 1) := by decide +kernel
theorem dL_ahead_436 : decode cL_ahead 436 = .ok (.goto 4, 3) := by decide +kernel
theorem dL_ahead_439 : decode cL_ahead 439 = .ok (.iconst 0, 1) := by decide +kernel
theorem dL_ahead_440 : decode cL_ahead 440 = .ok (.ireturn, 1) := by decide +kernel
theorem dL_sum_0 : decode cL_sum 0 = .ok (.ldc2_w 258, 3) := by decide +kernel
theorem dL_sum_3 : decode cL_sum 3 = .ok (.lstore_n 1, 1) := by decide +kernel
theorem dL_sum_4 : decode cL_sum 4 = .ok (.iconst 0, 1) := by decide +kernel
theorem dL_sum_5 : decode cL_sum 5 = .ok (.istore_n 3, 1) := by decide +kernel
theorem dL_sum_6 : decode cL_sum 6 = .ok (.iload_n 3, 1) := by decide +kernel
theorem dL_sum_7 : decode cL_sum 7 = .ok (.bipush 13, 2) := by decide +kernel
theorem dL_sum_9 : decode cL_sum 9 = .ok (.if_icmp .ge 22, 3) := by decide +kernel
theorem dL_sum_12 : decode cL_sum 12 = .ok (.ldc2_w 260, 3) := by decide +kernel
theorem dL_sum_15 : decode cL_sum 15 = .ok (.lload_n 1, 1) := by decide +kernel
theorem dL_sum_16 : decode cL_sum 16 = .ok (.lmul, 1) := by decide +kernel
theorem dL_sum_17 : decode cL_sum 17 = .ok (.aload_n 0, 1) := by decide +kernel
theorem dL_sum_18 : decode cL_sum 18 = .ok (.iload_n 3, 1) := by decide +kernel
theorem dL_sum_19 : decode cL_sum 19 = .ok (.invokevirtual 182, 3) := by decide +kernel
theorem dL_sum_22 : decode cL_sum 22 = .ok (.i2l, 1) := by decide +kernel
theorem dL_sum_23 : decode cL_sum 23 = .ok (.ladd, 1) := by decide +kernel
theorem dL_sum_24 : decode cL_sum 24 = .ok (.lstore_n 1, 1) := by decide +kernel
theorem dL_sum_25 : decode cL_sum 25 = .ok (.iinc 3 1, 3) := by decide +kernel
theorem dL_sum_28 : decode cL_sum 28 = .ok (.goto (-22), 3) := by decide +kernel
theorem dL_sum_31 : decode cL_sum 31 = .ok (.iconst 0, 1) := by decide +kernel
theorem dL_sum_32 : decode cL_sum 32 = .ok (.istore_n 3, 1) := by decide +kernel
theorem dL_sum_33 : decode cL_sum 33 = .ok (.iload_n 3, 1) := by decide +kernel
theorem dL_sum_34 : decode cL_sum 34 = .ok (.bipush 12, 2) := by decide +kernel
theorem dL_sum_36 : decode cL_sum 36 = .ok (.if_icmp .ge 68, 3) := by decide +kernel
theorem dL_sum_39 : decode cL_sum 39 = .ok (.ldc2_w 262, 3) := by decide +kernel
theorem dL_sum_42 : decode cL_sum 42 = .ok (.lload_n 1, 1) := by decide +kernel
theorem dL_sum_43 : decode cL_sum 43 = .ok (.lmul, 1) := by decide +kernel
theorem dL_sum_44 : decode cL_sum 44 = .ok (.aload_n 0, 1) := by decide +kernel
theorem dL_sum_45 : decode cL_sum 45 = .ok (.iload_n 3, 1) := by decide +kernel
theorem dL_sum_46 : decode cL_sum 46 = .ok (.invokevirtual 145, 3) := by decide +kernel
theorem dL_sum_49 : decode cL_sum 49 = .ok (.invokestatic 148, 3) := by decide +kernel
theorem dL_sum_52 : decode cL_sum 52 = .ok (.i2l, 1) := by decide +kernel
theorem dL_sum_53 : decode cL_sum 53 = .ok (.ladd, 1) := by decide +kernel
theorem dL_sum_54 : decode cL_sum 54 = .ok (.lstore_n 1, 1) := by decide +kernel
theorem dL_sum_55 : decode cL_sum 55 = .ok (.ldc2_w 262, 3) := by decide +kernel
theorem dL_sum_58 : decode cL_sum 58 = .ok (.lload_n 1, 1) := by decide +kernel
theorem dL_sum_59 : decode cL_sum 59 = .ok (.lmul, 1) := by decide +kernel
theorem dL_sum_60 : decode cL_sum 60 = .ok (.aload_n 0, 1) := by decide +kernel
theorem dL_sum_61 : decode cL_sum 61 = .ok (.iload_n 3, 1) := by decide +kernel
theorem dL_sum_62 : decode cL_sum 62 = .ok (.invokestatic 188, 3) := by decide +kernel
theorem dL_sum_65 : decode cL_sum 65 = .ok (.i2l, 1) := by decide +kernel
theorem dL_sum_66 : decode cL_sum 66 = .ok (.ladd, 1) := by decide +kernel
theorem dL_sum_67 : decode cL_sum 67 = .ok (.lstore_n 1, 1) := by decide +kernel
theorem dL_sum_68 : decode cL_sum 68 = .ok (.iconst 0, 1) := by decide +kernel
theorem dL_sum_69 : decode cL_sum 69 = .ok (.istore 4, 2) := by decide +kernel
theorem dL_sum_71 : decode cL_sum 71 = .ok (.iload 4, 2) := by decide +kernel
theorem dL_sum_73 : decode cL_sum 73 = .ok (.iconst 5, 1) := by decide +kernel
theorem dL_sum_74 : decode cL_sum 74 = .ok (.if_icmp .ge 24, 3) := by decide +kernel
theorem dL_sum_77 : decode cL_sum 77 = .ok (.ldc2_w 264, 3) := by decide +kernel
theorem dL_sum_80 : decode cL_sum 80 = .ok (.lload_n 1, 1) := by decide +kernel
theorem dL_sum_81 : decode cL_sum 81 = .ok (.lmul, 1) := by decide +kernel
theorem dL_sum_82 : decode cL_sum 82 = .ok (.aload_n 0, 1) := by decide +kernel
theorem dL_sum_83 : decode cL_sum 83 = .ok (.iload_n 3, 1) := by decide +kernel
theorem dL_sum_84 : decode cL_sum 84 = .ok (.iload 4, 2) := by decide +kernel
theorem dL_sum_86 : decode cL_sum 86 = .ok (.invokestatic 180, 3) := by decide +kernel
theorem dL_sum_89 : decode cL_sum 89 = .ok (.i2l, 1) := by decide +kernel
theorem dL_sum_90 : decode cL_sum 90 = .ok (.ladd, 1) := by decide +kernel
theorem dL_sum_91 : decode cL_sum 91 = .ok (.lstore_n 1, 1) := by decide +kernel
theorem dL_sum_92 : decode cL_sum 92 = .ok (.iinc 4 1, 3) := by decide +kernel
theorem dL_sum_95 : decode cL_sum 95 = .ok (.goto (-24), 3) := by decide +kernel
theorem dL_sum_98 : decode cL_sum 98 = .ok (.iinc 3 1, 3) := by decide +kernel
theorem dL_sum_101 : decode cL_sum 101 = .ok (.goto (-68), 3) := by decide +kernel
theorem dL_sum_104 : decode cL_sum 104 = .ok (.iconst 0, 1) := by decide +kernel
theorem dL_sum_105 : decode cL_sum 105 = .ok (.istore_n 3, 1) := by decide +kernel
theorem dL_sum_106 : decode cL_sum 106 = .ok (.iload_n 3, 1) := by decide +kernel
theorem dL_sum_107 : decode cL_sum 107 = .ok (.bipush 10, 2) := by decide +kernel
theorem dL_sum_109 : decode cL_sum 109 = .ok (.if_icmp .ge 44, 3) := by decide +kernel
theorem dL_sum_112 : decode cL_sum 112 = .ok (.ldc2_w 266, 3) := by decide +kernel
theorem dL_sum_115 : decode cL_sum 115 = .ok (.lload_n 1, 1) := by decide +kernel
theorem dL_sum_116 : decode cL_sum 116 = .ok (.lmul, 1) := by decide +kernel
theorem dL_sum_117 : decode cL_sum 117 = .ok (.aload_n 0, 1) := by decide +kernel
theorem dL_sum_118 : decode cL_sum 118 = .ok (.iload_n 3, 1) := by decide +kernel
theorem dL_sum_119 : decode cL_sum 119 = .ok (.iconst 5, 1) := by decide +kernel
theorem dL_sum_120 : decode cL_sum 120 = .ok (.idiv, 1) := by decide +kernel
theorem dL_sum_121 : decode cL_sum 121 = .ok (.iload_n 3, 1) := by decide +kernel
theorem dL_sum_122 : decode cL_sum 122 = .ok (.iconst 5, 1) := by decide +kernel
theorem dL_sum_123 : decode cL_sum 123 = .ok (.irem, 1) := by decide +kernel
theorem dL_sum_124 : decode cL_sum 124 = .ok (.iconst 0, 1) := by decide +kernel
theorem dL_sum_125 : decode cL_sum 125 = .ok (.invokestatic 217, 3) := by decide +kernel
theorem dL_sum_128 : decode cL_sum 128 = .ok (.i2l, 1) := by decide +kernel
theorem dL_sum_129 : decode cL_sum 129 = .ok (.ladd, 1) := by decide +kernel
theorem dL_sum_130 : decode cL_sum 130 = .ok (.bipush 64, 2) := by decide +kernel
theorem dL_sum_132 : decode cL_sum 132 = .ok (.aload_n 0, 1) := by decide +kernel
theorem dL_sum_133 : decode cL_sum 133 = .ok (.iload_n 3, 1) := by decide +kernel
theorem dL_sum_134 : decode cL_sum 134 = .ok (.iconst 5, 1) := by decide +kernel
theorem dL_sum_135 : decode cL_sum 135 = .ok (.idiv, 1) := by decide +kernel
theorem dL_sum_136 : decode cL_sum 136 = .ok (.iload_n 3, 1) := by decide +kernel
theorem dL_sum_137 : decode cL_sum 137 = .ok (.iconst 5, 1) := by decide +kernel
theorem dL_sum_138 : decode cL_sum 138 = .ok (.irem, 1) := by decide +kernel
theorem dL_sum_139 : decode cL_sum 139 = .ok (.iconst 1, 1) := by decide +kernel
theorem dL_sum_140 : decode cL_sum 140 = .ok (.invokestatic 217, 3) := by decide +kernel
theorem dL_sum_143 : decode cL_sum 143 = .ok (.imul, 1) := by decide +kernel
theorem dL_sum_144 : decode cL_sum 144 = .ok (.i2l, 1) := by decide +kernel
theorem dL_sum_145 : decode cL_sum 145 = .ok (.ladd, 1) := by decide +kernel
theorem dL_sum_146 : decode cL_sum 146 = .ok (.lstore_n 1, 1) := by decide +kernel
theorem dL_sum_147 : decode cL_sum 147 = .ok (.iinc 3 1, 3) := by decide +kernel
theorem dL_sum_150 : decode cL_sum 150 = .ok (.goto (-44), 3) := by decide +kernel
theorem dL_sum_153 : decode cL_sum 153 = .ok (.iconst 0, 1) := by decide +kernel
theorem dL_sum_154 : decode cL_sum 154 = .ok (.istore_n 3, 1) := by decide +kernel
theorem dL_sum_155 : decode cL_sum 155 = .ok (.iload_n 3, 1) := by decide +kernel
theorem dL_sum_156 : decode cL_sum 156 = .ok (.aload_n 0, 1) := by decide +kernel
theorem dL_sum_157 : decode cL_sum 157 = .ok (.iconst 2, 1) := by decide +kernel
theorem dL_sum_158 : decode cL_sum 158 = .ok (.invokevirtual 182, 3) := by decide +kernel
theorem dL_sum_161 : decode cL_sum 161 = .ok (.if_icmp .ge 102, 3) := by decide +kernel
theorem dL_sum_164 : decode cL_sum 164 = .ok (.iconst 0, 1) := by decide +kernel
theorem dL_sum_165 : decode cL_sum 165 = .ok (.istore 4, 2) := by decide +kernel
theorem dL_sum_167 : decode cL_sum 167 = .ok (.iload 4, 2) := by decide +kernel
theorem dL_sum_169 : decode cL_sum 169 = .ok (.bipush 6, 2) := by decide +kernel
theorem dL_sum_171 : decode cL_sum 171 = .ok (.if_icmp .ge 24, 3) := by decide +kernel
theorem dL_sum_174 : decode cL_sum 174 = .ok (.ldc2_w 268, 3) := by decide +kernel
theorem dL_sum_177 : decode cL_sum 177 = .ok (.lload_n 1, 1) := by decide +kernel
theorem dL_sum_178 : decode cL_sum 178 = .ok (.lmul, 1) := by decide +kernel
theorem dL_sum_179 : decode cL_sum 179 = .ok (.aload_n 0, 1) := by decide +kernel
theorem dL_sum_180 : decode cL_sum 180 = .ok (.iload_n 3, 1) := by decide +kernel
theorem dL_sum_181 : decode cL_sum 181 = .ok (.iload 4, 2) := by decide +kernel
theorem dL_sum_183 : decode cL_sum 183 = .ok (.invokestatic 224, 3) := by decide +kernel
theorem dL_sum_186 : decode cL_sum 186 = .ok (.i2l, 1) := by decide +kernel
theorem dL_sum_187 : decode cL_sum 187 = .ok (.ladd, 1) := by decide +kernel
theorem dL_sum_188 : decode cL_sum 188 = .ok (.lstore_n 1, 1) := by decide +kernel
theorem dL_sum_189 : decode cL_sum 189 = .ok (.iinc 4 1, 3) := by decide +kernel
theorem dL_sum_192 : decode cL_sum 192 = .ok (.goto (-25), 3) := by decide +kernel
theorem dL_sum_195 : decode cL_sum 195 = .ok (.iconst 0, 1) := by decide +kernel
theorem dL_sum_196 : decode cL_sum 196 = .ok (.istore 4, 2) := by decide +kernel
theorem dL_sum_198 : decode cL_sum 198 = .ok (.iload 4, 2) := by decide +kernel
theorem dL_sum_200 : decode cL_sum 200 = .ok (.aload_n 0, 1) := by decide +kernel
theorem dL_sum_201 : decode cL_sum 201 = .ok (.iload_n 3, 1) := by decide +kernel
theorem dL_sum_202 : decode cL_sum 202 = .ok (.iconst 1, 1) := by decide +kernel
theorem dL_sum_203 : decode cL_sum 203 = .ok (.invokestatic 224, 3) := by decide +kernel
theorem dL_sum_206 : decode cL_sum 206 = .ok (.if_icmp .ge 51, 3) := by decide +kernel
theorem dL_sum_209 : decode cL_sum 209 = .ok (.ldc2_w 270, 3) := by decide +kernel
theorem dL_sum_212 : decode cL_sum 212 = .ok (.lload_n 1, 1) := by decide +kernel
theorem dL_sum_213 : decode cL_sum 213 = .ok (.lmul, 1) := by decide +kernel
theorem dL_sum_214 : decode cL_sum 214 = .ok (.aload_n 0, 1) := by decide +kernel
theorem dL_sum_215 : decode cL_sum 215 = .ok (.iload_n 3, 1) := by decide +kernel
theorem dL_sum_216 : decode cL_sum 216 = .ok (.iload 4, 2) := by decide +kernel
theorem dL_sum_218 : decode cL_sum 218 = .ok (.iconst 0, 1) := by decide +kernel
theorem dL_sum_219 : decode cL_sum 219 = .ok (.invokestatic 226, 3) := by decide +kernel
theorem dL_sum_222 : decode cL_sum 222 = .ok (.i2l, 1) := by decide +kernel
theorem dL_sum_223 : decode cL_sum 223 = .ok (.ladd, 1) := by decide +kernel
theorem dL_sum_224 : decode cL_sum 224 = .ok (.iconst 2, 1) := by decide +kernel
theorem dL_sum_225 : decode cL_sum 225 = .ok (.aload_n 0, 1) := by decide +kernel
theorem dL_sum_226 : decode cL_sum 226 = .ok (.iload_n 3, 1) := by decide +kernel
theorem dL_sum_227 : decode cL_sum 227 = .ok (.iload 4, 2) := by decide +kernel
theorem dL_sum_229 : decode cL_sum 229 = .ok (.iconst 1, 1) := by decide +kernel
theorem dL_sum_230 : decode cL_sum 230 = .ok (.invokestatic 226, 3) := by decide +kernel
theorem dL_sum_233 : decode cL_sum 233 = .ok (.imul, 1) := by decide +kernel
theorem dL_sum_234 : decode cL_sum 234 = .ok (.i2l, 1) := by decide +kernel
theorem dL_sum_235 : decode cL_sum 235 = .ok (.ladd, 1) := by decide +kernel
theorem dL_sum_236 : decode cL_sum 236 = .ok (.sipush 256, 3) := by decide +kernel
theorem dL_sum_239 : decode cL_sum 239 = .ok (.aload_n 0, 1) := by decide +kernel
theorem dL_sum_240 : decode cL_sum 240 = .ok (.iload_n 3, 1) := by decide +kernel
theorem dL_sum_241 : decode cL_sum 241 = .ok (.iload 4, 2) := by decide +kernel
theorem dL_sum_243 : decode cL_sum 243 = .ok (.iconst 2, 1) := by decide +kernel
theorem dL_sum_244 : decode cL_sum 244 = .ok (.invokestatic 226, 3) := by decide +kernel
theorem dL_sum_247 : decode cL_sum 247 = .ok (.imul, 1) := by decide +kernel
theorem dL_sum_248 : decode cL_sum 248 = .ok (.i2l, 1) := by decide +kernel
theorem dL_sum_249 : decode cL_sum 249 = .ok (.ladd, 1) := by decide +kernel
theorem dL_sum_250 : decode cL_sum 250 = .ok (.lstore_n 1, 1) := by decide +kernel
theorem dL_sum_251 : decode cL_sum 251 = .ok (.iinc 4 1, 3) := by decide +kernel
theorem dL_sum_254 : decode cL_sum 254 = .ok (.goto (-56), 3) := by decide +kernel
theorem dL_sum_257 : decode cL_sum 257 = .ok (.iinc 3 1, 3) := by decide +kernel
theorem dL_sum_260 : decode cL_sum 260 = .ok (.goto (-105), 3) := by decide +kernel
theorem dL_sum_263 : decode cL_sum 263 = .ok (.ldc2_w 272, 3) := by decide +kernel
theorem dL_sum_266 : decode cL_sum 266 = .ok (.lload_n 1, 1) := by decide +kernel
theorem dL_sum_267 : decode cL_sum 267 = .ok (.lmul, 1) := by decide +kernel
theorem dL_sum_268 : decode cL_sum 268 = .ok (.aload_n 0, 1) := by decide +kernel
theorem dL_sum_269 : decode cL_sum 269 = .ok (.iconst 0, 1) := by decide +kernel
theorem dL_sum_270 : decode cL_sum 270 = .ok (.invokevirtual 185, 3) := by decide +kernel
theorem dL_sum_273 : decode cL_sum 273 = .ok (.i2l, 1) := by decide +kernel
theorem dL_sum_274 : decode cL_sum 274 = .ok (.ladd, 1) := by decide +kernel
theorem dL_sum_275 : decode cL_sum 275 = .ok (.bipush 64, 2) := by decide +kernel
theorem dL_sum_277 : decode cL_sum 277 = .ok (.aload_n 0, 1) := by decide +kernel
theorem dL_sum_278 : decode cL_sum 278 = .ok (.iconst 1, 1) := by decide +kernel
theorem dL_sum_279 : decode cL_sum 279 = .ok (.invokevirtual 185, 3) := by decide +kernel
theorem dL_sum_282 : decode cL_sum 282 = .ok (.imul, 1) := by decide +kernel
theorem dL_sum_283 : decode cL_sum 283 = .ok (.i2l, 1) := by decide +kernel
theorem dL_sum_284 : decode cL_sum 284 = .ok (.ladd, 1) := by decide +kernel
theorem dL_sum_285 : decode cL_sum 285 = .ok (.sipush 8192, 3) := by decide +kernel
theorem dL_sum_288 : decode cL_sum 288 = .ok (.aload_n 0, 1) := by decide +kernel
theorem dL_sum_289 : decode cL_sum 289 = .ok (.iconst 2, 1) := by decide +kernel
theorem dL_sum_290 : decode cL_sum 290 = .ok (.invokevirtual 185, 3) := by decide +kernel
theorem dL_sum_293 : decode cL_sum 293 = .ok (.imul, 1) := by decide +kernel
theorem dL_sum_294 : decode cL_sum 294 = .ok (.i2l, 1) := by decide +kernel
theorem dL_sum_295 : decode cL_sum 295 = .ok (.ladd, 1) := by decide +kernel
theorem dL_sum_296 : decode cL_sum 296 = .ok (.lreturn, 1) := by decide +kernel
theorem dL_undone_0 : decode cL_undone 0 = .ok (.bipush 9, 2) := by decide +kernel
theorem dL_undone_2 : decode cL_undone 2 = .ok (.newarray .long, 2) := by decide +kernel
theorem dL_undone_4 : decode cL_undone 4 = .ok (.astore_n 2, 1) := by decide +kernel
theorem dL_undone_5 : decode cL_undone 5 = .ok (.iconst 0, 1) := by decide +kernel
theorem dL_undone_6 : decode cL_undone 6 = .ok (.istore_n 3, 1) := by decide +kernel
theorem dL_undone_7 : decode cL_undone 7 = .ok (.iconst 0, 1) := by decide +kernel
theorem dL_undone_8 : decode cL_undone 8 = .ok (.istore 4, 2) := by decide +kernel
theorem dL_undone_10 : decode cL_undone 10 = .ok (.iload 4, 2) := by decide +kernel
theorem dL_undone_12 : decode cL_undone 12 = .ok (.bipush 7, 2) := by decide +kernel
theorem dL_undone_14 : decode cL_undone 14 = .ok (.if_icmp .ge 471, 3) := by decide +kernel
theorem dL_undone_17 : decode cL_undone 17 = .ok (.aload_n 0, 1) := by decide +kernel
theorem dL_undone_18 : decode cL_undone 18 = .ok (.bipush 47, 2) := by decide +kernel
theorem dL_undone_20 : decode cL_undone 20 = .ok (.iload 4, 2) := by decide +kernel
theorem dL_undone_22 : decode cL_undone 22 = .ok (.iadd, 1) := by decide +kernel
theorem dL_undone_23 : decode cL_undone 23 = .ok (.invokestatic 125, 3) := by decide +kernel
theorem dL_undone_26 : decode cL_undone 26 = .ok (.iconst 1, 1) := by decide +kernel
theorem dL_undone_27 : decode cL_undone 27 = .ok (.iushr, 1) := by decide +kernel
theorem dL_undone_28 : decode cL_undone 28 = .ok (.istore 5, 2) := by decide +kernel
theorem dL_undone_30 : decode cL_undone 30 = .ok (.aload_n 2, 1) := by decide +kernel
theorem dL_undone_31 : decode cL_undone 31 = .ok (.iload_n 3, 1) := by decide +kernel
theorem dL_undone_32 : decode cL_undone 32 = .ok (.aload_n 1, 1) := by decide +kernel
theorem dL_undone_33 : decode cL_undone 33 = .ok (.invokestatic 274, 3) := by decide +kernel
theorem dL_undone_36 : decode cL_undone 36 = .ok (.lastore, 1) := by decide +kernel
theorem dL_undone_37 : decode cL_undone 37 = .ok (.iload 5, 2) := by decide +kernel
theorem dL_undone_39 : decode cL_undone 39 = .ok (.bipush 10, 2) := by decide +kernel
theorem dL_undone_41 : decode cL_undone 41 = .ok (.irem, 1) := by decide +kernel
theorem dL_undone_42 : decode cL_undone 42 = .ok (.tableswitch 287 0 8 #[50, 86, 111, 157, 180, 217, 240, 240, 263], 50) := by decide +kernel
theorem dL_undone_92 : decode cL_undone 92 = .ok (.aload_n 1, 1) := by decide +kernel
theorem dL_undone_93 : decode cL_undone 93 = .ok (.iload 5, 2) := by decide +kernel
theorem dL_undone_95 : decode cL_undone 95 = .ok (.iconst 4, 1) := by decide +kernel
theorem dL_undone_96 : decode cL_undone 96 = .ok (.iushr, 1) := by decide +kernel
theorem dL_undone_97 : decode cL_undone 97 = .ok (.iconst 4, 1) := by decide +kernel
theorem dL_undone_98 : decode cL_undone 98 = .ok (.irem, 1) := by decide +kernel
theorem dL_undone_99 : decode cL_undone 99 = .ok (.iload 5, 2) := by decide +kernel
theorem dL_undone_101 : decode cL_undone 101 = .ok (.bipush 8, 2) := by decide +kernel
theorem dL_undone_103 : decode cL_undone 103 = .ok (.iushr, 1) := by decide +kernel
theorem dL_undone_104 : decode cL_undone 104 = .ok (.bipush 60, 2) := by decide +kernel
theorem dL_undone_106 : decode cL_undone 106 = .ok (.irem, 1) := by decide +kernel
theorem dL_undone_107 : decode cL_undone 107 = .ok (.bipush 42, 2) := by decide +kernel
theorem dL_undone_109 : decode cL_undone 109 = .ok (.isub, 1) := by decide +kernel
theorem dL_undone_110 : decode cL_undone 110 = .ok (.invokestatic 129, 3) := by decide +kernel
theorem dL_undone_113 : decode cL_undone 113 = .ok (.bipush (-101), 2) := by decide +kernel
theorem dL_undone_115 : decode cL_undone 115 = .ok (.if_icmp .le 7, 3) := by decide +kernel
theorem dL_undone_118 : decode cL_undone 118 = .ok (.iconst 1, 1) := by decide +kernel
theorem dL_undone_119 : decode cL_undone 119 = .ok (.goto 4, 3) := by decide +kernel
theorem dL_undone_122 : decode cL_undone 122 = .ok (.iconst 0, 1) := by decide +kernel
theorem dL_undone_123 : decode cL_undone 123 = .ok (.istore 6, 2) := by decide +kernel
theorem dL_undone_125 : decode cL_undone 125 = .ok (.goto 323, 3) := by decide +kernel
theorem dL_undone_128 : decode cL_undone 128 = .ok (.aload_n 1, 1) := by decide +kernel
theorem dL_undone_129 : decode cL_undone 129 = .ok (.iload 5, 2) := by decide +kernel
theorem dL_undone_131 : decode cL_undone 131 = .ok (.iconst 4, 1) := by decide +kernel
theorem dL_undone_132 : decode cL_undone 132 = .ok (.iushr, 1) := by decide +kernel
theorem dL_undone_133 : decode cL_undone 133 = .ok (.bipush 13, 2) := by decide +kernel
theorem dL_undone_135 : decode cL_undone 135 = .ok (.irem, 1) := by decide +kernel
theorem dL_undone_136 : decode cL_undone 136 = .ok (.invokestatic 143, 3) := by decide +kernel
theorem dL_undone_139 : decode cL_undone 139 = .ok (.iconst (-1), 1) := by decide +kernel
theorem dL_undone_140 : decode cL_undone 140 = .ok (.if_icmp .eq 7, 3) := by decide +kernel
theorem dL_undone_143 : decode cL_undone 143 = .ok (.iconst 1, 1) := by decide +kernel
theorem dL_undone_144 : decode cL_undone 144 = .ok (.goto 4, 3) := by decide +kernel
theorem dL_undone_147 : decode cL_undone 147 = .ok (.iconst 0, 1) := by decide +kernel
theorem dL_undone_148 : decode cL_undone 148 = .ok (.istore 6, 2) := by decide +kernel
theorem dL_undone_150 : decode cL_undone 150 = .ok (.goto 298, 3) := by decide +kernel
theorem dL_undone_153 : decode cL_undone 153 = .ok (.aload_n 1, 1) := by decide +kernel
theorem dL_undone_154 : decode cL_undone 154 = .ok (.iload 5, 2) := by decide +kernel
theorem dL_undone_156 : decode cL_undone 156 = .ok (.iconst 4, 1) := by decide +kernel
theorem dL_undone_157 : decode cL_undone 157 = .ok (.iushr, 1) := by decide +kernel
theorem dL_undone_158 : decode cL_undone 158 = .ok (.iconst 2, 1) := by decide +kernel
theorem dL_undone_159 : decode cL_undone 159 = .ok (.irem, 1) := by decide +kernel
theorem dL_undone_160 : decode cL_undone 160 = .ok (.iload 5, 2) := by decide +kernel
theorem dL_undone_162 : decode cL_undone 162 = .ok (.bipush 8, 2) := by decide +kernel
theorem dL_undone_164 : decode cL_undone 164 = .ok (.iushr, 1) := by decide +kernel
theorem dL_undone_165 : decode cL_undone 165 = .ok (.bipush 64, 2) := by decide +kernel
theorem dL_undone_167 : decode cL_undone 167 = .ok (.irem, 1) := by decide +kernel
theorem dL_undone_168 : decode cL_undone 168 = .ok (.iload 5, 2) := by decide +kernel
theorem dL_undone_170 : decode cL_undone 170 = .ok (.bipush 14, 2) := by decide +kernel
theorem dL_undone_172 : decode cL_undone 172 = .ok (.iushr, 1) := by decide +kernel
theorem dL_undone_173 : decode cL_undone 173 = .ok (.bipush 8, 2) := by decide +kernel
theorem dL_undone_175 : decode cL_undone 175 = .ok (.irem, 1) := by decide +kernel
theorem dL_undone_176 : decode cL_undone 176 = .ok (.iload 5, 2) := by decide +kernel
theorem dL_undone_178 : decode cL_undone 178 = .ok (.bipush 17, 2) := by decide +kernel
theorem dL_undone_180 : decode cL_undone 180 = .ok (.iushr, 1) := by decide +kernel
theorem dL_undone_181 : decode cL_undone 181 = .ok (.iconst 3, 1) := by decide +kernel
theorem dL_undone_182 : decode cL_undone 182 = .ok (.irem, 1) := by decide +kernel
theorem dL_undone_183 : decode cL_undone 183 = .ok (.invokestatic 137, 3) := by decide +kernel
theorem dL_undone_186 : decode cL_undone 186 = .ok (.ifCond .lt 7, 3) := by decide +kernel
theorem dL_undone_189 : decode cL_undone 189 = .ok (.iconst 1, 1) := by decide +kernel
theorem dL_undone_190 : decode cL_undone 190 = .ok (.goto 4, 3) := by decide +kernel
theorem dL_undone_193 : decode cL_undone 193 = .ok (.iconst 0, 1) := by decide +kernel
theorem dL_undone_194 : decode cL_undone 194 = .ok (.istore 6, 2) := by decide +kernel
theorem dL_undone_196 : decode cL_undone 196 = .ok (.goto 252, 3) := by decide +kernel
theorem dL_undone_199 : decode cL_undone 199 = .ok (.aload_n 1, 1) := by decide +kernel
theorem dL_undone_200 : decode cL_undone 200 = .ok (.iload 5, 2) := by decide +kernel
theorem dL_undone_202 : decode cL_undone 202 = .ok (.iconst 4, 1) := by decide +kernel
theorem dL_undone_203 : decode cL_undone 203 = .ok (.iushr, 1) := by decide +kernel
theorem dL_undone_204 : decode cL_undone 204 = .ok (.iconst 5, 1) := by decide +kernel
theorem dL_undone_205 : decode cL_undone 205 = .ok (.irem, 1) := by decide +kernel
theorem dL_undone_206 : decode cL_undone 206 = .ok (.invokestatic 135, 3) := by decide +kernel
theorem dL_undone_209 : decode cL_undone 209 = .ok (.ifCond .lt 7, 3) := by decide +kernel
theorem dL_undone_212 : decode cL_undone 212 = .ok (.iconst 1, 1) := by decide +kernel
theorem dL_undone_213 : decode cL_undone 213 = .ok (.goto 4, 3) := by decide +kernel
theorem dL_undone_216 : decode cL_undone 216 = .ok (.iconst 0, 1) := by decide +kernel
theorem dL_undone_217 : decode cL_undone 217 = .ok (.istore 6, 2) := by decide +kernel
theorem dL_undone_219 : decode cL_undone 219 = .ok (.goto 229, 3) := by decide +kernel
theorem dL_undone_222 : decode cL_undone 222 = .ok (.aload_n 1, 1) := by decide +kernel
theorem dL_undone_223 : decode cL_undone 223 = .ok (.iload 5, 2) := by decide +kernel
theorem dL_undone_225 : decode cL_undone 225 = .ok (.iconst 4, 1) := by decide +kernel
theorem dL_undone_226 : decode cL_undone 226 = .ok (.iushr, 1) := by decide +kernel
theorem dL_undone_227 : decode cL_undone 227 = .ok (.iconst 4, 1) := by decide +kernel
theorem dL_undone_228 : decode cL_undone 228 = .ok (.irem, 1) := by decide +kernel
theorem dL_undone_229 : decode cL_undone 229 = .ok (.iload 5, 2) := by decide +kernel
theorem dL_undone_231 : decode cL_undone 231 = .ok (.bipush 8, 2) := by decide +kernel
theorem dL_undone_233 : decode cL_undone 233 = .ok (.iushr, 1) := by decide +kernel
theorem dL_undone_234 : decode cL_undone 234 = .ok (.iconst 2, 1) := by decide +kernel
theorem dL_undone_235 : decode cL_undone 235 = .ok (.irem, 1) := by decide +kernel
theorem dL_undone_236 : decode cL_undone 236 = .ok (.iload 5, 2) := by decide +kernel
theorem dL_undone_238 : decode cL_undone 238 = .ok (.bipush 12, 2) := by decide +kernel
theorem dL_undone_240 : decode cL_undone 240 = .ok (.iushr, 1) := by decide +kernel
theorem dL_undone_241 : decode cL_undone 241 = .ok (.iconst 2, 1) := by decide +kernel
theorem dL_undone_242 : decode cL_undone 242 = .ok (.irem, 1) := by decide +kernel
theorem dL_undone_243 : decode cL_undone 243 = .ok (.invokestatic 140, 3) := by decide +kernel
theorem dL_undone_246 : decode cL_undone 246 = .ok (.ifCond .lt 7, 3) := by decide +kernel
theorem dL_undone_249 : decode cL_undone 249 = .ok (.iconst 1, 1) := by decide +kernel
theorem dL_undone_250 : decode cL_undone 250 = .ok (.goto 4, 3) := by decide +kernel
theorem dL_undone_253 : decode cL_undone 253 = .ok (.iconst 0, 1) := by decide +kernel
theorem dL_undone_254 : decode cL_undone 254 = .ok (.istore 6, 2) := by decide +kernel
theorem dL_undone_256 : decode cL_undone 256 = .ok (.goto 192, 3) := by decide +kernel
theorem dL_undone_259 : decode cL_undone 259 = .ok (.aload_n 1, 1) := by decide +kernel
theorem dL_undone_260 : decode cL_undone 260 = .ok (.iload 5, 2) := by decide +kernel
theorem dL_undone_262 : decode cL_undone 262 = .ok (.iconst 4, 1) := by decide +kernel
theorem dL_undone_263 : decode cL_undone 263 = .ok (.iushr, 1) := by decide +kernel
theorem dL_undone_264 : decode cL_undone 264 = .ok (.iconst 4, 1) := by decide +kernel
theorem dL_undone_265 : decode cL_undone 265 = .ok (.irem, 1) := by decide +kernel
theorem dL_undone_266 : decode cL_undone 266 = .ok (.invokestatic 152, 3) := by decide +kernel
theorem dL_undone_269 : decode cL_undone 269 = .ok (.ifCond .lt 7, 3) := by decide +kernel
theorem dL_undone_272 : decode cL_undone 272 = .ok (.iconst 1, 1) := by decide +kernel
theorem dL_undone_273 : decode cL_undone 273 = .ok (.goto 4, 3) := by decide +kernel
theorem dL_undone_276 : decode cL_undone 276 = .ok (.iconst 0, 1) := by decide +kernel
theorem dL_undone_277 : decode cL_undone 277 = .ok (.istore 6, 2) := by decide +kernel
theorem dL_undone_279 : decode cL_undone 279 = .ok (.goto 169, 3) := by decide +kernel
theorem dL_undone_282 : decode cL_undone 282 = .ok (.aload_n 1, 1) := by decide +kernel
theorem dL_undone_283 : decode cL_undone 283 = .ok (.iload 5, 2) := by decide +kernel
theorem dL_undone_285 : decode cL_undone 285 = .ok (.iconst 4, 1) := by decide +kernel
theorem dL_undone_286 : decode cL_undone 286 = .ok (.iushr, 1) := by decide +kernel
theorem dL_undone_287 : decode cL_undone 287 = .ok (.iconst 4, 1) := by decide +kernel
theorem dL_undone_288 : decode cL_undone 288 = .ok (.irem, 1) := by decide +kernel
theorem dL_undone_289 : decode cL_undone 289 = .ok (.invokestatic 154, 3) := by decide +kernel
theorem dL_undone_292 : decode cL_undone 292 = .ok (.ifCond .lt 7, 3) := by decide +kernel
theorem dL_undone_295 : decode cL_undone 295 = .ok (.iconst 1, 1) := by decide +kernel
theorem dL_undone_296 : decode cL_undone 296 = .ok (.goto 4, 3) := by decide +kernel
theorem dL_undone_299 : decode cL_undone 299 = .ok (.iconst 0, 1) := by decide +kernel
theorem dL_undone_300 : decode cL_undone 300 = .ok (.istore 6, 2) := by decide +kernel
theorem dL_undone_302 : decode cL_undone 302 = .ok (.goto 146, 3) := by decide +kernel
theorem dL_undone_305 : decode cL_undone 305 = .ok (.aload_n 1, 1) := by decide +kernel
theorem dL_undone_306 : decode cL_undone 306 = .ok (.iload 5, 2) := by decide +kernel
theorem dL_undone_308 : decode cL_undone 308 = .ok (.iconst 4, 1) := by decide +kernel
theorem dL_undone_309 : decode cL_undone 309 = .ok (.iushr, 1) := by decide +kernel
theorem dL_undone_310 : decode cL_undone 310 = .ok (.bipush 32, 2) := by decide +kernel
theorem dL_undone_312 : decode cL_undone 312 = .ok (.irem, 1) := by decide +kernel
theorem dL_undone_313 : decode cL_undone 313 = .ok (.invokestatic 132, 3) := by decide +kernel
theorem dL_undone_316 : decode cL_undone 316 = .ok (.ifCond .lt 7, 3) := by decide +kernel
theorem dL_undone_319 : decode cL_undone 319 = .ok (.iconst 1, 1) := by decide +kernel
theorem dL_undone_320 : decode cL_undone 320 = .ok (.goto 4, 3) := by decide +kernel
theorem dL_undone_323 : decode cL_undone 323 = .ok (.iconst 0, 1) := by decide +kernel
theorem dL_undone_324 : decode cL_undone 324 = .ok (.istore 6, 2) := by decide +kernel
theorem dL_undone_326 : decode cL_undone 326 = .ok (.goto 122, 3) := by decide +kernel
theorem dL_undone_329 : decode cL_undone 329 = .ok (.aload_n 1, 1) := by decide +kernel
theorem dL_undone_330 : decode cL_undone 330 = .ok (.new 278, 3) := by decide +kernel
theorem dL_undone_333 : decode cL_undone 333 = .ok (.dup, 1) := by decide +kernel
theorem dL_undone_334 : decode cL_undone 334 = .ok (.invokespecial 280, 3) := by decide +kernel
theorem dL_undone_337 : decode cL_undone 337 = .ok (.ldc_w 281, 3) := by decide +kernel
theorem dL_undone_340 : decode cL_undone 340 = .ok (.invokevirtual 283, 3) := by decide +kernel
theorem dL_undone_343 : decode cL_undone 343 = .ok (.iload 5, 2) := by decide +kernel
theorem dL_undone_345 : decode cL_undone 345 = .ok (.iconst 4, 1) := by decide +kernel
theorem dL_undone_346 : decode cL_undone 346 = .ok (.iushr, 1) := by decide +kernel
theorem dL_undone_347 : decode cL_undone 347 = .ok (.bipush 40, 2) := by decide +kernel
theorem dL_undone_349 : decode cL_undone 349 = .ok (.irem, 1) := by decide +kernel
theorem dL_undone_350 : decode cL_undone 350 = .ok (.invokevirtual 286, 3) := by decide +kernel
theorem dL_undone_353 : decode cL_undone 353 = .ok (.ldc_w 289, 3) := by decide +kernel
theorem dL_undone_356 : decode cL_undone 356 = .ok (.invokevirtual 283, 3) := by decide +kernel
theorem dL_undone_359 : decode cL_undone 359 = .ok (.iconst 1, 1) := by decide +kernel
theorem dL_undone_360 : decode cL_undone 360 = .ok (.iload 5, 2) := by decide +kernel
theorem dL_undone_362 : decode cL_undone 362 = .ok (.bipush 10, 2) := by decide +kernel
theorem dL_undone_364 : decode cL_undone 364 = .ok (.iushr, 1) := by decide +kernel
theorem dL_undone_365 : decode cL_undone 365 = .ok (.bipush 6, 2) := by decide +kernel
theorem dL_undone_367 : decode cL_undone 367 = .ok (.irem, 1) := by decide +kernel
theorem dL_undone_368 : decode cL_undone 368 = .ok (.iadd, 1) := by decide +kernel
theorem dL_undone_369 : decode cL_undone 369 = .ok (.invokevirtual 286, 3) := by decide +kernel
theorem dL_undone_372 : decode cL_undone 372 = .ok (.ldc_w 291, 3) := by decide +kernel
theorem dL_undone_375 : decode cL_undone 375 = .ok (.invokevirtual 283, 3) := by decide +kernel
theorem dL_undone_378 : decode cL_undone 378 = .ok (.iload 5, 2) := by decide +kernel
theorem dL_undone_380 : decode cL_undone 380 = .ok (.bipush 14, 2) := by decide +kernel
theorem dL_undone_382 : decode cL_undone 382 = .ok (.iushr, 1) := by decide +kernel
theorem dL_undone_383 : decode cL_undone 383 = .ok (.bipush 12, 2) := by decide +kernel
theorem dL_undone_385 : decode cL_undone 385 = .ok (.irem, 1) := by decide +kernel
theorem dL_undone_386 : decode cL_undone 386 = .ok (.invokevirtual 286, 3) := by decide +kernel
theorem dL_undone_389 : decode cL_undone 389 = .ok (.iload 5, 2) := by decide +kernel
theorem dL_undone_391 : decode cL_undone 391 = .ok (.iconst 3, 1) := by decide +kernel
theorem dL_undone_392 : decode cL_undone 392 = .ok (.irem, 1) := by decide +kernel
theorem dL_undone_393 : decode cL_undone 393 = .ok (.ifCond .ne 9, 3) := by decide +kernel
theorem dL_undone_396 : decode cL_undone 396 = .ok (.ldc_w 293, 3) := by decide +kernel
theorem dL_undone_399 : decode cL_undone 399 = .ok (.goto 30, 3) := by decide +kernel
theorem dL_undone_402 : decode cL_undone 402 = .ok (.new 278, 3) := by decide +kernel
theorem dL_undone_405 : decode cL_undone 405 = .ok (.dup, 1) := by decide +kernel
theorem dL_undone_406 : decode cL_undone 406 = .ok (.invokespecial 280, 3) := by decide +kernel
theorem dL_undone_409 : decode cL_undone 409 = .ok (.ldc_w 291, 3) := by decide +kernel
theorem dL_undone_412 : decode cL_undone 412 = .ok (.invokevirtual 283, 3) := by decide +kernel
theorem dL_undone_415 : decode cL_undone 415 = .ok (.iload 5, 2) := by decide +kernel
theorem dL_undone_417 : decode cL_undone 417 = .ok (.bipush 18, 2) := by decide +kernel
theorem dL_undone_419 : decode cL_undone 419 = .ok (.iushr, 1) := by decide +kernel
theorem dL_undone_420 : decode cL_undone 420 = .ok (.bipush 14, 2) := by decide +kernel
theorem dL_undone_422 : decode cL_undone 422 = .ok (.irem, 1) := by decide +kernel
theorem dL_undone_423 : decode cL_undone 423 = .ok (.invokevirtual 286, 3) := by decide +kernel
theorem dL_undone_426 : decode cL_undone 426 = .ok (.invokevirtual 295, 3) := by decide +kernel
theorem dL_undone_429 : decode cL_undone 429 = .ok (.invokevirtual 283, 3) := by decide +kernel
theorem dL_undone_432 : decode cL_undone 432 = .ok (.invokevirtual 295, 3) := by decide +kernel
theorem dL_undone_435 : decode cL_undone 435 = .ok (.invokestatic 299, 3) := by decide +kernel
theorem dL_undone_438 : decode cL_undone 438 = .ok (.ifCond .lt 7, 3) := by decide +kernel
theorem dL_undone_441 : decode cL_undone 441 = .ok (.iconst 1, 1) := by decide +kernel
theorem dL_undone_442 : decode cL_undone 442 = .ok (.goto 4, 3) := by decide +kernel
theorem dL_undone_445 : decode cL_undone 445 = .ok (.iconst 0, 1) := by decide +kernel
theorem dL_undone_446 : decode cL_undone 446 = .ok (.istore 6, 2) := by decide +kernel
theorem dL_undone_448 : decode cL_undone 448 = .ok (.iload 6, 2) := by decide +kernel
theorem dL_undone_450 : decode cL_undone 450 = .ok (.ifCond .ne 16, 3) := by decide +kernel
theorem dL_undone_453 : decode cL_undone 453 = .ok (.aload_n 1, 1) := by decide +kernel
theorem dL_undone_454 : decode cL_undone 454 = .ok (.invokestatic 274, 3) := by decide +kernel
theorem dL_undone_457 : decode cL_undone 457 = .ok (.aload_n 2, 1) := by decide +kernel
theorem dL_undone_458 : decode cL_undone 458 = .ok (.iload_n 3, 1) := by decide +kernel
theorem dL_undone_459 : decode cL_undone 459 = .ok (.laload, 1) := by decide +kernel
theorem dL_undone_460 : decode cL_undone 460 = .ok (.lcmp, 1) := by decide +kernel
theorem dL_undone_461 : decode cL_undone 461 = .ok (.ifCond .eq 5, 3) := by decide +kernel
theorem dL_undone_464 : decode cL_undone 464 = .ok (.iconst 0, 1) := by decide +kernel
theorem dL_undone_465 : decode cL_undone 465 = .ok (.ireturn, 1) := by decide +kernel
theorem dL_undone_466 : decode cL_undone 466 = .ok (.iload_n 3, 1) := by decide +kernel
theorem dL_undone_467 : decode cL_undone 467 = .ok (.iload 6, 2) := by decide +kernel
theorem dL_undone_469 : decode cL_undone 469 = .ok (.ifCond .eq 7, 3) := by decide +kernel
theorem dL_undone_472 : decode cL_undone 472 = .ok (.iconst 1, 1) := by decide +kernel
theorem dL_undone_473 : decode cL_undone 473 = .ok (.goto 4, 3) := by decide +kernel
theorem dL_undone_476 : decode cL_undone 476 = .ok (.iconst 0, 1) := by decide +kernel
theorem dL_undone_477 : decode cL_undone 477 = .ok (.iadd, 1) := by decide +kernel
theorem dL_undone_478 : decode cL_undone 478 = .ok (.istore_n 3, 1) := by decide +kernel
theorem dL_undone_479 : decode cL_undone 479 = .ok (.iinc 4 1, 3) := by decide +kernel
theorem dL_undone_482 : decode cL_undone 482 = .ok (.goto (-472), 3) := by decide +kernel
theorem dL_undone_485 : decode cL_undone 485 = .ok (.iload_n 3, 1) := by decide +kernel
theorem dL_undone_486 : decode cL_undone 486 = .ok (.iconst 1, 1) := by decide +kernel
theorem dL_undone_487 : decode cL_undone 487 = .ok (.isub, 1) := by decide +kernel
theorem dL_undone_488 : decode cL_undone 488 = .ok (.istore 4, 2) := by decide +kernel
theorem dL_undone_490 : decode cL_undone 490 = .ok (.iload 4, 2) := by decide +kernel
theorem dL_undone_492 : decode cL_undone 492 = .ok (.ifCond .lt 30, 3) := by decide +kernel
theorem dL_undone_495 : decode cL_undone 495 = .ok (.aload_n 1, 1) := by decide +kernel
theorem dL_undone_496 : decode cL_undone 496 = .ok (.invokestatic 247, 3) := by decide +kernel
theorem dL_undone_499 : decode cL_undone 499 = .ok (.ifCond .lt 15, 3) := by decide +kernel
theorem dL_undone_502 : decode cL_undone 502 = .ok (.aload_n 1, 1) := by decide +kernel
theorem dL_undone_503 : decode cL_undone 503 = .ok (.invokestatic 274, 3) := by decide +kernel
theorem dL_undone_506 : decode cL_undone 506 = .ok (.aload_n 2, 1) := by decide +kernel
theorem dL_undone_507 : decode cL_undone 507 = .ok (.iload 4, 2) := by decide +kernel
theorem dL_undone_509 : decode cL_undone 509 = .ok (.laload, 1) := by decide +kernel
theorem dL_undone_510 : decode cL_undone 510 = .ok (.lcmp, 1) := by decide +kernel
theorem dL_undone_511 : decode cL_undone 511 = .ok (.ifCond .eq 5, 3) := by decide +kernel
theorem dL_undone_514 : decode cL_undone 514 = .ok (.iconst 0, 1) := by decide +kernel
theorem dL_undone_515 : decode cL_undone 515 = .ok (.ireturn, 1) := by decide +kernel
theorem dL_undone_516 : decode cL_undone 516 = .ok (.iinc 4 (-1), 3) := by decide +kernel
theorem dL_undone_519 : decode cL_undone 519 = .ok (.goto (-29), 3) := by decide +kernel
theorem dL_undone_522 : decode cL_undone 522 = .ok (.iconst 1, 1) := by decide +kernel
theorem dL_undone_523 : decode cL_undone 523 = .ok (.ireturn, 1) := by decide +kernel
abbrev vwCl : List vw_C := [(RJ0, TJ0, 4), (RJx00060, TJx00060, 6), (RX0, TX0, 4), (RX1, TX1, 3), (RX2, TX2, 6), (RX3, TX3, 8), (RX4, TX4, 9), (RX5, TX5, 3), (RX6, TX6, 8), (RJ4, TJ4, 4)]
