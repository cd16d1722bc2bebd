theorem d_L_cell_0 : decode c_L_cell 0 = .ok (.iload_n 1, 1) := by decide +kernel
theorem d_L_cell_1 : decode c_L_cell 1 = .ok (.aload_n 0, 1) := by decide +kernel
theorem d_L_cell_2 : decode c_L_cell 2 = .ok (.arraylength, 1) := by decide +kernel
theorem d_L_cell_3 : decode c_L_cell 3 = .ok (.if_icmp .ge 9, 3) := by decide +kernel
theorem d_L_cell_6 : decode c_L_cell 6 = .ok (.aload_n 0, 1) := by decide +kernel
theorem d_L_cell_7 : decode c_L_cell 7 = .ok (.iload_n 1, 1) := by decide +kernel
theorem d_L_cell_8 : decode c_L_cell 8 = .ok (.iaload, 1) := by decide +kernel
theorem d_L_cell_9 : decode c_L_cell 9 = .ok (.goto 4, 3) := by decide +kernel
theorem d_L_cell_12 : decode c_L_cell 12 = .ok (.iconst 0, 1) := by decide +kernel
theorem d_L_cell_13 : decode c_L_cell 13 = .ok (.ireturn, 1) := by decide +kernel
theorem d_L_movement_0 : decode c_L_movement 0 = .ok (.aload 7, 2) := by decide +kernel
theorem d_L_movement_2 : decode c_L_movement 2 = .ok (.iconst 0, 1) := by decide +kernel
theorem d_L_movement_3 : decode c_L_movement 3 = .ok (.aload_n 0, 1) := by decide +kernel
theorem d_L_movement_4 : decode c_L_movement 4 = .ok (.iload_n 1, 1) := by decide +kernel
theorem d_L_movement_5 : decode c_L_movement 5 = .ok (.iload_n 2, 1) := by decide +kernel
theorem d_L_movement_6 : decode c_L_movement 6 = .ok (.iload_n 3, 1) := by decide +kernel
theorem d_L_movement_7 : decode c_L_movement 7 = .ok (.iload 4, 2) := by decide +kernel
theorem d_L_movement_9 : decode c_L_movement 9 = .ok (.iload 5, 2) := by decide +kernel
theorem d_L_movement_11 : decode c_L_movement 11 = .ok (.iload 6, 2) := by decide +kernel
theorem d_L_movement_13 : decode c_L_movement 13 = .ok (.invokevirtual 7, 3) := by decide +kernel
theorem d_L_movement_16 : decode c_L_movement 16 = .ok (.i2l, 1) := by decide +kernel
theorem d_L_movement_17 : decode c_L_movement 17 = .ok (.lastore, 1) := by decide +kernel
theorem d_L_movement_18 : decode c_L_movement 18 = .ok (.goto 11, 3) := by decide +kernel
theorem d_L_movement_21 : decode c_L_movement 21 = .ok (.astore 8, 2) := by decide +kernel
theorem d_L_movement_23 : decode c_L_movement 23 = .ok (.iconst 1, 1) := by decide +kernel
theorem d_L_movement_24 : decode c_L_movement 24 = .ok (.ireturn, 1) := by decide +kernel
theorem d_L_movement_25 : decode c_L_movement 25 = .ok (.astore 8, 2) := by decide +kernel
theorem d_L_movement_27 : decode c_L_movement 27 = .ok (.iconst 2, 1) := by decide +kernel
theorem d_L_movement_28 : decode c_L_movement 28 = .ok (.ireturn, 1) := by decide +kernel
theorem d_L_movement_29 : decode c_L_movement 29 = .ok (.iconst 0, 1) := by decide +kernel
theorem d_L_movement_30 : decode c_L_movement 30 = .ok (.ireturn, 1) := by decide +kernel
theorem d_L_arrive_0 : decode c_L_arrive 0 = .ok (.aload 4, 2) := by decide +kernel
theorem d_L_arrive_2 : decode c_L_arrive 2 = .ok (.iconst 0, 1) := by decide +kernel
theorem d_L_arrive_3 : decode c_L_arrive 3 = .ok (.aload_n 0, 1) := by decide +kernel
theorem d_L_arrive_4 : decode c_L_arrive 4 = .ok (.iload_n 1, 1) := by decide +kernel
theorem d_L_arrive_5 : decode c_L_arrive 5 = .ok (.iload_n 2, 1) := by decide +kernel
theorem d_L_arrive_6 : decode c_L_arrive 6 = .ok (.iload_n 3, 1) := by decide +kernel
theorem d_L_arrive_7 : decode c_L_arrive 7 = .ok (.invokevirtual 17, 3) := by decide +kernel
theorem d_L_arrive_10 : decode c_L_arrive 10 = .ok (.i2l, 1) := by decide +kernel
theorem d_L_arrive_11 : decode c_L_arrive 11 = .ok (.lastore, 1) := by decide +kernel
theorem d_L_arrive_12 : decode c_L_arrive 12 = .ok (.goto 7, 3) := by decide +kernel
theorem d_L_arrive_15 : decode c_L_arrive 15 = .ok (.astore 5, 2) := by decide +kernel
theorem d_L_arrive_17 : decode c_L_arrive 17 = .ok (.iconst 1, 1) := by decide +kernel
theorem d_L_arrive_18 : decode c_L_arrive 18 = .ok (.ireturn, 1) := by decide +kernel
theorem d_L_arrive_19 : decode c_L_arrive 19 = .ok (.iconst 0, 1) := by decide +kernel
theorem d_L_arrive_20 : decode c_L_arrive 20 = .ok (.ireturn, 1) := by decide +kernel
theorem d_L_control_0 : decode c_L_control 0 = .ok (.aload_n 3, 1) := by decide +kernel
theorem d_L_control_1 : decode c_L_control 1 = .ok (.iconst 0, 1) := by decide +kernel
theorem d_L_control_2 : decode c_L_control 2 = .ok (.aload_n 0, 1) := by decide +kernel
theorem d_L_control_3 : decode c_L_control 3 = .ok (.iload_n 1, 1) := by decide +kernel
theorem d_L_control_4 : decode c_L_control 4 = .ok (.iload_n 2, 1) := by decide +kernel
theorem d_L_control_5 : decode c_L_control 5 = .ok (.invokevirtual 21, 3) := by decide +kernel
theorem d_L_control_8 : decode c_L_control 8 = .ok (.i2l, 1) := by decide +kernel
theorem d_L_control_9 : decode c_L_control 9 = .ok (.lastore, 1) := by decide +kernel
theorem d_L_control_10 : decode c_L_control 10 = .ok (.goto 7, 3) := by decide +kernel
theorem d_L_control_13 : decode c_L_control 13 = .ok (.astore 4, 2) := by decide +kernel
theorem d_L_control_15 : decode c_L_control 15 = .ok (.iconst 1, 1) := by decide +kernel
theorem d_L_control_16 : decode c_L_control 16 = .ok (.ireturn, 1) := by decide +kernel
theorem d_L_control_17 : decode c_L_control 17 = .ok (.iconst 0, 1) := by decide +kernel
theorem d_L_control_18 : decode c_L_control 18 = .ok (.ireturn, 1) := by decide +kernel
theorem d_L_receive_0 : decode c_L_receive 0 = .ok (.aload_n 3, 1) := by decide +kernel
theorem d_L_receive_1 : decode c_L_receive 1 = .ok (.iconst 0, 1) := by decide +kernel
theorem d_L_receive_2 : decode c_L_receive 2 = .ok (.aload_n 0, 1) := by decide +kernel
theorem d_L_receive_3 : decode c_L_receive 3 = .ok (.iload_n 1, 1) := by decide +kernel
theorem d_L_receive_4 : decode c_L_receive 4 = .ok (.iload_n 2, 1) := by decide +kernel
theorem d_L_receive_5 : decode c_L_receive 5 = .ok (.invokevirtual 25, 3) := by decide +kernel
theorem d_L_receive_8 : decode c_L_receive 8 = .ok (.i2l, 1) := by decide +kernel
theorem d_L_receive_9 : decode c_L_receive 9 = .ok (.lastore, 1) := by decide +kernel
theorem d_L_receive_10 : decode c_L_receive 10 = .ok (.goto 7, 3) := by decide +kernel
theorem d_L_receive_13 : decode c_L_receive 13 = .ok (.astore 4, 2) := by decide +kernel
theorem d_L_receive_15 : decode c_L_receive 15 = .ok (.iconst 1, 1) := by decide +kernel
theorem d_L_receive_16 : decode c_L_receive 16 = .ok (.ireturn, 1) := by decide +kernel
theorem d_L_receive_17 : decode c_L_receive 17 = .ok (.iconst 0, 1) := by decide +kernel
theorem d_L_receive_18 : decode c_L_receive 18 = .ok (.ireturn, 1) := by decide +kernel
theorem d_L_tick_0 : decode c_L_tick 0 = .ok (.aload_n 2, 1) := by decide +kernel
theorem d_L_tick_1 : decode c_L_tick 1 = .ok (.iconst 0, 1) := by decide +kernel
theorem d_L_tick_2 : decode c_L_tick 2 = .ok (.aload_n 0, 1) := by decide +kernel
theorem d_L_tick_3 : decode c_L_tick 3 = .ok (.iload_n 1, 1) := by decide +kernel
theorem d_L_tick_4 : decode c_L_tick 4 = .ok (.invokevirtual 28, 3) := by decide +kernel
theorem d_L_tick_7 : decode c_L_tick 7 = .ok (.i2l, 1) := by decide +kernel
theorem d_L_tick_8 : decode c_L_tick 8 = .ok (.lastore, 1) := by decide +kernel
theorem d_L_tick_9 : decode c_L_tick 9 = .ok (.goto 6, 3) := by decide +kernel
theorem d_L_tick_12 : decode c_L_tick 12 = .ok (.astore_n 3, 1) := by decide +kernel
theorem d_L_tick_13 : decode c_L_tick 13 = .ok (.iconst 1, 1) := by decide +kernel
theorem d_L_tick_14 : decode c_L_tick 14 = .ok (.ireturn, 1) := by decide +kernel
theorem d_L_tick_15 : decode c_L_tick 15 = .ok (.iconst 0, 1) := by decide +kernel
theorem d_L_tick_16 : decode c_L_tick 16 = .ok (.ireturn, 1) := by decide +kernel
theorem d_L_discharge_0 : decode c_L_discharge 0 = .ok (.aload_n 3, 1) := by decide +kernel
theorem d_L_discharge_1 : decode c_L_discharge 1 = .ok (.iconst 0, 1) := by decide +kernel
theorem d_L_discharge_2 : decode c_L_discharge 2 = .ok (.aload_n 0, 1) := by decide +kernel
theorem d_L_discharge_3 : decode c_L_discharge 3 = .ok (.iload_n 1, 1) := by decide +kernel
theorem d_L_discharge_4 : decode c_L_discharge 4 = .ok (.iload_n 2, 1) := by decide +kernel
theorem d_L_discharge_5 : decode c_L_discharge 5 = .ok (.invokevirtual 32, 3) := by decide +kernel
theorem d_L_discharge_8 : decode c_L_discharge 8 = .ok (.i2l, 1) := by decide +kernel
theorem d_L_discharge_9 : decode c_L_discharge 9 = .ok (.lastore, 1) := by decide +kernel
theorem d_L_discharge_10 : decode c_L_discharge 10 = .ok (.goto 7, 3) := by decide +kernel
theorem d_L_discharge_13 : decode c_L_discharge 13 = .ok (.astore 4, 2) := by decide +kernel
theorem d_L_discharge_15 : decode c_L_discharge 15 = .ok (.iconst 1, 1) := by decide +kernel
theorem d_L_discharge_16 : decode c_L_discharge 16 = .ok (.ireturn, 1) := by decide +kernel
theorem d_L_discharge_17 : decode c_L_discharge 17 = .ok (.iconst 0, 1) := by decide +kernel
theorem d_L_discharge_18 : decode c_L_discharge 18 = .ok (.ireturn, 1) := by decide +kernel
theorem d_L_proof_0 : decode c_L_proof 0 = .ok (.aload_n 2, 1) := by decide +kernel
theorem d_L_proof_1 : decode c_L_proof 1 = .ok (.iconst 0, 1) := by decide +kernel
theorem d_L_proof_2 : decode c_L_proof 2 = .ok (.aload_n 0, 1) := by decide +kernel
theorem d_L_proof_3 : decode c_L_proof 3 = .ok (.iload_n 1, 1) := by decide +kernel
theorem d_L_proof_4 : decode c_L_proof 4 = .ok (.invokevirtual 35, 3) := by decide +kernel
theorem d_L_proof_7 : decode c_L_proof 7 = .ok (.i2l, 1) := by decide +kernel
theorem d_L_proof_8 : decode c_L_proof 8 = .ok (.lastore, 1) := by decide +kernel
theorem d_L_proof_9 : decode c_L_proof 9 = .ok (.goto 6, 3) := by decide +kernel
theorem d_L_proof_12 : decode c_L_proof 12 = .ok (.astore_n 3, 1) := by decide +kernel
theorem d_L_proof_13 : decode c_L_proof 13 = .ok (.iconst 1, 1) := by decide +kernel
theorem d_L_proof_14 : decode c_L_proof 14 = .ok (.ireturn, 1) := by decide +kernel
theorem d_L_proof_15 : decode c_L_proof 15 = .ok (.iconst 0, 1) := by decide +kernel
theorem d_L_proof_16 : decode c_L_proof 16 = .ok (.ireturn, 1) := by decide +kernel
theorem d_L_state_0 : decode c_L_state 0 = .ok (.aload_n 3, 1) := by decide +kernel
theorem d_L_state_1 : decode c_L_state 1 = .ok (.iconst 0, 1) := by decide +kernel
theorem d_L_state_2 : decode c_L_state 2 = .ok (.aload_n 0, 1) := by decide +kernel
theorem d_L_state_3 : decode c_L_state 3 = .ok (.iload_n 1, 1) := by decide +kernel
theorem d_L_state_4 : decode c_L_state 4 = .ok (.iload_n 2, 1) := by decide +kernel
theorem d_L_state_5 : decode c_L_state 5 = .ok (.invokevirtual 38, 3) := by decide +kernel
theorem d_L_state_8 : decode c_L_state 8 = .ok (.i2l, 1) := by decide +kernel
theorem d_L_state_9 : decode c_L_state 9 = .ok (.lastore, 1) := by decide +kernel
theorem d_L_state_10 : decode c_L_state 10 = .ok (.goto 7, 3) := by decide +kernel
theorem d_L_state_13 : decode c_L_state 13 = .ok (.astore 4, 2) := by decide +kernel
theorem d_L_state_15 : decode c_L_state 15 = .ok (.iconst 1, 1) := by decide +kernel
theorem d_L_state_16 : decode c_L_state 16 = .ok (.ireturn, 1) := by decide +kernel
theorem d_L_state_17 : decode c_L_state 17 = .ok (.iconst 0, 1) := by decide +kernel
theorem d_L_state_18 : decode c_L_state 18 = .ok (.ireturn, 1) := by decide +kernel
theorem d_L_office_0 : decode c_L_office 0 = .ok (.aload_n 3, 1) := by decide +kernel
theorem d_L_office_1 : decode c_L_office 1 = .ok (.iconst 0, 1) := by decide +kernel
theorem d_L_office_2 : decode c_L_office 2 = .ok (.aload_n 0, 1) := by decide +kernel
theorem d_L_office_3 : decode c_L_office 3 = .ok (.iload_n 1, 1) := by decide +kernel
theorem d_L_office_4 : decode c_L_office 4 = .ok (.iload_n 2, 1) := by decide +kernel
theorem d_L_office_5 : decode c_L_office 5 = .ok (.invokevirtual 43, 3) := by decide +kernel
theorem d_L_office_8 : decode c_L_office 8 = .ok (.i2l, 1) := by decide +kernel
theorem d_L_office_9 : decode c_L_office 9 = .ok (.lastore, 1) := by decide +kernel
theorem d_L_office_10 : decode c_L_office 10 = .ok (.goto 7, 3) := by decide +kernel
theorem d_L_office_13 : decode c_L_office 13 = .ok (.astore 4, 2) := by decide +kernel
theorem d_L_office_15 : decode c_L_office 15 = .ok (.iconst 1, 1) := by decide +kernel
theorem d_L_office_16 : decode c_L_office 16 = .ok (.ireturn, 1) := by decide +kernel
theorem d_L_office_17 : decode c_L_office 17 = .ok (.iconst 0, 1) := by decide +kernel
theorem d_L_office_18 : decode c_L_office 18 = .ok (.ireturn, 1) := by decide +kernel
theorem d_L_message_0 : decode c_L_message 0 = .ok (.aload_n 3, 1) := by decide +kernel
theorem d_L_message_1 : decode c_L_message 1 = .ok (.iconst 0, 1) := by decide +kernel
theorem d_L_message_2 : decode c_L_message 2 = .ok (.aload_n 0, 1) := by decide +kernel
theorem d_L_message_3 : decode c_L_message 3 = .ok (.iload_n 1, 1) := by decide +kernel
theorem d_L_message_4 : decode c_L_message 4 = .ok (.iload_n 2, 1) := by decide +kernel
theorem d_L_message_5 : decode c_L_message 5 = .ok (.invokevirtual 46, 3) := by decide +kernel
theorem d_L_message_8 : decode c_L_message 8 = .ok (.i2l, 1) := by decide +kernel
theorem d_L_message_9 : decode c_L_message 9 = .ok (.lastore, 1) := by decide +kernel
theorem d_L_message_10 : decode c_L_message 10 = .ok (.goto 7, 3) := by decide +kernel
theorem d_L_message_13 : decode c_L_message 13 = .ok (.astore 4, 2) := by decide +kernel
theorem d_L_message_15 : decode c_L_message 15 = .ok (.iconst 1, 1) := by decide +kernel
theorem d_L_message_16 : decode c_L_message 16 = .ok (.ireturn, 1) := by decide +kernel
theorem d_L_message_17 : decode c_L_message 17 = .ok (.iconst 0, 1) := by decide +kernel
theorem d_L_message_18 : decode c_L_message 18 = .ok (.ireturn, 1) := by decide +kernel
theorem d_L_law_0 : decode c_L_law 0 = .ok (.new 8, 3) := by decide +kernel
theorem d_L_law_3 : decode c_L_law 3 = .ok (.dup, 1) := by decide +kernel
theorem d_L_law_4 : decode c_L_law 4 = .ok (.aload_n 0, 1) := by decide +kernel
theorem d_L_law_5 : decode c_L_law 5 = .ok (.iconst 0, 1) := by decide +kernel
theorem d_L_law_6 : decode c_L_law 6 = .ok (.invokestatic 49, 3) := by decide +kernel
theorem d_L_law_9 : decode c_L_law 9 = .ok (.invokespecial 55, 3) := by decide +kernel
theorem d_L_law_12 : decode c_L_law 12 = .ok (.astore_n 1, 1) := by decide +kernel
theorem d_L_law_13 : decode c_L_law 13 = .ok (.new 58, 3) := by decide +kernel
theorem d_L_law_16 : decode c_L_law 16 = .ok (.dup, 1) := by decide +kernel
theorem d_L_law_17 : decode c_L_law 17 = .ok (.aload_n 0, 1) := by decide +kernel
theorem d_L_law_18 : decode c_L_law 18 = .ok (.iconst 0, 1) := by decide +kernel
theorem d_L_law_19 : decode c_L_law 19 = .ok (.invokestatic 49, 3) := by decide +kernel
theorem d_L_law_22 : decode c_L_law 22 = .ok (.invokespecial 60, 3) := by decide +kernel
theorem d_L_law_25 : decode c_L_law 25 = .ok (.astore_n 2, 1) := by decide +kernel
theorem d_L_law_26 : decode c_L_law 26 = .ok (.iconst 1, 1) := by decide +kernel
theorem d_L_law_27 : decode c_L_law 27 = .ok (.newarray .long, 2) := by decide +kernel
theorem d_L_law_29 : decode c_L_law 29 = .ok (.astore_n 3, 1) := by decide +kernel
theorem d_L_law_30 : decode c_L_law 30 = .ok (.iconst 1, 1) := by decide +kernel
theorem d_L_law_31 : decode c_L_law 31 = .ok (.istore 4, 2) := by decide +kernel
theorem d_L_law_33 : decode c_L_law 33 = .ok (.iload 4, 2) := by decide +kernel
theorem d_L_law_35 : decode c_L_law 35 = .ok (.aload_n 0, 1) := by decide +kernel
theorem d_L_law_36 : decode c_L_law 36 = .ok (.arraylength, 1) := by decide +kernel
theorem d_L_law_37 : decode c_L_law 37 = .ok (.bipush 7, 2) := by decide +kernel
theorem d_L_law_39 : decode c_L_law 39 = .ok (.isub, 1) := by decide +kernel
theorem d_L_law_40 : decode c_L_law 40 = .ok (.if_icmp .gt 846, 3) := by decide +kernel
theorem d_L_law_43 : decode c_L_law 43 = .ok (.aload_n 0, 1) := by decide +kernel
theorem d_L_law_44 : decode c_L_law 44 = .ok (.iload 4, 2) := by decide +kernel
theorem d_L_law_46 : decode c_L_law 46 = .ok (.iaload, 1) := by decide +kernel
theorem d_L_law_47 : decode c_L_law 47 = .ok (.bipush 15, 2) := by decide +kernel
theorem d_L_law_49 : decode c_L_law 49 = .ok (.iand, 1) := by decide +kernel
theorem d_L_law_50 : decode c_L_law 50 = .ok (.tableswitch 830 0 11 #[62, 180, 260, 328, 396, 421, 477, 545, 601, 669, 737, 805], 62) := by decide +kernel
theorem d_L_law_112 : decode c_L_law 112 = .ok (.aload_n 1, 1) := by decide +kernel
theorem d_L_law_113 : decode c_L_law 113 = .ok (.aload_n 0, 1) := by decide +kernel
theorem d_L_law_114 : decode c_L_law 114 = .ok (.iload 4, 2) := by decide +kernel
theorem d_L_law_116 : decode c_L_law 116 = .ok (.iconst 1, 1) := by decide +kernel
theorem d_L_law_117 : decode c_L_law 117 = .ok (.iadd, 1) := by decide +kernel
theorem d_L_law_118 : decode c_L_law 118 = .ok (.iaload, 1) := by decide +kernel
theorem d_L_law_119 : decode c_L_law 119 = .ok (.aload_n 0, 1) := by decide +kernel
theorem d_L_law_120 : decode c_L_law 120 = .ok (.iload 4, 2) := by decide +kernel
theorem d_L_law_122 : decode c_L_law 122 = .ok (.iconst 2, 1) := by decide +kernel
theorem d_L_law_123 : decode c_L_law 123 = .ok (.iadd, 1) := by decide +kernel
theorem d_L_law_124 : decode c_L_law 124 = .ok (.iaload, 1) := by decide +kernel
theorem d_L_law_125 : decode c_L_law 125 = .ok (.aload_n 0, 1) := by decide +kernel
theorem d_L_law_126 : decode c_L_law 126 = .ok (.iload 4, 2) := by decide +kernel
theorem d_L_law_128 : decode c_L_law 128 = .ok (.iconst 3, 1) := by decide +kernel
theorem d_L_law_129 : decode c_L_law 129 = .ok (.iadd, 1) := by decide +kernel
theorem d_L_law_130 : decode c_L_law 130 = .ok (.iaload, 1) := by decide +kernel
theorem d_L_law_131 : decode c_L_law 131 = .ok (.aload_n 0, 1) := by decide +kernel
theorem d_L_law_132 : decode c_L_law 132 = .ok (.iload 4, 2) := by decide +kernel
theorem d_L_law_134 : decode c_L_law 134 = .ok (.iconst 4, 1) := by decide +kernel
theorem d_L_law_135 : decode c_L_law 135 = .ok (.iadd, 1) := by decide +kernel
theorem d_L_law_136 : decode c_L_law 136 = .ok (.iaload, 1) := by decide +kernel
theorem d_L_law_137 : decode c_L_law 137 = .ok (.aload_n 0, 1) := by decide +kernel
theorem d_L_law_138 : decode c_L_law 138 = .ok (.iload 4, 2) := by decide +kernel
theorem d_L_law_140 : decode c_L_law 140 = .ok (.iconst 5, 1) := by decide +kernel
theorem d_L_law_141 : decode c_L_law 141 = .ok (.iadd, 1) := by decide +kernel
theorem d_L_law_142 : decode c_L_law 142 = .ok (.iaload, 1) := by decide +kernel
theorem d_L_law_143 : decode c_L_law 143 = .ok (.aload_n 0, 1) := by decide +kernel
theorem d_L_law_144 : decode c_L_law 144 = .ok (.iload 4, 2) := by decide +kernel
theorem d_L_law_146 : decode c_L_law 146 = .ok (.bipush 6, 2) := by decide +kernel
theorem d_L_law_148 : decode c_L_law 148 = .ok (.iadd, 1) := by decide +kernel
theorem d_L_law_149 : decode c_L_law 149 = .ok (.iaload, 1) := by decide +kernel
theorem d_L_law_150 : decode c_L_law 150 = .ok (.aload_n 3, 1) := by decide +kernel
theorem d_L_law_151 : decode c_L_law 151 = .ok (.invokestatic 61, 3) := by decide +kernel
theorem d_L_law_154 : decode c_L_law 154 = .ok (.istore 5, 2) := by decide +kernel
theorem d_L_law_156 : decode c_L_law 156 = .ok (.aload_n 2, 1) := by decide +kernel
theorem d_L_law_157 : decode c_L_law 157 = .ok (.aload_n 0, 1) := by decide +kernel
theorem d_L_law_158 : decode c_L_law 158 = .ok (.iload 4, 2) := by decide +kernel
theorem d_L_law_160 : decode c_L_law 160 = .ok (.iconst 1, 1) := by decide +kernel
theorem d_L_law_161 : decode c_L_law 161 = .ok (.iadd, 1) := by decide +kernel
theorem d_L_law_162 : decode c_L_law 162 = .ok (.iaload, 1) := by decide +kernel
theorem d_L_law_163 : decode c_L_law 163 = .ok (.aload_n 0, 1) := by decide +kernel
theorem d_L_law_164 : decode c_L_law 164 = .ok (.iload 4, 2) := by decide +kernel
theorem d_L_law_166 : decode c_L_law 166 = .ok (.iconst 2, 1) := by decide +kernel
theorem d_L_law_167 : decode c_L_law 167 = .ok (.iadd, 1) := by decide +kernel
theorem d_L_law_168 : decode c_L_law 168 = .ok (.iaload, 1) := by decide +kernel
theorem d_L_law_169 : decode c_L_law 169 = .ok (.aload_n 0, 1) := by decide +kernel
theorem d_L_law_170 : decode c_L_law 170 = .ok (.iload 4, 2) := by decide +kernel
theorem d_L_law_172 : decode c_L_law 172 = .ok (.iconst 3, 1) := by decide +kernel
theorem d_L_law_173 : decode c_L_law 173 = .ok (.iadd, 1) := by decide +kernel
theorem d_L_law_174 : decode c_L_law 174 = .ok (.iaload, 1) := by decide +kernel
theorem d_L_law_175 : decode c_L_law 175 = .ok (.aload_n 0, 1) := by decide +kernel
theorem d_L_law_176 : decode c_L_law 176 = .ok (.iload 4, 2) := by decide +kernel
theorem d_L_law_178 : decode c_L_law 178 = .ok (.iconst 4, 1) := by decide +kernel
theorem d_L_law_179 : decode c_L_law 179 = .ok (.iadd, 1) := by decide +kernel
theorem d_L_law_180 : decode c_L_law 180 = .ok (.iaload, 1) := by decide +kernel
theorem d_L_law_181 : decode c_L_law 181 = .ok (.aload_n 0, 1) := by decide +kernel
theorem d_L_law_182 : decode c_L_law 182 = .ok (.iload 4, 2) := by decide +kernel
theorem d_L_law_184 : decode c_L_law 184 = .ok (.iconst 5, 1) := by decide +kernel
theorem d_L_law_185 : decode c_L_law 185 = .ok (.iadd, 1) := by decide +kernel
theorem d_L_law_186 : decode c_L_law 186 = .ok (.iaload, 1) := by decide +kernel
theorem d_L_law_187 : decode c_L_law 187 = .ok (.aload_n 0, 1) := by decide +kernel
theorem d_L_law_188 : decode c_L_law 188 = .ok (.iload 4, 2) := by decide +kernel
theorem d_L_law_190 : decode c_L_law 190 = .ok (.bipush 6, 2) := by decide +kernel
theorem d_L_law_192 : decode c_L_law 192 = .ok (.iadd, 1) := by decide +kernel
theorem d_L_law_193 : decode c_L_law 193 = .ok (.iaload, 1) := by decide +kernel
theorem d_L_law_194 : decode c_L_law 194 = .ok (.invokevirtual 64, 3) := by decide +kernel
theorem d_L_law_197 : decode c_L_law 197 = .ok (.istore 6, 2) := by decide +kernel
theorem d_L_law_199 : decode c_L_law 199 = .ok (.aload_n 2, 1) := by decide +kernel
theorem d_L_law_200 : decode c_L_law 200 = .ok (.invokevirtual 65, 3) := by decide +kernel
theorem d_L_law_203 : decode c_L_law 203 = .ok (.iload 5, 2) := by decide +kernel
theorem d_L_law_205 : decode c_L_law 205 = .ok (.if_icmp .eq 5, 3) := by decide +kernel
theorem d_L_law_208 : decode c_L_law 208 = .ok (.iconst 0, 1) := by decide +kernel
theorem d_L_law_209 : decode c_L_law 209 = .ok (.ireturn, 1) := by decide +kernel
theorem d_L_law_210 : decode c_L_law 210 = .ok (.iload 5, 2) := by decide +kernel
theorem d_L_law_212 : decode c_L_law 212 = .ok (.ifCond .ne 15, 3) := by decide +kernel
theorem d_L_law_215 : decode c_L_law 215 = .ok (.aload_n 3, 1) := by decide +kernel
theorem d_L_law_216 : decode c_L_law 216 = .ok (.iconst 0, 1) := by decide +kernel
theorem d_L_law_217 : decode c_L_law 217 = .ok (.laload, 1) := by decide +kernel
theorem d_L_law_218 : decode c_L_law 218 = .ok (.iload 6, 2) := by decide +kernel
theorem d_L_law_220 : decode c_L_law 220 = .ok (.i2l, 1) := by decide +kernel
theorem d_L_law_221 : decode c_L_law 221 = .ok (.lcmp, 1) := by decide +kernel
theorem d_L_law_222 : decode c_L_law 222 = .ok (.ifCond .eq 5, 3) := by decide +kernel
theorem d_L_law_225 : decode c_L_law 225 = .ok (.iconst 0, 1) := by decide +kernel
theorem d_L_law_226 : decode c_L_law 226 = .ok (.ireturn, 1) := by decide +kernel
theorem d_L_law_227 : decode c_L_law 227 = .ok (.goto 653, 3) := by decide +kernel
theorem d_L_law_230 : decode c_L_law 230 = .ok (.aload_n 1, 1) := by decide +kernel
theorem d_L_law_231 : decode c_L_law 231 = .ok (.aload_n 0, 1) := by decide +kernel
theorem d_L_law_232 : decode c_L_law 232 = .ok (.iload 4, 2) := by decide +kernel
theorem d_L_law_234 : decode c_L_law 234 = .ok (.iconst 1, 1) := by decide +kernel
theorem d_L_law_235 : decode c_L_law 235 = .ok (.iadd, 1) := by decide +kernel
theorem d_L_law_236 : decode c_L_law 236 = .ok (.iaload, 1) := by decide +kernel
theorem d_L_law_237 : decode c_L_law 237 = .ok (.aload_n 0, 1) := by decide +kernel
theorem d_L_law_238 : decode c_L_law 238 = .ok (.iload 4, 2) := by decide +kernel
theorem d_L_law_240 : decode c_L_law 240 = .ok (.iconst 2, 1) := by decide +kernel
theorem d_L_law_241 : decode c_L_law 241 = .ok (.iadd, 1) := by decide +kernel
theorem d_L_law_242 : decode c_L_law 242 = .ok (.iaload, 1) := by decide +kernel
theorem d_L_law_243 : decode c_L_law 243 = .ok (.aload_n 0, 1) := by decide +kernel
theorem d_L_law_244 : decode c_L_law 244 = .ok (.iload 4, 2) := by decide +kernel
theorem d_L_law_246 : decode c_L_law 246 = .ok (.iconst 3, 1) := by decide +kernel
theorem d_L_law_247 : decode c_L_law 247 = .ok (.iadd, 1) := by decide +kernel
theorem d_L_law_248 : decode c_L_law 248 = .ok (.iaload, 1) := by decide +kernel
theorem d_L_law_249 : decode c_L_law 249 = .ok (.aload_n 3, 1) := by decide +kernel
theorem d_L_law_250 : decode c_L_law 250 = .ok (.invokestatic 69, 3) := by decide +kernel
theorem d_L_law_253 : decode c_L_law 253 = .ok (.istore 5, 2) := by decide +kernel
theorem d_L_law_255 : decode c_L_law 255 = .ok (.aload_n 2, 1) := by decide +kernel
theorem d_L_law_256 : decode c_L_law 256 = .ok (.aload_n 0, 1) := by decide +kernel
theorem d_L_law_257 : decode c_L_law 257 = .ok (.iload 4, 2) := by decide +kernel
theorem d_L_law_259 : decode c_L_law 259 = .ok (.iconst 1, 1) := by decide +kernel
theorem d_L_law_260 : decode c_L_law 260 = .ok (.iadd, 1) := by decide +kernel
theorem d_L_law_261 : decode c_L_law 261 = .ok (.iaload, 1) := by decide +kernel
theorem d_L_law_262 : decode c_L_law 262 = .ok (.aload_n 0, 1) := by decide +kernel
theorem d_L_law_263 : decode c_L_law 263 = .ok (.iload 4, 2) := by decide +kernel
theorem d_L_law_265 : decode c_L_law 265 = .ok (.iconst 2, 1) := by decide +kernel
theorem d_L_law_266 : decode c_L_law 266 = .ok (.iadd, 1) := by decide +kernel
theorem d_L_law_267 : decode c_L_law 267 = .ok (.iaload, 1) := by decide +kernel
theorem d_L_law_268 : decode c_L_law 268 = .ok (.aload_n 0, 1) := by decide +kernel
theorem d_L_law_269 : decode c_L_law 269 = .ok (.iload 4, 2) := by decide +kernel
theorem d_L_law_271 : decode c_L_law 271 = .ok (.iconst 3, 1) := by decide +kernel
theorem d_L_law_272 : decode c_L_law 272 = .ok (.iadd, 1) := by decide +kernel
theorem d_L_law_273 : decode c_L_law 273 = .ok (.iaload, 1) := by decide +kernel
theorem d_L_law_274 : decode c_L_law 274 = .ok (.invokevirtual 72, 3) := by decide +kernel
theorem d_L_law_277 : decode c_L_law 277 = .ok (.istore 6, 2) := by decide +kernel
theorem d_L_law_279 : decode c_L_law 279 = .ok (.aload_n 2, 1) := by decide +kernel
theorem d_L_law_280 : decode c_L_law 280 = .ok (.invokevirtual 65, 3) := by decide +kernel
theorem d_L_law_283 : decode c_L_law 283 = .ok (.iload 5, 2) := by decide +kernel
theorem d_L_law_285 : decode c_L_law 285 = .ok (.if_icmp .eq 5, 3) := by decide +kernel
theorem d_L_law_288 : decode c_L_law 288 = .ok (.iconst 0, 1) := by decide +kernel
theorem d_L_law_289 : decode c_L_law 289 = .ok (.ireturn, 1) := by decide +kernel
theorem d_L_law_290 : decode c_L_law 290 = .ok (.iload 5, 2) := by decide +kernel
theorem d_L_law_292 : decode c_L_law 292 = .ok (.ifCond .ne 15, 3) := by decide +kernel
theorem d_L_law_295 : decode c_L_law 295 = .ok (.aload_n 3, 1) := by decide +kernel
theorem d_L_law_296 : decode c_L_law 296 = .ok (.iconst 0, 1) := by decide +kernel
theorem d_L_law_297 : decode c_L_law 297 = .ok (.laload, 1) := by decide +kernel
theorem d_L_law_298 : decode c_L_law 298 = .ok (.iload 6, 2) := by decide +kernel
theorem d_L_law_300 : decode c_L_law 300 = .ok (.i2l, 1) := by decide +kernel
theorem d_L_law_301 : decode c_L_law 301 = .ok (.lcmp, 1) := by decide +kernel
theorem d_L_law_302 : decode c_L_law 302 = .ok (.ifCond .eq 5, 3) := by decide +kernel
theorem d_L_law_305 : decode c_L_law 305 = .ok (.iconst 0, 1) := by decide +kernel
theorem d_L_law_306 : decode c_L_law 306 = .ok (.ireturn, 1) := by decide +kernel
theorem d_L_law_307 : decode c_L_law 307 = .ok (.goto 573, 3) := by decide +kernel
theorem d_L_law_310 : decode c_L_law 310 = .ok (.aload_n 1, 1) := by decide +kernel
theorem d_L_law_311 : decode c_L_law 311 = .ok (.aload_n 0, 1) := by decide +kernel
theorem d_L_law_312 : decode c_L_law 312 = .ok (.iload 4, 2) := by decide +kernel
theorem d_L_law_314 : decode c_L_law 314 = .ok (.iconst 1, 1) := by decide +kernel
theorem d_L_law_315 : decode c_L_law 315 = .ok (.iadd, 1) := by decide +kernel
theorem d_L_law_316 : decode c_L_law 316 = .ok (.iaload, 1) := by decide +kernel
theorem d_L_law_317 : decode c_L_law 317 = .ok (.aload_n 0, 1) := by decide +kernel
theorem d_L_law_318 : decode c_L_law 318 = .ok (.iload 4, 2) := by decide +kernel
theorem d_L_law_320 : decode c_L_law 320 = .ok (.iconst 2, 1) := by decide +kernel
theorem d_L_law_321 : decode c_L_law 321 = .ok (.iadd, 1) := by decide +kernel
theorem d_L_law_322 : decode c_L_law 322 = .ok (.iaload, 1) := by decide +kernel
theorem d_L_law_323 : decode c_L_law 323 = .ok (.aload_n 3, 1) := by decide +kernel
theorem d_L_law_324 : decode c_L_law 324 = .ok (.invokestatic 73, 3) := by decide +kernel
theorem d_L_law_327 : decode c_L_law 327 = .ok (.istore 5, 2) := by decide +kernel
theorem d_L_law_329 : decode c_L_law 329 = .ok (.aload_n 2, 1) := by decide +kernel
theorem d_L_law_330 : decode c_L_law 330 = .ok (.aload_n 0, 1) := by decide +kernel
theorem d_L_law_331 : decode c_L_law 331 = .ok (.iload 4, 2) := by decide +kernel
theorem d_L_law_333 : decode c_L_law 333 = .ok (.iconst 1, 1) := by decide +kernel
theorem d_L_law_334 : decode c_L_law 334 = .ok (.iadd, 1) := by decide +kernel
theorem d_L_law_335 : decode c_L_law 335 = .ok (.iaload, 1) := by decide +kernel
theorem d_L_law_336 : decode c_L_law 336 = .ok (.aload_n 0, 1) := by decide +kernel
theorem d_L_law_337 : decode c_L_law 337 = .ok (.iload 4, 2) := by decide +kernel
theorem d_L_law_339 : decode c_L_law 339 = .ok (.iconst 2, 1) := by decide +kernel
theorem d_L_law_340 : decode c_L_law 340 = .ok (.iadd, 1) := by decide +kernel
theorem d_L_law_341 : decode c_L_law 341 = .ok (.iaload, 1) := by decide +kernel
theorem d_L_law_342 : decode c_L_law 342 = .ok (.invokevirtual 76, 3) := by decide +kernel
theorem d_L_law_345 : decode c_L_law 345 = .ok (.istore 6, 2) := by decide +kernel
theorem d_L_law_347 : decode c_L_law 347 = .ok (.aload_n 2, 1) := by decide +kernel
theorem d_L_law_348 : decode c_L_law 348 = .ok (.invokevirtual 65, 3) := by decide +kernel
theorem d_L_law_351 : decode c_L_law 351 = .ok (.iload 5, 2) := by decide +kernel
theorem d_L_law_353 : decode c_L_law 353 = .ok (.if_icmp .eq 5, 3) := by decide +kernel
theorem d_L_law_356 : decode c_L_law 356 = .ok (.iconst 0, 1) := by decide +kernel
theorem d_L_law_357 : decode c_L_law 357 = .ok (.ireturn, 1) := by decide +kernel
theorem d_L_law_358 : decode c_L_law 358 = .ok (.iload 5, 2) := by decide +kernel
theorem d_L_law_360 : decode c_L_law 360 = .ok (.ifCond .ne 15, 3) := by decide +kernel
theorem d_L_law_363 : decode c_L_law 363 = .ok (.aload_n 3, 1) := by decide +kernel
theorem d_L_law_364 : decode c_L_law 364 = .ok (.iconst 0, 1) := by decide +kernel
theorem d_L_law_365 : decode c_L_law 365 = .ok (.laload, 1) := by decide +kernel
theorem d_L_law_366 : decode c_L_law 366 = .ok (.iload 6, 2) := by decide +kernel
theorem d_L_law_368 : decode c_L_law 368 = .ok (.i2l, 1) := by decide +kernel
theorem d_L_law_369 : decode c_L_law 369 = .ok (.lcmp, 1) := by decide +kernel
theorem d_L_law_370 : decode c_L_law 370 = .ok (.ifCond .eq 5, 3) := by decide +kernel
theorem d_L_law_373 : decode c_L_law 373 = .ok (.iconst 0, 1) := by decide +kernel
theorem d_L_law_374 : decode c_L_law 374 = .ok (.ireturn, 1) := by decide +kernel
theorem d_L_law_375 : decode c_L_law 375 = .ok (.goto 505, 3) := by decide +kernel
theorem d_L_law_378 : decode c_L_law 378 = .ok (.aload_n 1, 1) := by decide +kernel
theorem d_L_law_379 : decode c_L_law 379 = .ok (.aload_n 0, 1) := by decide +kernel
theorem d_L_law_380 : decode c_L_law 380 = .ok (.iload 4, 2) := by decide +kernel
theorem d_L_law_382 : decode c_L_law 382 = .ok (.iconst 1, 1) := by decide +kernel
theorem d_L_law_383 : decode c_L_law 383 = .ok (.iadd, 1) := by decide +kernel
theorem d_L_law_384 : decode c_L_law 384 = .ok (.iaload, 1) := by decide +kernel
theorem d_L_law_385 : decode c_L_law 385 = .ok (.aload_n 0, 1) := by decide +kernel
theorem d_L_law_386 : decode c_L_law 386 = .ok (.iload 4, 2) := by decide +kernel
theorem d_L_law_388 : decode c_L_law 388 = .ok (.iconst 2, 1) := by decide +kernel
theorem d_L_law_389 : decode c_L_law 389 = .ok (.iadd, 1) := by decide +kernel
theorem d_L_law_390 : decode c_L_law 390 = .ok (.iaload, 1) := by decide +kernel
theorem d_L_law_391 : decode c_L_law 391 = .ok (.aload_n 3, 1) := by decide +kernel
theorem d_L_law_392 : decode c_L_law 392 = .ok (.invokestatic 77, 3) := by decide +kernel
theorem d_L_law_395 : decode c_L_law 395 = .ok (.istore 5, 2) := by decide +kernel
theorem d_L_law_397 : decode c_L_law 397 = .ok (.aload_n 2, 1) := by decide +kernel
theorem d_L_law_398 : decode c_L_law 398 = .ok (.aload_n 0, 1) := by decide +kernel
theorem d_L_law_399 : decode c_L_law 399 = .ok (.iload 4, 2) := by decide +kernel
theorem d_L_law_401 : decode c_L_law 401 = .ok (.iconst 1, 1) := by decide +kernel
theorem d_L_law_402 : decode c_L_law 402 = .ok (.iadd, 1) := by decide +kernel
theorem d_L_law_403 : decode c_L_law 403 = .ok (.iaload, 1) := by decide +kernel
theorem d_L_law_404 : decode c_L_law 404 = .ok (.aload_n 0, 1) := by decide +kernel
theorem d_L_law_405 : decode c_L_law 405 = .ok (.iload 4, 2) := by decide +kernel
theorem d_L_law_407 : decode c_L_law 407 = .ok (.iconst 2, 1) := by decide +kernel
theorem d_L_law_408 : decode c_L_law 408 = .ok (.iadd, 1) := by decide +kernel
theorem d_L_law_409 : decode c_L_law 409 = .ok (.iaload, 1) := by decide +kernel
theorem d_L_law_410 : decode c_L_law 410 = .ok (.invokevirtual 79, 3) := by decide +kernel
theorem d_L_law_413 : decode c_L_law 413 = .ok (.istore 6, 2) := by decide +kernel
theorem d_L_law_415 : decode c_L_law 415 = .ok (.aload_n 2, 1) := by decide +kernel
theorem d_L_law_416 : decode c_L_law 416 = .ok (.invokevirtual 65, 3) := by decide +kernel
theorem d_L_law_419 : decode c_L_law 419 = .ok (.iload 5, 2) := by decide +kernel
theorem d_L_law_421 : decode c_L_law 421 = .ok (.if_icmp .eq 5, 3) := by decide +kernel
theorem d_L_law_424 : decode c_L_law 424 = .ok (.iconst 0, 1) := by decide +kernel
theorem d_L_law_425 : decode c_L_law 425 = .ok (.ireturn, 1) := by decide +kernel
theorem d_L_law_426 : decode c_L_law 426 = .ok (.iload 5, 2) := by decide +kernel
theorem d_L_law_428 : decode c_L_law 428 = .ok (.ifCond .ne 15, 3) := by decide +kernel
theorem d_L_law_431 : decode c_L_law 431 = .ok (.aload_n 3, 1) := by decide +kernel
theorem d_L_law_432 : decode c_L_law 432 = .ok (.iconst 0, 1) := by decide +kernel
theorem d_L_law_433 : decode c_L_law 433 = .ok (.laload, 1) := by decide +kernel
theorem d_L_law_434 : decode c_L_law 434 = .ok (.iload 6, 2) := by decide +kernel
theorem d_L_law_436 : decode c_L_law 436 = .ok (.i2l, 1) := by decide +kernel
theorem d_L_law_437 : decode c_L_law 437 = .ok (.lcmp, 1) := by decide +kernel
theorem d_L_law_438 : decode c_L_law 438 = .ok (.ifCond .eq 5, 3) := by decide +kernel
theorem d_L_law_441 : decode c_L_law 441 = .ok (.iconst 0, 1) := by decide +kernel
theorem d_L_law_442 : decode c_L_law 442 = .ok (.ireturn, 1) := by decide +kernel
theorem d_L_law_443 : decode c_L_law 443 = .ok (.goto 437, 3) := by decide +kernel
theorem d_L_law_446 : decode c_L_law 446 = .ok (.aload_n 1, 1) := by decide +kernel
theorem d_L_law_447 : decode c_L_law 447 = .ok (.aload_n 0, 1) := by decide +kernel
theorem d_L_law_448 : decode c_L_law 448 = .ok (.iload 4, 2) := by decide +kernel
theorem d_L_law_450 : decode c_L_law 450 = .ok (.iconst 1, 1) := by decide +kernel
theorem d_L_law_451 : decode c_L_law 451 = .ok (.iadd, 1) := by decide +kernel
theorem d_L_law_452 : decode c_L_law 452 = .ok (.iaload, 1) := by decide +kernel
theorem d_L_law_453 : decode c_L_law 453 = .ok (.invokevirtual 80, 3) := by decide +kernel
theorem d_L_law_456 : decode c_L_law 456 = .ok (.aload_n 2, 1) := by decide +kernel
theorem d_L_law_457 : decode c_L_law 457 = .ok (.aload_n 0, 1) := by decide +kernel
theorem d_L_law_458 : decode c_L_law 458 = .ok (.iload 4, 2) := by decide +kernel
theorem d_L_law_460 : decode c_L_law 460 = .ok (.iconst 1, 1) := by decide +kernel
theorem d_L_law_461 : decode c_L_law 461 = .ok (.iadd, 1) := by decide +kernel
theorem d_L_law_462 : decode c_L_law 462 = .ok (.iaload, 1) := by decide +kernel
theorem d_L_law_463 : decode c_L_law 463 = .ok (.invokevirtual 84, 3) := by decide +kernel
theorem d_L_law_466 : decode c_L_law 466 = .ok (.if_icmp .eq 414, 3) := by decide +kernel
theorem d_L_law_469 : decode c_L_law 469 = .ok (.iconst 0, 1) := by decide +kernel
theorem d_L_law_470 : decode c_L_law 470 = .ok (.ireturn, 1) := by decide +kernel
theorem d_L_law_471 : decode c_L_law 471 = .ok (.aload_n 1, 1) := by decide +kernel
theorem d_L_law_472 : decode c_L_law 472 = .ok (.aload_n 0, 1) := by decide +kernel
theorem d_L_law_473 : decode c_L_law 473 = .ok (.iload 4, 2) := by decide +kernel
theorem d_L_law_475 : decode c_L_law 475 = .ok (.iconst 1, 1) := by decide +kernel
theorem d_L_law_476 : decode c_L_law 476 = .ok (.iadd, 1) := by decide +kernel
theorem d_L_law_477 : decode c_L_law 477 = .ok (.iaload, 1) := by decide +kernel
theorem d_L_law_478 : decode c_L_law 478 = .ok (.aload_n 3, 1) := by decide +kernel
theorem d_L_law_479 : decode c_L_law 479 = .ok (.invokestatic 85, 3) := by decide +kernel
theorem d_L_law_482 : decode c_L_law 482 = .ok (.istore 5, 2) := by decide +kernel
theorem d_L_law_484 : decode c_L_law 484 = .ok (.aload_n 2, 1) := by decide +kernel
theorem d_L_law_485 : decode c_L_law 485 = .ok (.aload_n 0, 1) := by decide +kernel
theorem d_L_law_486 : decode c_L_law 486 = .ok (.iload 4, 2) := by decide +kernel
theorem d_L_law_488 : decode c_L_law 488 = .ok (.iconst 1, 1) := by decide +kernel
theorem d_L_law_489 : decode c_L_law 489 = .ok (.iadd, 1) := by decide +kernel
theorem d_L_law_490 : decode c_L_law 490 = .ok (.iaload, 1) := by decide +kernel
theorem d_L_law_491 : decode c_L_law 491 = .ok (.invokevirtual 88, 3) := by decide +kernel
theorem d_L_law_494 : decode c_L_law 494 = .ok (.istore 6, 2) := by decide +kernel
theorem d_L_law_496 : decode c_L_law 496 = .ok (.aload_n 2, 1) := by decide +kernel
theorem d_L_law_497 : decode c_L_law 497 = .ok (.invokevirtual 65, 3) := by decide +kernel
theorem d_L_law_500 : decode c_L_law 500 = .ok (.iload 5, 2) := by decide +kernel
theorem d_L_law_502 : decode c_L_law 502 = .ok (.if_icmp .eq 5, 3) := by decide +kernel
theorem d_L_law_505 : decode c_L_law 505 = .ok (.iconst 0, 1) := by decide +kernel
theorem d_L_law_506 : decode c_L_law 506 = .ok (.ireturn, 1) := by decide +kernel
theorem d_L_law_507 : decode c_L_law 507 = .ok (.iload 5, 2) := by decide +kernel
theorem d_L_law_509 : decode c_L_law 509 = .ok (.ifCond .ne 15, 3) := by decide +kernel
theorem d_L_law_512 : decode c_L_law 512 = .ok (.aload_n 3, 1) := by decide +kernel
theorem d_L_law_513 : decode c_L_law 513 = .ok (.iconst 0, 1) := by decide +kernel
theorem d_L_law_514 : decode c_L_law 514 = .ok (.laload, 1) := by decide +kernel
theorem d_L_law_515 : decode c_L_law 515 = .ok (.iload 6, 2) := by decide +kernel
theorem d_L_law_517 : decode c_L_law 517 = .ok (.i2l, 1) := by decide +kernel
theorem d_L_law_518 : decode c_L_law 518 = .ok (.lcmp, 1) := by decide +kernel
theorem d_L_law_519 : decode c_L_law 519 = .ok (.ifCond .eq 5, 3) := by decide +kernel
theorem d_L_law_522 : decode c_L_law 522 = .ok (.iconst 0, 1) := by decide +kernel
theorem d_L_law_523 : decode c_L_law 523 = .ok (.ireturn, 1) := by decide +kernel
theorem d_L_law_524 : decode c_L_law 524 = .ok (.goto 356, 3) := by decide +kernel
theorem d_L_law_527 : decode c_L_law 527 = .ok (.aload_n 1, 1) := by decide +kernel
theorem d_L_law_528 : decode c_L_law 528 = .ok (.aload_n 0, 1) := by decide +kernel
theorem d_L_law_529 : decode c_L_law 529 = .ok (.iload 4, 2) := by decide +kernel
theorem d_L_law_531 : decode c_L_law 531 = .ok (.iconst 1, 1) := by decide +kernel
theorem d_L_law_532 : decode c_L_law 532 = .ok (.iadd, 1) := by decide +kernel
theorem d_L_law_533 : decode c_L_law 533 = .ok (.iaload, 1) := by decide +kernel
theorem d_L_law_534 : decode c_L_law 534 = .ok (.aload_n 0, 1) := by decide +kernel
theorem d_L_law_535 : decode c_L_law 535 = .ok (.iload 4, 2) := by decide +kernel
theorem d_L_law_537 : decode c_L_law 537 = .ok (.iconst 2, 1) := by decide +kernel
theorem d_L_law_538 : decode c_L_law 538 = .ok (.iadd, 1) := by decide +kernel
theorem d_L_law_539 : decode c_L_law 539 = .ok (.iaload, 1) := by decide +kernel
theorem d_L_law_540 : decode c_L_law 540 = .ok (.aload_n 3, 1) := by decide +kernel
theorem d_L_law_541 : decode c_L_law 541 = .ok (.invokestatic 89, 3) := by decide +kernel
theorem d_L_law_544 : decode c_L_law 544 = .ok (.istore 5, 2) := by decide +kernel
theorem d_L_law_546 : decode c_L_law 546 = .ok (.aload_n 2, 1) := by decide +kernel
theorem d_L_law_547 : decode c_L_law 547 = .ok (.aload_n 0, 1) := by decide +kernel
theorem d_L_law_548 : decode c_L_law 548 = .ok (.iload 4, 2) := by decide +kernel
theorem d_L_law_550 : decode c_L_law 550 = .ok (.iconst 1, 1) := by decide +kernel
theorem d_L_law_551 : decode c_L_law 551 = .ok (.iadd, 1) := by decide +kernel
theorem d_L_law_552 : decode c_L_law 552 = .ok (.iaload, 1) := by decide +kernel
theorem d_L_law_553 : decode c_L_law 553 = .ok (.aload_n 0, 1) := by decide +kernel
theorem d_L_law_554 : decode c_L_law 554 = .ok (.iload 4, 2) := by decide +kernel
theorem d_L_law_556 : decode c_L_law 556 = .ok (.iconst 2, 1) := by decide +kernel
theorem d_L_law_557 : decode c_L_law 557 = .ok (.iadd, 1) := by decide +kernel
theorem d_L_law_558 : decode c_L_law 558 = .ok (.iaload, 1) := by decide +kernel
theorem d_L_law_559 : decode c_L_law 559 = .ok (.invokevirtual 91, 3) := by decide +kernel
theorem d_L_law_562 : decode c_L_law 562 = .ok (.istore 6, 2) := by decide +kernel
theorem d_L_law_564 : decode c_L_law 564 = .ok (.aload_n 2, 1) := by decide +kernel
theorem d_L_law_565 : decode c_L_law 565 = .ok (.invokevirtual 65, 3) := by decide +kernel
theorem d_L_law_568 : decode c_L_law 568 = .ok (.iload 5, 2) := by decide +kernel
theorem d_L_law_570 : decode c_L_law 570 = .ok (.if_icmp .eq 5, 3) := by decide +kernel
theorem d_L_law_573 : decode c_L_law 573 = .ok (.iconst 0, 1) := by decide +kernel
theorem d_L_law_574 : decode c_L_law 574 = .ok (.ireturn, 1) := by decide +kernel
theorem d_L_law_575 : decode c_L_law 575 = .ok (.iload 5, 2) := by decide +kernel
theorem d_L_law_577 : decode c_L_law 577 = .ok (.ifCond .ne 15, 3) := by decide +kernel
theorem d_L_law_580 : decode c_L_law 580 = .ok (.aload_n 3, 1) := by decide +kernel
theorem d_L_law_581 : decode c_L_law 581 = .ok (.iconst 0, 1) := by decide +kernel
theorem d_L_law_582 : decode c_L_law 582 = .ok (.laload, 1) := by decide +kernel
theorem d_L_law_583 : decode c_L_law 583 = .ok (.iload 6, 2) := by decide +kernel
theorem d_L_law_585 : decode c_L_law 585 = .ok (.i2l, 1) := by decide +kernel
theorem d_L_law_586 : decode c_L_law 586 = .ok (.lcmp, 1) := by decide +kernel
theorem d_L_law_587 : decode c_L_law 587 = .ok (.ifCond .eq 5, 3) := by decide +kernel
theorem d_L_law_590 : decode c_L_law 590 = .ok (.iconst 0, 1) := by decide +kernel
theorem d_L_law_591 : decode c_L_law 591 = .ok (.ireturn, 1) := by decide +kernel
theorem d_L_law_592 : decode c_L_law 592 = .ok (.goto 288, 3) := by decide +kernel
theorem d_L_law_595 : decode c_L_law 595 = .ok (.aload_n 1, 1) := by decide +kernel
theorem d_L_law_596 : decode c_L_law 596 = .ok (.aload_n 0, 1) := by decide +kernel
theorem d_L_law_597 : decode c_L_law 597 = .ok (.iload 4, 2) := by decide +kernel
theorem d_L_law_599 : decode c_L_law 599 = .ok (.iconst 1, 1) := by decide +kernel
theorem d_L_law_600 : decode c_L_law 600 = .ok (.iadd, 1) := by decide +kernel
theorem d_L_law_601 : decode c_L_law 601 = .ok (.iaload, 1) := by decide +kernel
theorem d_L_law_602 : decode c_L_law 602 = .ok (.aload_n 3, 1) := by decide +kernel
theorem d_L_law_603 : decode c_L_law 603 = .ok (.invokestatic 92, 3) := by decide +kernel
theorem d_L_law_606 : decode c_L_law 606 = .ok (.istore 5, 2) := by decide +kernel
theorem d_L_law_608 : decode c_L_law 608 = .ok (.aload_n 2, 1) := by decide +kernel
theorem d_L_law_609 : decode c_L_law 609 = .ok (.aload_n 0, 1) := by decide +kernel
theorem d_L_law_610 : decode c_L_law 610 = .ok (.iload 4, 2) := by decide +kernel
theorem d_L_law_612 : decode c_L_law 612 = .ok (.iconst 1, 1) := by decide +kernel
theorem d_L_law_613 : decode c_L_law 613 = .ok (.iadd, 1) := by decide +kernel
theorem d_L_law_614 : decode c_L_law 614 = .ok (.iaload, 1) := by decide +kernel
theorem d_L_law_615 : decode c_L_law 615 = .ok (.invokevirtual 94, 3) := by decide +kernel
theorem d_L_law_618 : decode c_L_law 618 = .ok (.istore 6, 2) := by decide +kernel
theorem d_L_law_620 : decode c_L_law 620 = .ok (.aload_n 2, 1) := by decide +kernel
theorem d_L_law_621 : decode c_L_law 621 = .ok (.invokevirtual 65, 3) := by decide +kernel
theorem d_L_law_624 : decode c_L_law 624 = .ok (.iload 5, 2) := by decide +kernel
theorem d_L_law_626 : decode c_L_law 626 = .ok (.if_icmp .eq 5, 3) := by decide +kernel
theorem d_L_law_629 : decode c_L_law 629 = .ok (.iconst 0, 1) := by decide +kernel
theorem d_L_law_630 : decode c_L_law 630 = .ok (.ireturn, 1) := by decide +kernel
theorem d_L_law_631 : decode c_L_law 631 = .ok (.iload 5, 2) := by decide +kernel
theorem d_L_law_633 : decode c_L_law 633 = .ok (.ifCond .ne 15, 3) := by decide +kernel
theorem d_L_law_636 : decode c_L_law 636 = .ok (.aload_n 3, 1) := by decide +kernel
theorem d_L_law_637 : decode c_L_law 637 = .ok (.iconst 0, 1) := by decide +kernel
theorem d_L_law_638 : decode c_L_law 638 = .ok (.laload, 1) := by decide +kernel
theorem d_L_law_639 : decode c_L_law 639 = .ok (.iload 6, 2) := by decide +kernel
theorem d_L_law_641 : decode c_L_law 641 = .ok (.i2l, 1) := by decide +kernel
theorem d_L_law_642 : decode c_L_law 642 = .ok (.lcmp, 1) := by decide +kernel
theorem d_L_law_643 : decode c_L_law 643 = .ok (.ifCond .eq 5, 3) := by decide +kernel
theorem d_L_law_646 : decode c_L_law 646 = .ok (.iconst 0, 1) := by decide +kernel
theorem d_L_law_647 : decode c_L_law 647 = .ok (.ireturn, 1) := by decide +kernel
theorem d_L_law_648 : decode c_L_law 648 = .ok (.goto 232, 3) := by decide +kernel
theorem d_L_law_651 : decode c_L_law 651 = .ok (.aload_n 1, 1) := by decide +kernel
theorem d_L_law_652 : decode c_L_law 652 = .ok (.aload_n 0, 1) := by decide +kernel
theorem d_L_law_653 : decode c_L_law 653 = .ok (.iload 4, 2) := by decide +kernel
theorem d_L_law_655 : decode c_L_law 655 = .ok (.iconst 1, 1) := by decide +kernel
theorem d_L_law_656 : decode c_L_law 656 = .ok (.iadd, 1) := by decide +kernel
theorem d_L_law_657 : decode c_L_law 657 = .ok (.iaload, 1) := by decide +kernel
theorem d_L_law_658 : decode c_L_law 658 = .ok (.aload_n 0, 1) := by decide +kernel
theorem d_L_law_659 : decode c_L_law 659 = .ok (.iload 4, 2) := by decide +kernel
theorem d_L_law_661 : decode c_L_law 661 = .ok (.iconst 2, 1) := by decide +kernel
theorem d_L_law_662 : decode c_L_law 662 = .ok (.iadd, 1) := by decide +kernel
theorem d_L_law_663 : decode c_L_law 663 = .ok (.iaload, 1) := by decide +kernel
theorem d_L_law_664 : decode c_L_law 664 = .ok (.aload_n 3, 1) := by decide +kernel
theorem d_L_law_665 : decode c_L_law 665 = .ok (.invokestatic 95, 3) := by decide +kernel
theorem d_L_law_668 : decode c_L_law 668 = .ok (.istore 5, 2) := by decide +kernel
theorem d_L_law_670 : decode c_L_law 670 = .ok (.aload_n 2, 1) := by decide +kernel
theorem d_L_law_671 : decode c_L_law 671 = .ok (.aload_n 0, 1) := by decide +kernel
theorem d_L_law_672 : decode c_L_law 672 = .ok (.iload 4, 2) := by decide +kernel
theorem d_L_law_674 : decode c_L_law 674 = .ok (.iconst 1, 1) := by decide +kernel
theorem d_L_law_675 : decode c_L_law 675 = .ok (.iadd, 1) := by decide +kernel
theorem d_L_law_676 : decode c_L_law 676 = .ok (.iaload, 1) := by decide +kernel
theorem d_L_law_677 : decode c_L_law 677 = .ok (.aload_n 0, 1) := by decide +kernel
theorem d_L_law_678 : decode c_L_law 678 = .ok (.iload 4, 2) := by decide +kernel
theorem d_L_law_680 : decode c_L_law 680 = .ok (.iconst 2, 1) := by decide +kernel
theorem d_L_law_681 : decode c_L_law 681 = .ok (.iadd, 1) := by decide +kernel
theorem d_L_law_682 : decode c_L_law 682 = .ok (.iaload, 1) := by decide +kernel
theorem d_L_law_683 : decode c_L_law 683 = .ok (.invokevirtual 97, 3) := by decide +kernel
theorem d_L_law_686 : decode c_L_law 686 = .ok (.istore 6, 2) := by decide +kernel
theorem d_L_law_688 : decode c_L_law 688 = .ok (.aload_n 2, 1) := by decide +kernel
theorem d_L_law_689 : decode c_L_law 689 = .ok (.invokevirtual 65, 3) := by decide +kernel
theorem d_L_law_692 : decode c_L_law 692 = .ok (.iload 5, 2) := by decide +kernel
theorem d_L_law_694 : decode c_L_law 694 = .ok (.if_icmp .eq 5, 3) := by decide +kernel
theorem d_L_law_697 : decode c_L_law 697 = .ok (.iconst 0, 1) := by decide +kernel
theorem d_L_law_698 : decode c_L_law 698 = .ok (.ireturn, 1) := by decide +kernel
theorem d_L_law_699 : decode c_L_law 699 = .ok (.iload 5, 2) := by decide +kernel
theorem d_L_law_701 : decode c_L_law 701 = .ok (.ifCond .ne 15, 3) := by decide +kernel
theorem d_L_law_704 : decode c_L_law 704 = .ok (.aload_n 3, 1) := by decide +kernel
theorem d_L_law_705 : decode c_L_law 705 = .ok (.iconst 0, 1) := by decide +kernel
theorem d_L_law_706 : decode c_L_law 706 = .ok (.laload, 1) := by decide +kernel
theorem d_L_law_707 : decode c_L_law 707 = .ok (.iload 6, 2) := by decide +kernel
theorem d_L_law_709 : decode c_L_law 709 = .ok (.i2l, 1) := by decide +kernel
theorem d_L_law_710 : decode c_L_law 710 = .ok (.lcmp, 1) := by decide +kernel
theorem d_L_law_711 : decode c_L_law 711 = .ok (.ifCond .eq 5, 3) := by decide +kernel
theorem d_L_law_714 : decode c_L_law 714 = .ok (.iconst 0, 1) := by decide +kernel
theorem d_L_law_715 : decode c_L_law 715 = .ok (.ireturn, 1) := by decide +kernel
theorem d_L_law_716 : decode c_L_law 716 = .ok (.goto 164, 3) := by decide +kernel
theorem d_L_law_719 : decode c_L_law 719 = .ok (.aload_n 1, 1) := by decide +kernel
theorem d_L_law_720 : decode c_L_law 720 = .ok (.aload_n 0, 1) := by decide +kernel
theorem d_L_law_721 : decode c_L_law 721 = .ok (.iload 4, 2) := by decide +kernel
theorem d_L_law_723 : decode c_L_law 723 = .ok (.iconst 1, 1) := by decide +kernel
theorem d_L_law_724 : decode c_L_law 724 = .ok (.iadd, 1) := by decide +kernel
theorem d_L_law_725 : decode c_L_law 725 = .ok (.iaload, 1) := by decide +kernel
theorem d_L_law_726 : decode c_L_law 726 = .ok (.aload_n 0, 1) := by decide +kernel
theorem d_L_law_727 : decode c_L_law 727 = .ok (.iload 4, 2) := by decide +kernel
theorem d_L_law_729 : decode c_L_law 729 = .ok (.iconst 2, 1) := by decide +kernel
theorem d_L_law_730 : decode c_L_law 730 = .ok (.iadd, 1) := by decide +kernel
theorem d_L_law_731 : decode c_L_law 731 = .ok (.iaload, 1) := by decide +kernel
theorem d_L_law_732 : decode c_L_law 732 = .ok (.aload_n 3, 1) := by decide +kernel
theorem d_L_law_733 : decode c_L_law 733 = .ok (.invokestatic 98, 3) := by decide +kernel
theorem d_L_law_736 : decode c_L_law 736 = .ok (.istore 5, 2) := by decide +kernel
theorem d_L_law_738 : decode c_L_law 738 = .ok (.aload_n 2, 1) := by decide +kernel
theorem d_L_law_739 : decode c_L_law 739 = .ok (.aload_n 0, 1) := by decide +kernel
theorem d_L_law_740 : decode c_L_law 740 = .ok (.iload 4, 2) := by decide +kernel
theorem d_L_law_742 : decode c_L_law 742 = .ok (.iconst 1, 1) := by decide +kernel
theorem d_L_law_743 : decode c_L_law 743 = .ok (.iadd, 1) := by decide +kernel
theorem d_L_law_744 : decode c_L_law 744 = .ok (.iaload, 1) := by decide +kernel
theorem d_L_law_745 : decode c_L_law 745 = .ok (.aload_n 0, 1) := by decide +kernel
theorem d_L_law_746 : decode c_L_law 746 = .ok (.iload 4, 2) := by decide +kernel
theorem d_L_law_748 : decode c_L_law 748 = .ok (.iconst 2, 1) := by decide +kernel
theorem d_L_law_749 : decode c_L_law 749 = .ok (.iadd, 1) := by decide +kernel
theorem d_L_law_750 : decode c_L_law 750 = .ok (.iaload, 1) := by decide +kernel
theorem d_L_law_751 : decode c_L_law 751 = .ok (.invokevirtual 100, 3) := by decide +kernel
theorem d_L_law_754 : decode c_L_law 754 = .ok (.istore 6, 2) := by decide +kernel
theorem d_L_law_756 : decode c_L_law 756 = .ok (.aload_n 2, 1) := by decide +kernel
theorem d_L_law_757 : decode c_L_law 757 = .ok (.invokevirtual 65, 3) := by decide +kernel
theorem d_L_law_760 : decode c_L_law 760 = .ok (.iload 5, 2) := by decide +kernel
theorem d_L_law_762 : decode c_L_law 762 = .ok (.if_icmp .eq 5, 3) := by decide +kernel
theorem d_L_law_765 : decode c_L_law 765 = .ok (.iconst 0, 1) := by decide +kernel
theorem d_L_law_766 : decode c_L_law 766 = .ok (.ireturn, 1) := by decide +kernel
theorem d_L_law_767 : decode c_L_law 767 = .ok (.iload 5, 2) := by decide +kernel
theorem d_L_law_769 : decode c_L_law 769 = .ok (.ifCond .ne 15, 3) := by decide +kernel
theorem d_L_law_772 : decode c_L_law 772 = .ok (.aload_n 3, 1) := by decide +kernel
theorem d_L_law_773 : decode c_L_law 773 = .ok (.iconst 0, 1) := by decide +kernel
theorem d_L_law_774 : decode c_L_law 774 = .ok (.laload, 1) := by decide +kernel
theorem d_L_law_775 : decode c_L_law 775 = .ok (.iload 6, 2) := by decide +kernel
theorem d_L_law_777 : decode c_L_law 777 = .ok (.i2l, 1) := by decide +kernel
theorem d_L_law_778 : decode c_L_law 778 = .ok (.lcmp, 1) := by decide +kernel
theorem d_L_law_779 : decode c_L_law 779 = .ok (.ifCond .eq 5, 3) := by decide +kernel
theorem d_L_law_782 : decode c_L_law 782 = .ok (.iconst 0, 1) := by decide +kernel
theorem d_L_law_783 : decode c_L_law 783 = .ok (.ireturn, 1) := by decide +kernel
theorem d_L_law_784 : decode c_L_law 784 = .ok (.goto 96, 3) := by decide +kernel
theorem d_L_law_787 : decode c_L_law 787 = .ok (.aload_n 1, 1) := by decide +kernel
theorem d_L_law_788 : decode c_L_law 788 = .ok (.aload_n 0, 1) := by decide +kernel
theorem d_L_law_789 : decode c_L_law 789 = .ok (.iload 4, 2) := by decide +kernel
theorem d_L_law_791 : decode c_L_law 791 = .ok (.iconst 1, 1) := by decide +kernel
theorem d_L_law_792 : decode c_L_law 792 = .ok (.iadd, 1) := by decide +kernel
theorem d_L_law_793 : decode c_L_law 793 = .ok (.iaload, 1) := by decide +kernel
theorem d_L_law_794 : decode c_L_law 794 = .ok (.aload_n 0, 1) := by decide +kernel
theorem d_L_law_795 : decode c_L_law 795 = .ok (.iload 4, 2) := by decide +kernel
theorem d_L_law_797 : decode c_L_law 797 = .ok (.iconst 2, 1) := by decide +kernel
theorem d_L_law_798 : decode c_L_law 798 = .ok (.iadd, 1) := by decide +kernel
theorem d_L_law_799 : decode c_L_law 799 = .ok (.iaload, 1) := by decide +kernel
theorem d_L_law_800 : decode c_L_law 800 = .ok (.aload_n 3, 1) := by decide +kernel
theorem d_L_law_801 : decode c_L_law 801 = .ok (.invokestatic 101, 3) := by decide +kernel
theorem d_L_law_804 : decode c_L_law 804 = .ok (.istore 5, 2) := by decide +kernel
theorem d_L_law_806 : decode c_L_law 806 = .ok (.aload_n 2, 1) := by decide +kernel
theorem d_L_law_807 : decode c_L_law 807 = .ok (.aload_n 0, 1) := by decide +kernel
theorem d_L_law_808 : decode c_L_law 808 = .ok (.iload 4, 2) := by decide +kernel
theorem d_L_law_810 : decode c_L_law 810 = .ok (.iconst 1, 1) := by decide +kernel
theorem d_L_law_811 : decode c_L_law 811 = .ok (.iadd, 1) := by decide +kernel
theorem d_L_law_812 : decode c_L_law 812 = .ok (.iaload, 1) := by decide +kernel
theorem d_L_law_813 : decode c_L_law 813 = .ok (.aload_n 0, 1) := by decide +kernel
theorem d_L_law_814 : decode c_L_law 814 = .ok (.iload 4, 2) := by decide +kernel
theorem d_L_law_816 : decode c_L_law 816 = .ok (.iconst 2, 1) := by decide +kernel
theorem d_L_law_817 : decode c_L_law 817 = .ok (.iadd, 1) := by decide +kernel
theorem d_L_law_818 : decode c_L_law 818 = .ok (.iaload, 1) := by decide +kernel
theorem d_L_law_819 : decode c_L_law 819 = .ok (.invokevirtual 103, 3) := by decide +kernel
theorem d_L_law_822 : decode c_L_law 822 = .ok (.istore 6, 2) := by decide +kernel
theorem d_L_law_824 : decode c_L_law 824 = .ok (.aload_n 2, 1) := by decide +kernel
theorem d_L_law_825 : decode c_L_law 825 = .ok (.invokevirtual 65, 3) := by decide +kernel
theorem d_L_law_828 : decode c_L_law 828 = .ok (.iload 5, 2) := by decide +kernel
theorem d_L_law_830 : decode c_L_law 830 = .ok (.if_icmp .eq 5, 3) := by decide +kernel
theorem d_L_law_833 : decode c_L_law 833 = .ok (.iconst 0, 1) := by decide +kernel
theorem d_L_law_834 : decode c_L_law 834 = .ok (.ireturn, 1) := by decide +kernel
theorem d_L_law_835 : decode c_L_law 835 = .ok (.iload 5, 2) := by decide +kernel
theorem d_L_law_837 : decode c_L_law 837 = .ok (.ifCond .ne 15, 3) := by decide +kernel
theorem d_L_law_840 : decode c_L_law 840 = .ok (.aload_n 3, 1) := by decide +kernel
theorem d_L_law_841 : decode c_L_law 841 = .ok (.iconst 0, 1) := by decide +kernel
theorem d_L_law_842 : decode c_L_law 842 = .ok (.laload, 1) := by decide +kernel
theorem d_L_law_843 : decode c_L_law 843 = .ok (.iload 6, 2) := by decide +kernel
theorem d_L_law_845 : decode c_L_law 845 = .ok (.i2l, 1) := by decide +kernel
theorem d_L_law_846 : decode c_L_law 846 = .ok (.lcmp, 1) := by decide +kernel
theorem d_L_law_847 : decode c_L_law 847 = .ok (.ifCond .eq 5, 3) := by decide +kernel
theorem d_L_law_850 : decode c_L_law 850 = .ok (.iconst 0, 1) := by decide +kernel
theorem d_L_law_851 : decode c_L_law 851 = .ok (.ireturn, 1) := by decide +kernel
theorem d_L_law_852 : decode c_L_law 852 = .ok (.goto 28, 3) := by decide +kernel
theorem d_L_law_855 : decode c_L_law 855 = .ok (.aload_n 1, 1) := by decide +kernel
theorem d_L_law_856 : decode c_L_law 856 = .ok (.aload_n 0, 1) := by decide +kernel
theorem d_L_law_857 : decode c_L_law 857 = .ok (.iload 4, 2) := by decide +kernel
theorem d_L_law_859 : decode c_L_law 859 = .ok (.iconst 1, 1) := by decide +kernel
theorem d_L_law_860 : decode c_L_law 860 = .ok (.iadd, 1) := by decide +kernel
theorem d_L_law_861 : decode c_L_law 861 = .ok (.iaload, 1) := by decide +kernel
theorem d_L_law_862 : decode c_L_law 862 = .ok (.invokevirtual 104, 3) := by decide +kernel
theorem d_L_law_865 : decode c_L_law 865 = .ok (.aload_n 2, 1) := by decide +kernel
theorem d_L_law_866 : decode c_L_law 866 = .ok (.aload_n 0, 1) := by decide +kernel
theorem d_L_law_867 : decode c_L_law 867 = .ok (.iload 4, 2) := by decide +kernel
theorem d_L_law_869 : decode c_L_law 869 = .ok (.iconst 1, 1) := by decide +kernel
theorem d_L_law_870 : decode c_L_law 870 = .ok (.iadd, 1) := by decide +kernel
theorem d_L_law_871 : decode c_L_law 871 = .ok (.iaload, 1) := by decide +kernel
theorem d_L_law_872 : decode c_L_law 872 = .ok (.invokevirtual 107, 3) := by decide +kernel
theorem d_L_law_875 : decode c_L_law 875 = .ok (.if_icmp .eq 5, 3) := by decide +kernel
theorem d_L_law_878 : decode c_L_law 878 = .ok (.iconst 0, 1) := by decide +kernel
theorem d_L_law_879 : decode c_L_law 879 = .ok (.ireturn, 1) := by decide +kernel
theorem d_L_law_880 : decode c_L_law 880 = .ok (.iinc 4 7, 3) := by decide +kernel
theorem d_L_law_883 : decode c_L_law 883 = .ok (.goto (-850), 3) := by decide +kernel
theorem d_L_law_886 : decode c_L_law 886 = .ok (.iconst 1, 1) := by decide +kernel
theorem d_L_law_887 : decode c_L_law 887 = .ok (.ireturn, 1) := by decide +kernel
