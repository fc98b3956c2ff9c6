theorem dX7_init_0 : decode cX7_init 0 = .ok (.aload_n 0, 1) := by decide +kernel
theorem dX7_init_1 : decode cX7_init 1 = .ok (.invokespecial 3, 3) := by decide +kernel
theorem dX7_init_4 : decode cX7_init 4 = .ok (.aload_n 0, 1) := by decide +kernel
theorem dX7_init_5 : decode cX7_init 5 = .ok (.bipush 56, 2) := by decide +kernel
theorem dX7_init_7 : decode cX7_init 7 = .ok (.newarray .int, 2) := by decide +kernel
theorem dX7_init_9 : decode cX7_init 9 = .ok (.putfield 9, 3) := by decide +kernel
theorem dX7_init_12 : decode cX7_init 12 = .ok (.aload_n 0, 1) := by decide +kernel
theorem dX7_init_13 : decode cX7_init 13 = .ok (.sipush 672, 3) := by decide +kernel
theorem dX7_init_16 : decode cX7_init 16 = .ok (.newarray .int, 2) := by decide +kernel
theorem dX7_init_18 : decode cX7_init 18 = .ok (.putfield 13, 3) := by decide +kernel
theorem dX7_init_21 : decode cX7_init 21 = .ok (.aload_n 0, 1) := by decide +kernel
theorem dX7_init_22 : decode cX7_init 22 = .ok (.bipush 56, 2) := by decide +kernel
theorem dX7_init_24 : decode cX7_init 24 = .ok (.newarray .int, 2) := by decide +kernel
theorem dX7_init_26 : decode cX7_init 26 = .ok (.putfield 16, 3) := by decide +kernel
theorem dX7_init_29 : decode cX7_init 29 = .ok (.aload_n 0, 1) := by decide +kernel
theorem dX7_init_30 : decode cX7_init 30 = .ok (.bipush 60, 2) := by decide +kernel
theorem dX7_init_32 : decode cX7_init 32 = .ok (.newarray .int, 2) := by decide +kernel
theorem dX7_init_34 : decode cX7_init 34 = .ok (.putfield 19, 3) := by decide +kernel
theorem dX7_init_37 : decode cX7_init 37 = .ok (.aload_n 0, 1) := by decide +kernel
theorem dX7_init_38 : decode cX7_init 38 = .ok (.sipush 289, 3) := by decide +kernel
theorem dX7_init_41 : decode cX7_init 41 = .ok (.newarray .boolean, 2) := by decide +kernel
theorem dX7_init_43 : decode cX7_init 43 = .ok (.putfield 22, 3) := by decide +kernel
theorem dX7_init_46 : decode cX7_init 46 = .ok (.aload_n 0, 1) := by decide +kernel
theorem dX7_init_47 : decode cX7_init 47 = .ok (.bipush 120, 2) := by decide +kernel
theorem dX7_init_49 : decode cX7_init 49 = .ok (.newarray .int, 2) := by decide +kernel
theorem dX7_init_51 : decode cX7_init 51 = .ok (.putfield 26, 3) := by decide +kernel
theorem dX7_init_54 : decode cX7_init 54 = .ok (.aload_n 0, 1) := by decide +kernel
theorem dX7_init_55 : decode cX7_init 55 = .ok (.bipush 120, 2) := by decide +kernel
theorem dX7_init_57 : decode cX7_init 57 = .ok (.newarray .int, 2) := by decide +kernel
theorem dX7_init_59 : decode cX7_init 59 = .ok (.putfield 29, 3) := by decide +kernel
theorem dX7_init_62 : decode cX7_init 62 = .ok (.aload_n 0, 1) := by decide +kernel
theorem dX7_init_63 : decode cX7_init 63 = .ok (.sipush 289, 3) := by decide +kernel
theorem dX7_init_66 : decode cX7_init 66 = .ok (.newarray .boolean, 2) := by decide +kernel
theorem dX7_init_68 : decode cX7_init 68 = .ok (.putfield 32, 3) := by decide +kernel
theorem dX7_init_71 : decode cX7_init 71 = .ok (.aload_n 0, 1) := by decide +kernel
theorem dX7_init_72 : decode cX7_init 72 = .ok (.bipush 56, 2) := by decide +kernel
theorem dX7_init_74 : decode cX7_init 74 = .ok (.newarray .int, 2) := by decide +kernel
theorem dX7_init_76 : decode cX7_init 76 = .ok (.putfield 35, 3) := by decide +kernel
theorem dX7_init_79 : decode cX7_init 79 = .ok (.aload_n 0, 1) := by decide +kernel
theorem dX7_init_80 : decode cX7_init 80 = .ok (.iconst 2, 1) := by decide +kernel
theorem dX7_init_81 : decode cX7_init 81 = .ok (.newarray .int, 2) := by decide +kernel
theorem dX7_init_83 : decode cX7_init 83 = .ok (.putfield 38, 3) := by decide +kernel
theorem dX7_init_86 : decode cX7_init 86 = .ok (.aload_n 0, 1) := by decide +kernel
theorem dX7_init_87 : decode cX7_init 87 = .ok (.bipush 17, 2) := by decide +kernel
theorem dX7_init_89 : decode cX7_init 89 = .ok (.newarray .boolean, 2) := by decide +kernel
theorem dX7_init_91 : decode cX7_init 91 = .ok (.putfield 41, 3) := by decide +kernel
theorem dX7_init_94 : decode cX7_init 94 = .ok (.return_, 1) := by decide +kernel
theorem dX7_thrown_0 : decode cX7_thrown 0 = .ok (.aload_n 0, 1) := by decide +kernel
theorem dX7_thrown_1 : decode cX7_thrown 1 = .ok (.getfield 44, 3) := by decide +kernel
theorem dX7_thrown_4 : decode cX7_thrown 4 = .ok (.ireturn, 1) := by decide +kernel
theorem dX7_in_0 : decode cX7_in 0 = .ok (.iload_n 0, 1) := by decide +kernel
theorem dX7_in_1 : decode cX7_in 1 = .ok (.iload_n 1, 1) := by decide +kernel
theorem dX7_in_2 : decode cX7_in 2 = .ok (.if_icmp .lt 12, 3) := by decide +kernel
theorem dX7_in_5 : decode cX7_in 5 = .ok (.iload_n 0, 1) := by decide +kernel
theorem dX7_in_6 : decode cX7_in 6 = .ok (.iload_n 2, 1) := by decide +kernel
theorem dX7_in_7 : decode cX7_in 7 = .ok (.if_icmp .gt 7, 3) := by decide +kernel
theorem dX7_in_10 : decode cX7_in 10 = .ok (.iconst 1, 1) := by decide +kernel
theorem dX7_in_11 : decode cX7_in 11 = .ok (.goto 4, 3) := by decide +kernel
theorem dX7_in_14 : decode cX7_in 14 = .ok (.iconst 0, 1) := by decide +kernel
theorem dX7_in_15 : decode cX7_in 15 = .ok (.ireturn, 1) := by decide +kernel
theorem dX7_raises_0 : decode cX7_raises 0 = .ok (.aload_n 0, 1) := by decide +kernel
theorem dX7_raises_1 : decode cX7_raises 1 = .ok (.iload_n 1, 1) := by decide +kernel
theorem dX7_raises_2 : decode cX7_raises 2 = .ok (.putfield 44, 3) := by decide +kernel
theorem dX7_raises_5 : decode cX7_raises 5 = .ok (.iconst 0, 1) := by decide +kernel
theorem dX7_raises_6 : decode cX7_raises 6 = .ok (.ireturn, 1) := by decide +kernel
theorem dX7_n_0 : decode cX7_n 0 = .ok (.aload_n 0, 1) := by decide +kernel
theorem dX7_n_1 : decode cX7_n 1 = .ok (.getfield 9, 3) := by decide +kernel
theorem dX7_n_4 : decode cX7_n 4 = .ok (.iconst 0, 1) := by decide +kernel
theorem dX7_n_5 : decode cX7_n 5 = .ok (.iaload, 1) := by decide +kernel
theorem dX7_n_6 : decode cX7_n 6 = .ok (.ireturn, 1) := by decide +kernel
theorem dX7_m_0 : decode cX7_m 0 = .ok (.aload_n 0, 1) := by decide +kernel
theorem dX7_m_1 : decode cX7_m 1 = .ok (.getfield 9, 3) := by decide +kernel
theorem dX7_m_4 : decode cX7_m 4 = .ok (.iconst 1, 1) := by decide +kernel
theorem dX7_m_5 : decode cX7_m 5 = .ok (.iaload, 1) := by decide +kernel
theorem dX7_m_6 : decode cX7_m 6 = .ok (.ireturn, 1) := by decide +kernel
theorem dX7_x_0 : decode cX7_x 0 = .ok (.aload_n 0, 1) := by decide +kernel
theorem dX7_x_1 : decode cX7_x 1 = .ok (.getfield 9, 3) := by decide +kernel
theorem dX7_x_4 : decode cX7_x 4 = .ok (.iconst 2, 1) := by decide +kernel
theorem dX7_x_5 : decode cX7_x 5 = .ok (.iload_n 1, 1) := by decide +kernel
theorem dX7_x_6 : decode cX7_x 6 = .ok (.iadd, 1) := by decide +kernel
theorem dX7_x_7 : decode cX7_x 7 = .ok (.iaload, 1) := by decide +kernel
theorem dX7_x_8 : decode cX7_x 8 = .ok (.ireturn, 1) := by decide +kernel
theorem dX7_y_0 : decode cX7_y 0 = .ok (.aload_n 0, 1) := by decide +kernel
theorem dX7_y_1 : decode cX7_y 1 = .ok (.getfield 9, 3) := by decide +kernel
theorem dX7_y_4 : decode cX7_y 4 = .ok (.bipush 19, 2) := by decide +kernel
theorem dX7_y_6 : decode cX7_y 6 = .ok (.iload_n 1, 1) := by decide +kernel
theorem dX7_y_7 : decode cX7_y 7 = .ok (.iadd, 1) := by decide +kernel
theorem dX7_y_8 : decode cX7_y 8 = .ok (.iaload, 1) := by decide +kernel
theorem dX7_y_9 : decode cX7_y 9 = .ok (.ireturn, 1) := by decide +kernel
theorem dX7_end_0 : decode cX7_end 0 = .ok (.aload_n 0, 1) := by decide +kernel
theorem dX7_end_1 : decode cX7_end 1 = .ok (.getfield 9, 3) := by decide +kernel
theorem dX7_end_4 : decode cX7_end 4 = .ok (.bipush 36, 2) := by decide +kernel
theorem dX7_end_6 : decode cX7_end 6 = .ok (.iconst 2, 1) := by decide +kernel
theorem dX7_end_7 : decode cX7_end 7 = .ok (.iload_n 1, 1) := by decide +kernel
theorem dX7_end_8 : decode cX7_end 8 = .ok (.imul, 1) := by decide +kernel
theorem dX7_end_9 : decode cX7_end 9 = .ok (.iadd, 1) := by decide +kernel
theorem dX7_end_10 : decode cX7_end 10 = .ok (.iload_n 2, 1) := by decide +kernel
theorem dX7_end_11 : decode cX7_end 11 = .ok (.iadd, 1) := by decide +kernel
theorem dX7_end_12 : decode cX7_end 12 = .ok (.iaload, 1) := by decide +kernel
theorem dX7_end_13 : decode cX7_end 13 = .ok (.ireturn, 1) := by decide +kernel
theorem dX7_isPoint_0 : decode cX7_isPoint 0 = .ok (.iload_n 1, 1) := by decide +kernel
theorem dX7_isPoint_1 : decode cX7_isPoint 1 = .ok (.iconst 0, 1) := by decide +kernel
theorem dX7_isPoint_2 : decode cX7_isPoint 2 = .ok (.aload_n 0, 1) := by decide +kernel
theorem dX7_isPoint_3 : decode cX7_isPoint 3 = .ok (.invokevirtual 48, 3) := by decide +kernel
theorem dX7_isPoint_6 : decode cX7_isPoint 6 = .ok (.iconst 1, 1) := by decide +kernel
theorem dX7_isPoint_7 : decode cX7_isPoint 7 = .ok (.isub, 1) := by decide +kernel
theorem dX7_isPoint_8 : decode cX7_isPoint 8 = .ok (.invokestatic 52, 3) := by decide +kernel
theorem dX7_isPoint_11 : decode cX7_isPoint 11 = .ok (.ireturn, 1) := by decide +kernel
theorem dX7_isConstraint_0 : decode cX7_isConstraint 0 = .ok (.iload_n 1, 1) := by decide +kernel
theorem dX7_isConstraint_1 : decode cX7_isConstraint 1 = .ok (.iconst 0, 1) := by decide +kernel
theorem dX7_isConstraint_2 : decode cX7_isConstraint 2 = .ok (.aload_n 0, 1) := by decide +kernel
theorem dX7_isConstraint_3 : decode cX7_isConstraint 3 = .ok (.invokevirtual 56, 3) := by decide +kernel
theorem dX7_isConstraint_6 : decode cX7_isConstraint 6 = .ok (.iconst 1, 1) := by decide +kernel
theorem dX7_isConstraint_7 : decode cX7_isConstraint 7 = .ok (.isub, 1) := by decide +kernel
theorem dX7_isConstraint_8 : decode cX7_isConstraint 8 = .ok (.invokestatic 52, 3) := by decide +kernel
theorem dX7_isConstraint_11 : decode cX7_isConstraint 11 = .ok (.ireturn, 1) := by decide +kernel
theorem dX7_isPlace_0 : decode cX7_isPlace 0 = .ok (.iload_n 0, 1) := by decide +kernel
theorem dX7_isPlace_1 : decode cX7_isPlace 1 = .ok (.iconst 0, 1) := by decide +kernel
theorem dX7_isPlace_2 : decode cX7_isPlace 2 = .ok (.bipush 100, 2) := by decide +kernel
theorem dX7_isPlace_4 : decode cX7_isPlace 4 = .ok (.invokestatic 52, 3) := by decide +kernel
theorem dX7_isPlace_7 : decode cX7_isPlace 7 = .ok (.ifCond .eq 17, 3) := by decide +kernel
theorem dX7_isPlace_10 : decode cX7_isPlace 10 = .ok (.iload_n 1, 1) := by decide +kernel
theorem dX7_isPlace_11 : decode cX7_isPlace 11 = .ok (.iconst 0, 1) := by decide +kernel
theorem dX7_isPlace_12 : decode cX7_isPlace 12 = .ok (.bipush 100, 2) := by decide +kernel
theorem dX7_isPlace_14 : decode cX7_isPlace 14 = .ok (.invokestatic 52, 3) := by decide +kernel
theorem dX7_isPlace_17 : decode cX7_isPlace 17 = .ok (.ifCond .eq 7, 3) := by decide +kernel
theorem dX7_isPlace_20 : decode cX7_isPlace 20 = .ok (.iconst 1, 1) := by decide +kernel
theorem dX7_isPlace_21 : decode cX7_isPlace 21 = .ok (.goto 4, 3) := by decide +kernel
theorem dX7_isPlace_24 : decode cX7_isPlace 24 = .ok (.iconst 0, 1) := by decide +kernel
theorem dX7_isPlace_25 : decode cX7_isPlace 25 = .ok (.ireturn, 1) := by decide +kernel
theorem dX7_turnOf_0 : decode cX7_turnOf 0 = .ok (.iload_n 2, 1) := by decide +kernel
theorem dX7_turnOf_1 : decode cX7_turnOf 1 = .ok (.iload_n 0, 1) := by decide +kernel
theorem dX7_turnOf_2 : decode cX7_turnOf 2 = .ok (.isub, 1) := by decide +kernel
theorem dX7_turnOf_3 : decode cX7_turnOf 3 = .ok (.iload 5, 2) := by decide +kernel
theorem dX7_turnOf_5 : decode cX7_turnOf 5 = .ok (.iload_n 1, 1) := by decide +kernel
theorem dX7_turnOf_6 : decode cX7_turnOf 6 = .ok (.isub, 1) := by decide +kernel
theorem dX7_turnOf_7 : decode cX7_turnOf 7 = .ok (.imul, 1) := by decide +kernel
theorem dX7_turnOf_8 : decode cX7_turnOf 8 = .ok (.iload_n 3, 1) := by decide +kernel
theorem dX7_turnOf_9 : decode cX7_turnOf 9 = .ok (.iload_n 1, 1) := by decide +kernel
theorem dX7_turnOf_10 : decode cX7_turnOf 10 = .ok (.isub, 1) := by decide +kernel
theorem dX7_turnOf_11 : decode cX7_turnOf 11 = .ok (.iload 4, 2) := by decide +kernel
theorem dX7_turnOf_13 : decode cX7_turnOf 13 = .ok (.iload_n 0, 1) := by decide +kernel
theorem dX7_turnOf_14 : decode cX7_turnOf 14 = .ok (.isub, 1) := by decide +kernel
theorem dX7_turnOf_15 : decode cX7_turnOf 15 = .ok (.imul, 1) := by decide +kernel
theorem dX7_turnOf_16 : decode cX7_turnOf 16 = .ok (.isub, 1) := by decide +kernel
theorem dX7_turnOf_17 : decode cX7_turnOf 17 = .ok (.invokestatic 59, 3) := by decide +kernel
theorem dX7_turnOf_20 : decode cX7_turnOf 20 = .ok (.ireturn, 1) := by decide +kernel
theorem dX7_turns_0 : decode cX7_turns 0 = .ok (.aload_n 0, 1) := by decide +kernel
theorem dX7_turns_1 : decode cX7_turns 1 = .ok (.iload_n 1, 1) := by decide +kernel
theorem dX7_turns_2 : decode cX7_turns 2 = .ok (.invokevirtual 65, 3) := by decide +kernel
theorem dX7_turns_5 : decode cX7_turns 5 = .ok (.aload_n 0, 1) := by decide +kernel
theorem dX7_turns_6 : decode cX7_turns 6 = .ok (.iload_n 1, 1) := by decide +kernel
theorem dX7_turns_7 : decode cX7_turns 7 = .ok (.invokevirtual 68, 3) := by decide +kernel
theorem dX7_turns_10 : decode cX7_turns 10 = .ok (.aload_n 0, 1) := by decide +kernel
theorem dX7_turns_11 : decode cX7_turns 11 = .ok (.iload_n 2, 1) := by decide +kernel
theorem dX7_turns_12 : decode cX7_turns 12 = .ok (.invokevirtual 65, 3) := by decide +kernel
theorem dX7_turns_15 : decode cX7_turns 15 = .ok (.aload_n 0, 1) := by decide +kernel
theorem dX7_turns_16 : decode cX7_turns 16 = .ok (.iload_n 2, 1) := by decide +kernel
theorem dX7_turns_17 : decode cX7_turns 17 = .ok (.invokevirtual 68, 3) := by decide +kernel
theorem dX7_turns_20 : decode cX7_turns 20 = .ok (.aload_n 0, 1) := by decide +kernel
theorem dX7_turns_21 : decode cX7_turns 21 = .ok (.iload_n 3, 1) := by decide +kernel
theorem dX7_turns_22 : decode cX7_turns 22 = .ok (.invokevirtual 65, 3) := by decide +kernel
theorem dX7_turns_25 : decode cX7_turns 25 = .ok (.aload_n 0, 1) := by decide +kernel
theorem dX7_turns_26 : decode cX7_turns 26 = .ok (.iload_n 3, 1) := by decide +kernel
theorem dX7_turns_27 : decode cX7_turns 27 = .ok (.invokevirtual 68, 3) := by decide +kernel
theorem dX7_turns_30 : decode cX7_turns 30 = .ok (.invokestatic 71, 3) := by decide +kernel
theorem dX7_turns_33 : decode cX7_turns 33 = .ok (.ireturn, 1) := by decide +kernel
theorem dX7_isOn_0 : decode cX7_isOn 0 = .ok (.aload_n 0, 1) := by decide +kernel
theorem dX7_isOn_1 : decode cX7_isOn 1 = .ok (.iload_n 1, 1) := by decide +kernel
theorem dX7_isOn_2 : decode cX7_isOn 2 = .ok (.invokevirtual 65, 3) := by decide +kernel
theorem dX7_isOn_5 : decode cX7_isOn 5 = .ok (.aload_n 0, 1) := by decide +kernel
theorem dX7_isOn_6 : decode cX7_isOn 6 = .ok (.iload_n 1, 1) := by decide +kernel
theorem dX7_isOn_7 : decode cX7_isOn 7 = .ok (.invokevirtual 68, 3) := by decide +kernel
theorem dX7_isOn_10 : decode cX7_isOn 10 = .ok (.aload_n 0, 1) := by decide +kernel
theorem dX7_isOn_11 : decode cX7_isOn 11 = .ok (.iload_n 2, 1) := by decide +kernel
theorem dX7_isOn_12 : decode cX7_isOn 12 = .ok (.invokevirtual 65, 3) := by decide +kernel
theorem dX7_isOn_15 : decode cX7_isOn 15 = .ok (.aload_n 0, 1) := by decide +kernel
theorem dX7_isOn_16 : decode cX7_isOn 16 = .ok (.iload_n 2, 1) := by decide +kernel
theorem dX7_isOn_17 : decode cX7_isOn 17 = .ok (.invokevirtual 68, 3) := by decide +kernel
theorem dX7_isOn_20 : decode cX7_isOn 20 = .ok (.iload_n 3, 1) := by decide +kernel
theorem dX7_isOn_21 : decode cX7_isOn 21 = .ok (.iload 4, 2) := by decide +kernel
theorem dX7_isOn_23 : decode cX7_isOn 23 = .ok (.invokestatic 71, 3) := by decide +kernel
theorem dX7_isOn_26 : decode cX7_isOn 26 = .ok (.ifCond .eq 5, 3) := by decide +kernel
theorem dX7_isOn_29 : decode cX7_isOn 29 = .ok (.iconst 0, 1) := by decide +kernel
theorem dX7_isOn_30 : decode cX7_isOn 30 = .ok (.ireturn, 1) := by decide +kernel
theorem dX7_isOn_31 : decode cX7_isOn 31 = .ok (.iload_n 3, 1) := by decide +kernel
theorem dX7_isOn_32 : decode cX7_isOn 32 = .ok (.aload_n 0, 1) := by decide +kernel
theorem dX7_isOn_33 : decode cX7_isOn 33 = .ok (.iload_n 1, 1) := by decide +kernel
theorem dX7_isOn_34 : decode cX7_isOn 34 = .ok (.invokevirtual 65, 3) := by decide +kernel
theorem dX7_isOn_37 : decode cX7_isOn 37 = .ok (.isub, 1) := by decide +kernel
theorem dX7_isOn_38 : decode cX7_isOn 38 = .ok (.iload_n 3, 1) := by decide +kernel
theorem dX7_isOn_39 : decode cX7_isOn 39 = .ok (.aload_n 0, 1) := by decide +kernel
theorem dX7_isOn_40 : decode cX7_isOn 40 = .ok (.iload_n 2, 1) := by decide +kernel
theorem dX7_isOn_41 : decode cX7_isOn 41 = .ok (.invokevirtual 65, 3) := by decide +kernel
theorem dX7_isOn_44 : decode cX7_isOn 44 = .ok (.isub, 1) := by decide +kernel
theorem dX7_isOn_45 : decode cX7_isOn 45 = .ok (.imul, 1) := by decide +kernel
theorem dX7_isOn_46 : decode cX7_isOn 46 = .ok (.iload 4, 2) := by decide +kernel
theorem dX7_isOn_48 : decode cX7_isOn 48 = .ok (.aload_n 0, 1) := by decide +kernel
theorem dX7_isOn_49 : decode cX7_isOn 49 = .ok (.iload_n 1, 1) := by decide +kernel
theorem dX7_isOn_50 : decode cX7_isOn 50 = .ok (.invokevirtual 68, 3) := by decide +kernel
theorem dX7_isOn_53 : decode cX7_isOn 53 = .ok (.isub, 1) := by decide +kernel
theorem dX7_isOn_54 : decode cX7_isOn 54 = .ok (.iload 4, 2) := by decide +kernel
theorem dX7_isOn_56 : decode cX7_isOn 56 = .ok (.aload_n 0, 1) := by decide +kernel
theorem dX7_isOn_57 : decode cX7_isOn 57 = .ok (.iload_n 2, 1) := by decide +kernel
theorem dX7_isOn_58 : decode cX7_isOn 58 = .ok (.invokevirtual 68, 3) := by decide +kernel
theorem dX7_isOn_61 : decode cX7_isOn 61 = .ok (.isub, 1) := by decide +kernel
theorem dX7_isOn_62 : decode cX7_isOn 62 = .ok (.imul, 1) := by decide +kernel
theorem dX7_isOn_63 : decode cX7_isOn 63 = .ok (.iadd, 1) := by decide +kernel
theorem dX7_isOn_64 : decode cX7_isOn 64 = .ok (.istore 5, 2) := by decide +kernel
theorem dX7_isOn_66 : decode cX7_isOn 66 = .ok (.iload 5, 2) := by decide +kernel
theorem dX7_isOn_68 : decode cX7_isOn 68 = .ok (.ifCond .ge 7, 3) := by decide +kernel
theorem dX7_isOn_71 : decode cX7_isOn 71 = .ok (.iconst 1, 1) := by decide +kernel
theorem dX7_isOn_72 : decode cX7_isOn 72 = .ok (.goto 4, 3) := by decide +kernel
theorem dX7_isOn_75 : decode cX7_isOn 75 = .ok (.iconst 0, 1) := by decide +kernel
theorem dX7_isOn_76 : decode cX7_isOn 76 = .ok (.ireturn, 1) := by decide +kernel
theorem dX7_hasPointOn_0 : decode cX7_hasPointOn 0 = .ok (.iconst 0, 1) := by decide +kernel
theorem dX7_hasPointOn_1 : decode cX7_hasPointOn 1 = .ok (.istore_n 3, 1) := by decide +kernel
theorem dX7_hasPointOn_2 : decode cX7_hasPointOn 2 = .ok (.iload_n 3, 1) := by decide +kernel
theorem dX7_hasPointOn_3 : decode cX7_hasPointOn 3 = .ok (.aload_n 0, 1) := by decide +kernel
theorem dX7_hasPointOn_4 : decode cX7_hasPointOn 4 = .ok (.invokevirtual 48, 3) := by decide +kernel
theorem dX7_hasPointOn_7 : decode cX7_hasPointOn 7 = .ok (.if_icmp .ge 30, 3) := by decide +kernel
theorem dX7_hasPointOn_10 : decode cX7_hasPointOn 10 = .ok (.aload_n 0, 1) := by decide +kernel
theorem dX7_hasPointOn_11 : decode cX7_hasPointOn 11 = .ok (.iload_n 1, 1) := by decide +kernel
theorem dX7_hasPointOn_12 : decode cX7_hasPointOn 12 = .ok (.iload_n 2, 1) := by decide +kernel
theorem dX7_hasPointOn_13 : decode cX7_hasPointOn 13 = .ok (.aload_n 0, 1) := by decide +kernel
theorem dX7_hasPointOn_14 : decode cX7_hasPointOn 14 = .ok (.iload_n 3, 1) := by decide +kernel
theorem dX7_hasPointOn_15 : decode cX7_hasPointOn 15 = .ok (.invokevirtual 65, 3) := by decide +kernel
theorem dX7_hasPointOn_18 : decode cX7_hasPointOn 18 = .ok (.aload_n 0, 1) := by decide +kernel
theorem dX7_hasPointOn_19 : decode cX7_hasPointOn 19 = .ok (.iload_n 3, 1) := by decide +kernel
theorem dX7_hasPointOn_20 : decode cX7_hasPointOn 20 = .ok (.invokevirtual 68, 3) := by decide +kernel
theorem dX7_hasPointOn_23 : decode cX7_hasPointOn 23 = .ok (.invokevirtual 75, 3) := by decide +kernel
theorem dX7_hasPointOn_26 : decode cX7_hasPointOn 26 = .ok (.ifCond .eq 5, 3) := by decide +kernel
theorem dX7_hasPointOn_29 : decode cX7_hasPointOn 29 = .ok (.iconst 1, 1) := by decide +kernel
theorem dX7_hasPointOn_30 : decode cX7_hasPointOn 30 = .ok (.ireturn, 1) := by decide +kernel
theorem dX7_hasPointOn_31 : decode cX7_hasPointOn 31 = .ok (.iinc 3 1, 3) := by decide +kernel
theorem dX7_hasPointOn_34 : decode cX7_hasPointOn 34 = .ok (.goto (-32), 3) := by decide +kernel
theorem dX7_hasPointOn_37 : decode cX7_hasPointOn 37 = .ok (.iconst 0, 1) := by decide +kernel
theorem dX7_hasPointOn_38 : decode cX7_hasPointOn 38 = .ok (.ireturn, 1) := by decide +kernel
theorem dX7_cross_0 : decode cX7_cross 0 = .ok (.aload_n 0, 1) := by decide +kernel
theorem dX7_cross_1 : decode cX7_cross 1 = .ok (.iload_n 1, 1) := by decide +kernel
theorem dX7_cross_2 : decode cX7_cross 2 = .ok (.iload_n 2, 1) := by decide +kernel
theorem dX7_cross_3 : decode cX7_cross 3 = .ok (.iload_n 3, 1) := by decide +kernel
theorem dX7_cross_4 : decode cX7_cross 4 = .ok (.invokevirtual 79, 3) := by decide +kernel
theorem dX7_cross_7 : decode cX7_cross 7 = .ok (.aload_n 0, 1) := by decide +kernel
theorem dX7_cross_8 : decode cX7_cross 8 = .ok (.iload_n 1, 1) := by decide +kernel
theorem dX7_cross_9 : decode cX7_cross 9 = .ok (.iload_n 2, 1) := by decide +kernel
theorem dX7_cross_10 : decode cX7_cross 10 = .ok (.iload 4, 2) := by decide +kernel
theorem dX7_cross_12 : decode cX7_cross 12 = .ok (.invokevirtual 79, 3) := by decide +kernel
theorem dX7_cross_15 : decode cX7_cross 15 = .ok (.imul, 1) := by decide +kernel
theorem dX7_cross_16 : decode cX7_cross 16 = .ok (.ifCond .ge 25, 3) := by decide +kernel
theorem dX7_cross_19 : decode cX7_cross 19 = .ok (.aload_n 0, 1) := by decide +kernel
theorem dX7_cross_20 : decode cX7_cross 20 = .ok (.iload_n 3, 1) := by decide +kernel
theorem dX7_cross_21 : decode cX7_cross 21 = .ok (.iload 4, 2) := by decide +kernel
theorem dX7_cross_23 : decode cX7_cross 23 = .ok (.iload_n 1, 1) := by decide +kernel
theorem dX7_cross_24 : decode cX7_cross 24 = .ok (.invokevirtual 79, 3) := by decide +kernel
theorem dX7_cross_27 : decode cX7_cross 27 = .ok (.aload_n 0, 1) := by decide +kernel
theorem dX7_cross_28 : decode cX7_cross 28 = .ok (.iload_n 3, 1) := by decide +kernel
theorem dX7_cross_29 : decode cX7_cross 29 = .ok (.iload 4, 2) := by decide +kernel
theorem dX7_cross_31 : decode cX7_cross 31 = .ok (.iload_n 2, 1) := by decide +kernel
theorem dX7_cross_32 : decode cX7_cross 32 = .ok (.invokevirtual 79, 3) := by decide +kernel
theorem dX7_cross_35 : decode cX7_cross 35 = .ok (.imul, 1) := by decide +kernel
theorem dX7_cross_36 : decode cX7_cross 36 = .ok (.ifCond .ge 5, 3) := by decide +kernel
theorem dX7_cross_39 : decode cX7_cross 39 = .ok (.iconst 1, 1) := by decide +kernel
theorem dX7_cross_40 : decode cX7_cross 40 = .ok (.ireturn, 1) := by decide +kernel
theorem dX7_cross_41 : decode cX7_cross 41 = .ok (.aload_n 0, 1) := by decide +kernel
theorem dX7_cross_42 : decode cX7_cross 42 = .ok (.iload_n 1, 1) := by decide +kernel
theorem dX7_cross_43 : decode cX7_cross 43 = .ok (.iload_n 2, 1) := by decide +kernel
theorem dX7_cross_44 : decode cX7_cross 44 = .ok (.iload_n 3, 1) := by decide +kernel
theorem dX7_cross_45 : decode cX7_cross 45 = .ok (.invokevirtual 79, 3) := by decide +kernel
theorem dX7_cross_48 : decode cX7_cross 48 = .ok (.ifCond .ne 14, 3) := by decide +kernel
theorem dX7_cross_51 : decode cX7_cross 51 = .ok (.aload_n 0, 1) := by decide +kernel
theorem dX7_cross_52 : decode cX7_cross 52 = .ok (.iload_n 1, 1) := by decide +kernel
theorem dX7_cross_53 : decode cX7_cross 53 = .ok (.iload_n 2, 1) := by decide +kernel
theorem dX7_cross_54 : decode cX7_cross 54 = .ok (.iload 4, 2) := by decide +kernel
theorem dX7_cross_56 : decode cX7_cross 56 = .ok (.invokevirtual 79, 3) := by decide +kernel
theorem dX7_cross_59 : decode cX7_cross 59 = .ok (.ifCond .eq 5, 3) := by decide +kernel
theorem dX7_cross_62 : decode cX7_cross 62 = .ok (.iconst 0, 1) := by decide +kernel
theorem dX7_cross_63 : decode cX7_cross 63 = .ok (.ireturn, 1) := by decide +kernel
theorem dX7_cross_64 : decode cX7_cross 64 = .ok (.iload_n 1, 1) := by decide +kernel
theorem dX7_cross_65 : decode cX7_cross 65 = .ok (.iload_n 2, 1) := by decide +kernel
theorem dX7_cross_66 : decode cX7_cross 66 = .ok (.invokestatic 83, 3) := by decide +kernel
theorem dX7_cross_69 : decode cX7_cross 69 = .ok (.iload_n 3, 1) := by decide +kernel
theorem dX7_cross_70 : decode cX7_cross 70 = .ok (.iload 4, 2) := by decide +kernel
theorem dX7_cross_72 : decode cX7_cross 72 = .ok (.invokestatic 83, 3) := by decide +kernel
theorem dX7_cross_75 : decode cX7_cross 75 = .ok (.if_icmp .ne 21, 3) := by decide +kernel
theorem dX7_cross_78 : decode cX7_cross 78 = .ok (.iload_n 1, 1) := by decide +kernel
theorem dX7_cross_79 : decode cX7_cross 79 = .ok (.iload_n 2, 1) := by decide +kernel
theorem dX7_cross_80 : decode cX7_cross 80 = .ok (.invokestatic 89, 3) := by decide +kernel
theorem dX7_cross_83 : decode cX7_cross 83 = .ok (.iload_n 3, 1) := by decide +kernel
theorem dX7_cross_84 : decode cX7_cross 84 = .ok (.iload 4, 2) := by decide +kernel
theorem dX7_cross_86 : decode cX7_cross 86 = .ok (.invokestatic 89, 3) := by decide +kernel
theorem dX7_cross_89 : decode cX7_cross 89 = .ok (.if_icmp .ne 7, 3) := by decide +kernel
theorem dX7_cross_92 : decode cX7_cross 92 = .ok (.iconst 1, 1) := by decide +kernel
theorem dX7_cross_93 : decode cX7_cross 93 = .ok (.goto 4, 3) := by decide +kernel
theorem dX7_cross_96 : decode cX7_cross 96 = .ok (.iconst 0, 1) := by decide +kernel
theorem dX7_cross_97 : decode cX7_cross 97 = .ok (.istore 5, 2) := by decide +kernel
theorem dX7_cross_99 : decode cX7_cross 99 = .ok (.iload 5, 2) := by decide +kernel
theorem dX7_cross_101 : decode cX7_cross 101 = .ok (.ifCond .ne 83, 3) := by decide +kernel
theorem dX7_cross_104 : decode cX7_cross 104 = .ok (.aload_n 0, 1) := by decide +kernel
theorem dX7_cross_105 : decode cX7_cross 105 = .ok (.iload_n 1, 1) := by decide +kernel
theorem dX7_cross_106 : decode cX7_cross 106 = .ok (.iload_n 2, 1) := by decide +kernel
theorem dX7_cross_107 : decode cX7_cross 107 = .ok (.aload_n 0, 1) := by decide +kernel
theorem dX7_cross_108 : decode cX7_cross 108 = .ok (.iload_n 3, 1) := by decide +kernel
theorem dX7_cross_109 : decode cX7_cross 109 = .ok (.invokevirtual 65, 3) := by decide +kernel
theorem dX7_cross_112 : decode cX7_cross 112 = .ok (.aload_n 0, 1) := by decide +kernel
theorem dX7_cross_113 : decode cX7_cross 113 = .ok (.iload_n 3, 1) := by decide +kernel
theorem dX7_cross_114 : decode cX7_cross 114 = .ok (.invokevirtual 68, 3) := by decide +kernel
theorem dX7_cross_117 : decode cX7_cross 117 = .ok (.invokevirtual 75, 3) := by decide +kernel
theorem dX7_cross_120 : decode cX7_cross 120 = .ok (.ifCond .ne 64, 3) := by decide +kernel
theorem dX7_cross_123 : decode cX7_cross 123 = .ok (.aload_n 0, 1) := by decide +kernel
theorem dX7_cross_124 : decode cX7_cross 124 = .ok (.iload_n 1, 1) := by decide +kernel
theorem dX7_cross_125 : decode cX7_cross 125 = .ok (.iload_n 2, 1) := by decide +kernel
theorem dX7_cross_126 : decode cX7_cross 126 = .ok (.aload_n 0, 1) := by decide +kernel
theorem dX7_cross_127 : decode cX7_cross 127 = .ok (.iload 4, 2) := by decide +kernel
theorem dX7_cross_129 : decode cX7_cross 129 = .ok (.invokevirtual 65, 3) := by decide +kernel
theorem dX7_cross_132 : decode cX7_cross 132 = .ok (.aload_n 0, 1) := by decide +kernel
theorem dX7_cross_133 : decode cX7_cross 133 = .ok (.iload 4, 2) := by decide +kernel
theorem dX7_cross_135 : decode cX7_cross 135 = .ok (.invokevirtual 68, 3) := by decide +kernel
theorem dX7_cross_138 : decode cX7_cross 138 = .ok (.invokevirtual 75, 3) := by decide +kernel
theorem dX7_cross_141 : decode cX7_cross 141 = .ok (.ifCond .ne 43, 3) := by decide +kernel
theorem dX7_cross_144 : decode cX7_cross 144 = .ok (.aload_n 0, 1) := by decide +kernel
theorem dX7_cross_145 : decode cX7_cross 145 = .ok (.iload_n 3, 1) := by decide +kernel
theorem dX7_cross_146 : decode cX7_cross 146 = .ok (.iload 4, 2) := by decide +kernel
theorem dX7_cross_148 : decode cX7_cross 148 = .ok (.aload_n 0, 1) := by decide +kernel
theorem dX7_cross_149 : decode cX7_cross 149 = .ok (.iload_n 1, 1) := by decide +kernel
theorem dX7_cross_150 : decode cX7_cross 150 = .ok (.invokevirtual 65, 3) := by decide +kernel
theorem dX7_cross_153 : decode cX7_cross 153 = .ok (.aload_n 0, 1) := by decide +kernel
theorem dX7_cross_154 : decode cX7_cross 154 = .ok (.iload_n 1, 1) := by decide +kernel
theorem dX7_cross_155 : decode cX7_cross 155 = .ok (.invokevirtual 68, 3) := by decide +kernel
theorem dX7_cross_158 : decode cX7_cross 158 = .ok (.invokevirtual 75, 3) := by decide +kernel
theorem dX7_cross_161 : decode cX7_cross 161 = .ok (.ifCond .ne 23, 3) := by decide +kernel
theorem dX7_cross_164 : decode cX7_cross 164 = .ok (.aload_n 0, 1) := by decide +kernel
theorem dX7_cross_165 : decode cX7_cross 165 = .ok (.iload_n 3, 1) := by decide +kernel
theorem dX7_cross_166 : decode cX7_cross 166 = .ok (.iload 4, 2) := by decide +kernel
theorem dX7_cross_168 : decode cX7_cross 168 = .ok (.aload_n 0, 1) := by decide +kernel
theorem dX7_cross_169 : decode cX7_cross 169 = .ok (.iload_n 2, 1) := by decide +kernel
theorem dX7_cross_170 : decode cX7_cross 170 = .ok (.invokevirtual 65, 3) := by decide +kernel
theorem dX7_cross_173 : decode cX7_cross 173 = .ok (.aload_n 0, 1) := by decide +kernel
theorem dX7_cross_174 : decode cX7_cross 174 = .ok (.iload_n 2, 1) := by decide +kernel
theorem dX7_cross_175 : decode cX7_cross 175 = .ok (.invokevirtual 68, 3) := by decide +kernel
theorem dX7_cross_178 : decode cX7_cross 178 = .ok (.invokevirtual 75, 3) := by decide +kernel
theorem dX7_cross_181 : decode cX7_cross 181 = .ok (.ifCond .eq 7, 3) := by decide +kernel
theorem dX7_cross_184 : decode cX7_cross 184 = .ok (.iconst 1, 1) := by decide +kernel
theorem dX7_cross_185 : decode cX7_cross 185 = .ok (.goto 4, 3) := by decide +kernel
theorem dX7_cross_188 : decode cX7_cross 188 = .ok (.iconst 0, 1) := by decide +kernel
theorem dX7_cross_189 : decode cX7_cross 189 = .ok (.ireturn, 1) := by decide +kernel
theorem dX7_circle_0 : decode cX7_circle 0 = .ok (.aload_n 0, 1) := by decide +kernel
theorem dX7_circle_1 : decode cX7_circle 1 = .ok (.iload_n 1, 1) := by decide +kernel
theorem dX7_circle_2 : decode cX7_circle 2 = .ok (.invokevirtual 65, 3) := by decide +kernel
theorem dX7_circle_5 : decode cX7_circle 5 = .ok (.aload_n 0, 1) := by decide +kernel
theorem dX7_circle_6 : decode cX7_circle 6 = .ok (.iload 4, 2) := by decide +kernel
theorem dX7_circle_8 : decode cX7_circle 8 = .ok (.invokevirtual 65, 3) := by decide +kernel
theorem dX7_circle_11 : decode cX7_circle 11 = .ok (.isub, 1) := by decide +kernel
theorem dX7_circle_12 : decode cX7_circle 12 = .ok (.i2l, 1) := by decide +kernel
theorem dX7_circle_13 : decode cX7_circle 13 = .ok (.lstore 5, 2) := by decide +kernel
theorem dX7_circle_15 : decode cX7_circle 15 = .ok (.aload_n 0, 1) := by decide +kernel
theorem dX7_circle_16 : decode cX7_circle 16 = .ok (.iload_n 1, 1) := by decide +kernel
theorem dX7_circle_17 : decode cX7_circle 17 = .ok (.invokevirtual 68, 3) := by decide +kernel
theorem dX7_circle_20 : decode cX7_circle 20 = .ok (.aload_n 0, 1) := by decide +kernel
theorem dX7_circle_21 : decode cX7_circle 21 = .ok (.iload 4, 2) := by decide +kernel
theorem dX7_circle_23 : decode cX7_circle 23 = .ok (.invokevirtual 68, 3) := by decide +kernel
theorem dX7_circle_26 : decode cX7_circle 26 = .ok (.isub, 1) := by decide +kernel
theorem dX7_circle_27 : decode cX7_circle 27 = .ok (.i2l, 1) := by decide +kernel
theorem dX7_circle_28 : decode cX7_circle 28 = .ok (.lstore 7, 2) := by decide +kernel
theorem dX7_circle_30 : decode cX7_circle 30 = .ok (.aload_n 0, 1) := by decide +kernel
theorem dX7_circle_31 : decode cX7_circle 31 = .ok (.iload_n 2, 1) := by decide +kernel
theorem dX7_circle_32 : decode cX7_circle 32 = .ok (.invokevirtual 65, 3) := by decide +kernel
theorem dX7_circle_35 : decode cX7_circle 35 = .ok (.aload_n 0, 1) := by decide +kernel
theorem dX7_circle_36 : decode cX7_circle 36 = .ok (.iload 4, 2) := by decide +kernel
theorem dX7_circle_38 : decode cX7_circle 38 = .ok (.invokevirtual 65, 3) := by decide +kernel
theorem dX7_circle_41 : decode cX7_circle 41 = .ok (.isub, 1) := by decide +kernel
theorem dX7_circle_42 : decode cX7_circle 42 = .ok (.i2l, 1) := by decide +kernel
theorem dX7_circle_43 : decode cX7_circle 43 = .ok (.lstore 9, 2) := by decide +kernel
theorem dX7_circle_45 : decode cX7_circle 45 = .ok (.aload_n 0, 1) := by decide +kernel
theorem dX7_circle_46 : decode cX7_circle 46 = .ok (.iload_n 2, 1) := by decide +kernel
theorem dX7_circle_47 : decode cX7_circle 47 = .ok (.invokevirtual 68, 3) := by decide +kernel
theorem dX7_circle_50 : decode cX7_circle 50 = .ok (.aload_n 0, 1) := by decide +kernel
theorem dX7_circle_51 : decode cX7_circle 51 = .ok (.iload 4, 2) := by decide +kernel
theorem dX7_circle_53 : decode cX7_circle 53 = .ok (.invokevirtual 68, 3) := by decide +kernel
theorem dX7_circle_56 : decode cX7_circle 56 = .ok (.isub, 1) := by decide +kernel
theorem dX7_circle_57 : decode cX7_circle 57 = .ok (.i2l, 1) := by decide +kernel
theorem dX7_circle_58 : decode cX7_circle 58 = .ok (.lstore 11, 2) := by decide +kernel
theorem dX7_circle_60 : decode cX7_circle 60 = .ok (.aload_n 0, 1) := by decide +kernel
theorem dX7_circle_61 : decode cX7_circle 61 = .ok (.iload_n 3, 1) := by decide +kernel
theorem dX7_circle_62 : decode cX7_circle 62 = .ok (.invokevirtual 65, 3) := by decide +kernel
theorem dX7_circle_65 : decode cX7_circle 65 = .ok (.aload_n 0, 1) := by decide +kernel
theorem dX7_circle_66 : decode cX7_circle 66 = .ok (.iload 4, 2) := by decide +kernel
theorem dX7_circle_68 : decode cX7_circle 68 = .ok (.invokevirtual 65, 3) := by decide +kernel
theorem dX7_circle_71 : decode cX7_circle 71 = .ok (.isub, 1) := by decide +kernel
theorem dX7_circle_72 : decode cX7_circle 72 = .ok (.i2l, 1) := by decide +kernel
theorem dX7_circle_73 : decode cX7_circle 73 = .ok (.lstore 13, 2) := by decide +kernel
theorem dX7_circle_75 : decode cX7_circle 75 = .ok (.aload_n 0, 1) := by decide +kernel
theorem dX7_circle_76 : decode cX7_circle 76 = .ok (.iload_n 3, 1) := by decide +kernel
theorem dX7_circle_77 : decode cX7_circle 77 = .ok (.invokevirtual 68, 3) := by decide +kernel
theorem dX7_circle_80 : decode cX7_circle 80 = .ok (.aload_n 0, 1) := by decide +kernel
theorem dX7_circle_81 : decode cX7_circle 81 = .ok (.iload 4, 2) := by decide +kernel
theorem dX7_circle_83 : decode cX7_circle 83 = .ok (.invokevirtual 68, 3) := by decide +kernel
theorem dX7_circle_86 : decode cX7_circle 86 = .ok (.isub, 1) := by decide +kernel
theorem dX7_circle_87 : decode cX7_circle 87 = .ok (.i2l, 1) := by decide +kernel
theorem dX7_circle_88 : decode cX7_circle 88 = .ok (.lstore 15, 2) := by decide +kernel
theorem dX7_circle_90 : decode cX7_circle 90 = .ok (.lload 5, 2) := by decide +kernel
theorem dX7_circle_92 : decode cX7_circle 92 = .ok (.lload 5, 2) := by decide +kernel
theorem dX7_circle_94 : decode cX7_circle 94 = .ok (.lmul, 1) := by decide +kernel
theorem dX7_circle_95 : decode cX7_circle 95 = .ok (.lload 7, 2) := by decide +kernel
theorem dX7_circle_97 : decode cX7_circle 97 = .ok (.lload 7, 2) := by decide +kernel
theorem dX7_circle_99 : decode cX7_circle 99 = .ok (.lmul, 1) := by decide +kernel
theorem dX7_circle_100 : decode cX7_circle 100 = .ok (.ladd, 1) := by decide +kernel
theorem dX7_circle_101 : decode cX7_circle 101 = .ok (.lload 9, 2) := by decide +kernel
theorem dX7_circle_103 : decode cX7_circle 103 = .ok (.lload 15, 2) := by decide +kernel
theorem dX7_circle_105 : decode cX7_circle 105 = .ok (.lmul, 1) := by decide +kernel
theorem dX7_circle_106 : decode cX7_circle 106 = .ok (.lload 13, 2) := by decide +kernel
theorem dX7_circle_108 : decode cX7_circle 108 = .ok (.lload 11, 2) := by decide +kernel
theorem dX7_circle_110 : decode cX7_circle 110 = .ok (.lmul, 1) := by decide +kernel
theorem dX7_circle_111 : decode cX7_circle 111 = .ok (.lsub, 1) := by decide +kernel
theorem dX7_circle_112 : decode cX7_circle 112 = .ok (.lmul, 1) := by decide +kernel
theorem dX7_circle_113 : decode cX7_circle 113 = .ok (.lload 9, 2) := by decide +kernel
theorem dX7_circle_115 : decode cX7_circle 115 = .ok (.lload 9, 2) := by decide +kernel
theorem dX7_circle_117 : decode cX7_circle 117 = .ok (.lmul, 1) := by decide +kernel
theorem dX7_circle_118 : decode cX7_circle 118 = .ok (.lload 11, 2) := by decide +kernel
theorem dX7_circle_120 : decode cX7_circle 120 = .ok (.lload 11, 2) := by decide +kernel
theorem dX7_circle_122 : decode cX7_circle 122 = .ok (.lmul, 1) := by decide +kernel
theorem dX7_circle_123 : decode cX7_circle 123 = .ok (.ladd, 1) := by decide +kernel
theorem dX7_circle_124 : decode cX7_circle 124 = .ok (.lload 5, 2) := by decide +kernel
theorem dX7_circle_126 : decode cX7_circle 126 = .ok (.lload 15, 2) := by decide +kernel
theorem dX7_circle_128 : decode cX7_circle 128 = .ok (.lmul, 1) := by decide +kernel
theorem dX7_circle_129 : decode cX7_circle 129 = .ok (.lload 13, 2) := by decide +kernel
theorem dX7_circle_131 : decode cX7_circle 131 = .ok (.lload 7, 2) := by decide +kernel
theorem dX7_circle_133 : decode cX7_circle 133 = .ok (.lmul, 1) := by decide +kernel
theorem dX7_circle_134 : decode cX7_circle 134 = .ok (.lsub, 1) := by decide +kernel
theorem dX7_circle_135 : decode cX7_circle 135 = .ok (.lmul, 1) := by decide +kernel
theorem dX7_circle_136 : decode cX7_circle 136 = .ok (.lsub, 1) := by decide +kernel
theorem dX7_circle_137 : decode cX7_circle 137 = .ok (.lload 13, 2) := by decide +kernel
theorem dX7_circle_139 : decode cX7_circle 139 = .ok (.lload 13, 2) := by decide +kernel
theorem dX7_circle_141 : decode cX7_circle 141 = .ok (.lmul, 1) := by decide +kernel
theorem dX7_circle_142 : decode cX7_circle 142 = .ok (.lload 15, 2) := by decide +kernel
theorem dX7_circle_144 : decode cX7_circle 144 = .ok (.lload 15, 2) := by decide +kernel
theorem dX7_circle_146 : decode cX7_circle 146 = .ok (.lmul, 1) := by decide +kernel
theorem dX7_circle_147 : decode cX7_circle 147 = .ok (.ladd, 1) := by decide +kernel
theorem dX7_circle_148 : decode cX7_circle 148 = .ok (.lload 5, 2) := by decide +kernel
theorem dX7_circle_150 : decode cX7_circle 150 = .ok (.lload 11, 2) := by decide +kernel
theorem dX7_circle_152 : decode cX7_circle 152 = .ok (.lmul, 1) := by decide +kernel
theorem dX7_circle_153 : decode cX7_circle 153 = .ok (.lload 9, 2) := by decide +kernel
theorem dX7_circle_155 : decode cX7_circle 155 = .ok (.lload 7, 2) := by decide +kernel
theorem dX7_circle_157 : decode cX7_circle 157 = .ok (.lmul, 1) := by decide +kernel
theorem dX7_circle_158 : decode cX7_circle 158 = .ok (.lsub, 1) := by decide +kernel
theorem dX7_circle_159 : decode cX7_circle 159 = .ok (.lmul, 1) := by decide +kernel
theorem dX7_circle_160 : decode cX7_circle 160 = .ok (.ladd, 1) := by decide +kernel
theorem dX7_circle_161 : decode cX7_circle 161 = .ok (.lstore 17, 2) := by decide +kernel
theorem dX7_circle_163 : decode cX7_circle 163 = .ok (.lload 17, 2) := by decide +kernel
theorem dX7_circle_165 : decode cX7_circle 165 = .ok (.invokestatic 92, 3) := by decide +kernel
theorem dX7_circle_168 : decode cX7_circle 168 = .ok (.aload_n 0, 1) := by decide +kernel
theorem dX7_circle_169 : decode cX7_circle 169 = .ok (.iload_n 1, 1) := by decide +kernel
theorem dX7_circle_170 : decode cX7_circle 170 = .ok (.iload_n 2, 1) := by decide +kernel
theorem dX7_circle_171 : decode cX7_circle 171 = .ok (.iload_n 3, 1) := by decide +kernel
theorem dX7_circle_172 : decode cX7_circle 172 = .ok (.invokevirtual 79, 3) := by decide +kernel
theorem dX7_circle_175 : decode cX7_circle 175 = .ok (.imul, 1) := by decide +kernel
theorem dX7_circle_176 : decode cX7_circle 176 = .ok (.ireturn, 1) := by decide +kernel
theorem dX7_good_0 : decode cX7_good 0 = .ok (.aload_n 0, 1) := by decide +kernel
theorem dX7_good_1 : decode cX7_good 1 = .ok (.iload_n 1, 1) := by decide +kernel
theorem dX7_good_2 : decode cX7_good 2 = .ok (.iload_n 2, 1) := by decide +kernel
theorem dX7_good_3 : decode cX7_good 3 = .ok (.iload_n 3, 1) := by decide +kernel
theorem dX7_good_4 : decode cX7_good 4 = .ok (.iload 4, 2) := by decide +kernel
theorem dX7_good_6 : decode cX7_good 6 = .ok (.invokevirtual 97, 3) := by decide +kernel
theorem dX7_good_9 : decode cX7_good 9 = .ok (.istore 5, 2) := by decide +kernel
theorem dX7_good_11 : decode cX7_good 11 = .ok (.iload 5, 2) := by decide +kernel
theorem dX7_good_13 : decode cX7_good 13 = .ok (.ifCond .lt 22, 3) := by decide +kernel
theorem dX7_good_16 : decode cX7_good 16 = .ok (.iload 5, 2) := by decide +kernel
theorem dX7_good_18 : decode cX7_good 18 = .ok (.ifCond .ne 21, 3) := by decide +kernel
theorem dX7_good_21 : decode cX7_good 21 = .ok (.iload_n 3, 1) := by decide +kernel
theorem dX7_good_22 : decode cX7_good 22 = .ok (.iload 4, 2) := by decide +kernel
theorem dX7_good_24 : decode cX7_good 24 = .ok (.invokestatic 89, 3) := by decide +kernel
theorem dX7_good_27 : decode cX7_good 27 = .ok (.iload_n 1, 1) := by decide +kernel
theorem dX7_good_28 : decode cX7_good 28 = .ok (.iload_n 2, 1) := by decide +kernel
theorem dX7_good_29 : decode cX7_good 29 = .ok (.invokestatic 89, 3) := by decide +kernel
theorem dX7_good_32 : decode cX7_good 32 = .ok (.if_icmp .le 7, 3) := by decide +kernel
theorem dX7_good_35 : decode cX7_good 35 = .ok (.iconst 1, 1) := by decide +kernel
theorem dX7_good_36 : decode cX7_good 36 = .ok (.goto 4, 3) := by decide +kernel
theorem dX7_good_39 : decode cX7_good 39 = .ok (.iconst 0, 1) := by decide +kernel
theorem dX7_good_40 : decode cX7_good 40 = .ok (.ireturn, 1) := by decide +kernel
theorem dX7_has_0 : decode cX7_has 0 = .ok (.aload_n 0, 1) := by decide +kernel
theorem dX7_has_1 : decode cX7_has 1 = .ok (.getfield 22, 3) := by decide +kernel
theorem dX7_has_4 : decode cX7_has 4 = .ok (.bipush 17, 2) := by decide +kernel
theorem dX7_has_6 : decode cX7_has 6 = .ok (.iload_n 1, 1) := by decide +kernel
theorem dX7_has_7 : decode cX7_has 7 = .ok (.imul, 1) := by decide +kernel
theorem dX7_has_8 : decode cX7_has 8 = .ok (.iload_n 2, 1) := by decide +kernel
theorem dX7_has_9 : decode cX7_has 9 = .ok (.iadd, 1) := by decide +kernel
theorem dX7_has_10 : decode cX7_has 10 = .ok (.baload, 1) := by decide +kernel
theorem dX7_has_11 : decode cX7_has 11 = .ok (.ireturn, 1) := by decide +kernel
theorem dX7_puts_0 : decode cX7_puts 0 = .ok (.aload_n 0, 1) := by decide +kernel
theorem dX7_puts_1 : decode cX7_puts 1 = .ok (.getfield 22, 3) := by decide +kernel
theorem dX7_puts_4 : decode cX7_puts 4 = .ok (.bipush 17, 2) := by decide +kernel
theorem dX7_puts_6 : decode cX7_puts 6 = .ok (.iload_n 1, 1) := by decide +kernel
theorem dX7_puts_7 : decode cX7_puts 7 = .ok (.imul, 1) := by decide +kernel
theorem dX7_puts_8 : decode cX7_puts 8 = .ok (.iload_n 2, 1) := by decide +kernel
theorem dX7_puts_9 : decode cX7_puts 9 = .ok (.iadd, 1) := by decide +kernel
theorem dX7_puts_10 : decode cX7_puts 10 = .ok (.iload_n 3, 1) := by decide +kernel
theorem dX7_puts_11 : decode cX7_puts 11 = .ok (.bastore, 1) := by decide +kernel
theorem dX7_puts_12 : decode cX7_puts 12 = .ok (.aload_n 0, 1) := by decide +kernel
theorem dX7_puts_13 : decode cX7_puts 13 = .ok (.getfield 22, 3) := by decide +kernel
theorem dX7_puts_16 : decode cX7_puts 16 = .ok (.bipush 17, 2) := by decide +kernel
theorem dX7_puts_18 : decode cX7_puts 18 = .ok (.iload_n 2, 1) := by decide +kernel
theorem dX7_puts_19 : decode cX7_puts 19 = .ok (.imul, 1) := by decide +kernel
theorem dX7_puts_20 : decode cX7_puts 20 = .ok (.iload_n 1, 1) := by decide +kernel
theorem dX7_puts_21 : decode cX7_puts 21 = .ok (.iadd, 1) := by decide +kernel
theorem dX7_puts_22 : decode cX7_puts 22 = .ok (.iload_n 3, 1) := by decide +kernel
theorem dX7_puts_23 : decode cX7_puts 23 = .ok (.bastore, 1) := by decide +kernel
theorem dX7_puts_24 : decode cX7_puts 24 = .ok (.return_, 1) := by decide +kernel
theorem dX7_isTied_0 : decode cX7_isTied 0 = .ok (.iconst 0, 1) := by decide +kernel
theorem dX7_isTied_1 : decode cX7_isTied 1 = .ok (.istore_n 3, 1) := by decide +kernel
theorem dX7_isTied_2 : decode cX7_isTied 2 = .ok (.iload_n 3, 1) := by decide +kernel
theorem dX7_isTied_3 : decode cX7_isTied 3 = .ok (.aload_n 0, 1) := by decide +kernel
theorem dX7_isTied_4 : decode cX7_isTied 4 = .ok (.invokevirtual 56, 3) := by decide +kernel
theorem dX7_isTied_7 : decode cX7_isTied 7 = .ok (.if_icmp .ge 39, 3) := by decide +kernel
theorem dX7_isTied_10 : decode cX7_isTied 10 = .ok (.aload_n 0, 1) := by decide +kernel
theorem dX7_isTied_11 : decode cX7_isTied 11 = .ok (.iload_n 3, 1) := by decide +kernel
theorem dX7_isTied_12 : decode cX7_isTied 12 = .ok (.iconst 0, 1) := by decide +kernel
theorem dX7_isTied_13 : decode cX7_isTied 13 = .ok (.invokevirtual 101, 3) := by decide +kernel
theorem dX7_isTied_16 : decode cX7_isTied 16 = .ok (.iload_n 1, 1) := by decide +kernel
theorem dX7_isTied_17 : decode cX7_isTied 17 = .ok (.iload_n 2, 1) := by decide +kernel
theorem dX7_isTied_18 : decode cX7_isTied 18 = .ok (.invokestatic 83, 3) := by decide +kernel
theorem dX7_isTied_21 : decode cX7_isTied 21 = .ok (.if_icmp .ne 19, 3) := by decide +kernel
theorem dX7_isTied_24 : decode cX7_isTied 24 = .ok (.aload_n 0, 1) := by decide +kernel
theorem dX7_isTied_25 : decode cX7_isTied 25 = .ok (.iload_n 3, 1) := by decide +kernel
theorem dX7_isTied_26 : decode cX7_isTied 26 = .ok (.iconst 1, 1) := by decide +kernel
theorem dX7_isTied_27 : decode cX7_isTied 27 = .ok (.invokevirtual 101, 3) := by decide +kernel
theorem dX7_isTied_30 : decode cX7_isTied 30 = .ok (.iload_n 1, 1) := by decide +kernel
theorem dX7_isTied_31 : decode cX7_isTied 31 = .ok (.iload_n 2, 1) := by decide +kernel
theorem dX7_isTied_32 : decode cX7_isTied 32 = .ok (.invokestatic 89, 3) := by decide +kernel
theorem dX7_isTied_35 : decode cX7_isTied 35 = .ok (.if_icmp .ne 5, 3) := by decide +kernel
theorem dX7_isTied_38 : decode cX7_isTied 38 = .ok (.iconst 1, 1) := by decide +kernel
theorem dX7_isTied_39 : decode cX7_isTied 39 = .ok (.ireturn, 1) := by decide +kernel
theorem dX7_isTied_40 : decode cX7_isTied 40 = .ok (.iinc 3 1, 3) := by decide +kernel
theorem dX7_isTied_43 : decode cX7_isTied 43 = .ok (.goto (-41), 3) := by decide +kernel
theorem dX7_isTied_46 : decode cX7_isTied 46 = .ok (.iconst 0, 1) := by decide +kernel
theorem dX7_isTied_47 : decode cX7_isTied 47 = .ok (.ireturn, 1) := by decide +kernel
theorem dX7_isEmpty_0 : decode cX7_isEmpty 0 = .ok (.iconst 0, 1) := by decide +kernel
theorem dX7_isEmpty_1 : decode cX7_isEmpty 1 = .ok (.istore 4, 2) := by decide +kernel
theorem dX7_isEmpty_3 : decode cX7_isEmpty 3 = .ok (.iload 4, 2) := by decide +kernel
theorem dX7_isEmpty_5 : decode cX7_isEmpty 5 = .ok (.aload_n 0, 1) := by decide +kernel
theorem dX7_isEmpty_6 : decode cX7_isEmpty 6 = .ok (.invokevirtual 48, 3) := by decide +kernel
theorem dX7_isEmpty_9 : decode cX7_isEmpty 9 = .ok (.if_icmp .ge 62, 3) := by decide +kernel
theorem dX7_isEmpty_12 : decode cX7_isEmpty 12 = .ok (.iload 4, 2) := by decide +kernel
theorem dX7_isEmpty_14 : decode cX7_isEmpty 14 = .ok (.iload_n 1, 1) := by decide +kernel
theorem dX7_isEmpty_15 : decode cX7_isEmpty 15 = .ok (.if_icmp .eq 50, 3) := by decide +kernel
theorem dX7_isEmpty_18 : decode cX7_isEmpty 18 = .ok (.iload 4, 2) := by decide +kernel
theorem dX7_isEmpty_20 : decode cX7_isEmpty 20 = .ok (.iload_n 2, 1) := by decide +kernel
theorem dX7_isEmpty_21 : decode cX7_isEmpty 21 = .ok (.if_icmp .eq 44, 3) := by decide +kernel
theorem dX7_isEmpty_24 : decode cX7_isEmpty 24 = .ok (.iload 4, 2) := by decide +kernel
theorem dX7_isEmpty_26 : decode cX7_isEmpty 26 = .ok (.iload_n 3, 1) := by decide +kernel
theorem dX7_isEmpty_27 : decode cX7_isEmpty 27 = .ok (.if_icmp .eq 38, 3) := by decide +kernel
theorem dX7_isEmpty_30 : decode cX7_isEmpty 30 = .ok (.aload_n 0, 1) := by decide +kernel
theorem dX7_isEmpty_31 : decode cX7_isEmpty 31 = .ok (.iload_n 1, 1) := by decide +kernel
theorem dX7_isEmpty_32 : decode cX7_isEmpty 32 = .ok (.iload_n 2, 1) := by decide +kernel
theorem dX7_isEmpty_33 : decode cX7_isEmpty 33 = .ok (.iload 4, 2) := by decide +kernel
theorem dX7_isEmpty_35 : decode cX7_isEmpty 35 = .ok (.invokevirtual 79, 3) := by decide +kernel
theorem dX7_isEmpty_38 : decode cX7_isEmpty 38 = .ok (.ifCond .lt 27, 3) := by decide +kernel
theorem dX7_isEmpty_41 : decode cX7_isEmpty 41 = .ok (.aload_n 0, 1) := by decide +kernel
theorem dX7_isEmpty_42 : decode cX7_isEmpty 42 = .ok (.iload_n 2, 1) := by decide +kernel
theorem dX7_isEmpty_43 : decode cX7_isEmpty 43 = .ok (.iload_n 3, 1) := by decide +kernel
theorem dX7_isEmpty_44 : decode cX7_isEmpty 44 = .ok (.iload 4, 2) := by decide +kernel
theorem dX7_isEmpty_46 : decode cX7_isEmpty 46 = .ok (.invokevirtual 79, 3) := by decide +kernel
theorem dX7_isEmpty_49 : decode cX7_isEmpty 49 = .ok (.ifCond .lt 16, 3) := by decide +kernel
theorem dX7_isEmpty_52 : decode cX7_isEmpty 52 = .ok (.aload_n 0, 1) := by decide +kernel
theorem dX7_isEmpty_53 : decode cX7_isEmpty 53 = .ok (.iload_n 3, 1) := by decide +kernel
theorem dX7_isEmpty_54 : decode cX7_isEmpty 54 = .ok (.iload_n 1, 1) := by decide +kernel
theorem dX7_isEmpty_55 : decode cX7_isEmpty 55 = .ok (.iload 4, 2) := by decide +kernel
theorem dX7_isEmpty_57 : decode cX7_isEmpty 57 = .ok (.invokevirtual 79, 3) := by decide +kernel
theorem dX7_isEmpty_60 : decode cX7_isEmpty 60 = .ok (.ifCond .lt 5, 3) := by decide +kernel
theorem dX7_isEmpty_63 : decode cX7_isEmpty 63 = .ok (.iconst 0, 1) := by decide +kernel
theorem dX7_isEmpty_64 : decode cX7_isEmpty 64 = .ok (.ireturn, 1) := by decide +kernel
theorem dX7_isEmpty_65 : decode cX7_isEmpty 65 = .ok (.iinc 4 1, 3) := by decide +kernel
theorem dX7_isEmpty_68 : decode cX7_isEmpty 68 = .ok (.goto (-65), 3) := by decide +kernel
theorem dX7_isEmpty_71 : decode cX7_isEmpty 71 = .ok (.iconst 1, 1) := by decide +kernel
theorem dX7_isEmpty_72 : decode cX7_isEmpty 72 = .ok (.ireturn, 1) := by decide +kernel
theorem dX7_apex_0 : decode cX7_apex 0 = .ok (.iconst 0, 1) := by decide +kernel
theorem dX7_apex_1 : decode cX7_apex 1 = .ok (.istore_n 3, 1) := by decide +kernel
theorem dX7_apex_2 : decode cX7_apex 2 = .ok (.iload_n 3, 1) := by decide +kernel
theorem dX7_apex_3 : decode cX7_apex 3 = .ok (.aload_n 0, 1) := by decide +kernel
theorem dX7_apex_4 : decode cX7_apex 4 = .ok (.invokevirtual 48, 3) := by decide +kernel
theorem dX7_apex_7 : decode cX7_apex 7 = .ok (.if_icmp .ge 59, 3) := by decide +kernel
theorem dX7_apex_10 : decode cX7_apex 10 = .ok (.iload_n 3, 1) := by decide +kernel
theorem dX7_apex_11 : decode cX7_apex 11 = .ok (.iload_n 1, 1) := by decide +kernel
theorem dX7_apex_12 : decode cX7_apex 12 = .ok (.if_icmp .eq 48, 3) := by decide +kernel
theorem dX7_apex_15 : decode cX7_apex 15 = .ok (.iload_n 3, 1) := by decide +kernel
theorem dX7_apex_16 : decode cX7_apex 16 = .ok (.iload_n 2, 1) := by decide +kernel
theorem dX7_apex_17 : decode cX7_apex 17 = .ok (.if_icmp .eq 43, 3) := by decide +kernel
theorem dX7_apex_20 : decode cX7_apex 20 = .ok (.aload_n 0, 1) := by decide +kernel
theorem dX7_apex_21 : decode cX7_apex 21 = .ok (.iload_n 1, 1) := by decide +kernel
theorem dX7_apex_22 : decode cX7_apex 22 = .ok (.iload_n 3, 1) := by decide +kernel
theorem dX7_apex_23 : decode cX7_apex 23 = .ok (.invokevirtual 104, 3) := by decide +kernel
theorem dX7_apex_26 : decode cX7_apex 26 = .ok (.ifCond .eq 34, 3) := by decide +kernel
theorem dX7_apex_29 : decode cX7_apex 29 = .ok (.aload_n 0, 1) := by decide +kernel
theorem dX7_apex_30 : decode cX7_apex 30 = .ok (.iload_n 2, 1) := by decide +kernel
theorem dX7_apex_31 : decode cX7_apex 31 = .ok (.iload_n 3, 1) := by decide +kernel
theorem dX7_apex_32 : decode cX7_apex 32 = .ok (.invokevirtual 104, 3) := by decide +kernel
theorem dX7_apex_35 : decode cX7_apex 35 = .ok (.ifCond .eq 25, 3) := by decide +kernel
theorem dX7_apex_38 : decode cX7_apex 38 = .ok (.aload_n 0, 1) := by decide +kernel
theorem dX7_apex_39 : decode cX7_apex 39 = .ok (.iload_n 1, 1) := by decide +kernel
theorem dX7_apex_40 : decode cX7_apex 40 = .ok (.iload_n 2, 1) := by decide +kernel
theorem dX7_apex_41 : decode cX7_apex 41 = .ok (.iload_n 3, 1) := by decide +kernel
theorem dX7_apex_42 : decode cX7_apex 42 = .ok (.invokevirtual 79, 3) := by decide +kernel
theorem dX7_apex_45 : decode cX7_apex 45 = .ok (.ifCond .le 15, 3) := by decide +kernel
theorem dX7_apex_48 : decode cX7_apex 48 = .ok (.aload_n 0, 1) := by decide +kernel
theorem dX7_apex_49 : decode cX7_apex 49 = .ok (.iload_n 1, 1) := by decide +kernel
theorem dX7_apex_50 : decode cX7_apex 50 = .ok (.iload_n 2, 1) := by decide +kernel
theorem dX7_apex_51 : decode cX7_apex 51 = .ok (.iload_n 3, 1) := by decide +kernel
theorem dX7_apex_52 : decode cX7_apex 52 = .ok (.invokevirtual 108, 3) := by decide +kernel
theorem dX7_apex_55 : decode cX7_apex 55 = .ok (.ifCond .eq 5, 3) := by decide +kernel
theorem dX7_apex_58 : decode cX7_apex 58 = .ok (.iload_n 3, 1) := by decide +kernel
theorem dX7_apex_59 : decode cX7_apex 59 = .ok (.ireturn, 1) := by decide +kernel
theorem dX7_apex_60 : decode cX7_apex 60 = .ok (.iinc 3 1, 3) := by decide +kernel
theorem dX7_apex_63 : decode cX7_apex 63 = .ok (.goto (-61), 3) := by decide +kernel
theorem dX7_apex_66 : decode cX7_apex 66 = .ok (.iconst (-1), 1) := by decide +kernel
theorem dX7_apex_67 : decode cX7_apex 67 = .ok (.ireturn, 1) := by decide +kernel
theorem dX7_crossesAny_0 : decode cX7_crossesAny 0 = .ok (.iconst 0, 1) := by decide +kernel
theorem dX7_crossesAny_1 : decode cX7_crossesAny 1 = .ok (.istore_n 3, 1) := by decide +kernel
theorem dX7_crossesAny_2 : decode cX7_crossesAny 2 = .ok (.iload_n 3, 1) := by decide +kernel
theorem dX7_crossesAny_3 : decode cX7_crossesAny 3 = .ok (.aload_n 0, 1) := by decide +kernel
theorem dX7_crossesAny_4 : decode cX7_crossesAny 4 = .ok (.invokevirtual 48, 3) := by decide +kernel
theorem dX7_crossesAny_7 : decode cX7_crossesAny 7 = .ok (.if_icmp .ge 53, 3) := by decide +kernel
theorem dX7_crossesAny_10 : decode cX7_crossesAny 10 = .ok (.iload_n 3, 1) := by decide +kernel
theorem dX7_crossesAny_11 : decode cX7_crossesAny 11 = .ok (.iconst 1, 1) := by decide +kernel
theorem dX7_crossesAny_12 : decode cX7_crossesAny 12 = .ok (.iadd, 1) := by decide +kernel
theorem dX7_crossesAny_13 : decode cX7_crossesAny 13 = .ok (.istore 4, 2) := by decide +kernel
theorem dX7_crossesAny_15 : decode cX7_crossesAny 15 = .ok (.iload 4, 2) := by decide +kernel
theorem dX7_crossesAny_17 : decode cX7_crossesAny 17 = .ok (.aload_n 0, 1) := by decide +kernel
theorem dX7_crossesAny_18 : decode cX7_crossesAny 18 = .ok (.invokevirtual 48, 3) := by decide +kernel
theorem dX7_crossesAny_21 : decode cX7_crossesAny 21 = .ok (.if_icmp .ge 33, 3) := by decide +kernel
theorem dX7_crossesAny_24 : decode cX7_crossesAny 24 = .ok (.aload_n 0, 1) := by decide +kernel
theorem dX7_crossesAny_25 : decode cX7_crossesAny 25 = .ok (.iload_n 3, 1) := by decide +kernel
theorem dX7_crossesAny_26 : decode cX7_crossesAny 26 = .ok (.iload 4, 2) := by decide +kernel
theorem dX7_crossesAny_28 : decode cX7_crossesAny 28 = .ok (.invokevirtual 104, 3) := by decide +kernel
theorem dX7_crossesAny_31 : decode cX7_crossesAny 31 = .ok (.ifCond .eq 17, 3) := by decide +kernel
theorem dX7_crossesAny_34 : decode cX7_crossesAny 34 = .ok (.aload_n 0, 1) := by decide +kernel
theorem dX7_crossesAny_35 : decode cX7_crossesAny 35 = .ok (.iload_n 1, 1) := by decide +kernel
theorem dX7_crossesAny_36 : decode cX7_crossesAny 36 = .ok (.iload_n 2, 1) := by decide +kernel
theorem dX7_crossesAny_37 : decode cX7_crossesAny 37 = .ok (.iload_n 3, 1) := by decide +kernel
theorem dX7_crossesAny_38 : decode cX7_crossesAny 38 = .ok (.iload 4, 2) := by decide +kernel
theorem dX7_crossesAny_40 : decode cX7_crossesAny 40 = .ok (.invokevirtual 111, 3) := by decide +kernel
theorem dX7_crossesAny_43 : decode cX7_crossesAny 43 = .ok (.ifCond .eq 5, 3) := by decide +kernel
theorem dX7_crossesAny_46 : decode cX7_crossesAny 46 = .ok (.iconst 1, 1) := by decide +kernel
theorem dX7_crossesAny_47 : decode cX7_crossesAny 47 = .ok (.ireturn, 1) := by decide +kernel
theorem dX7_crossesAny_48 : decode cX7_crossesAny 48 = .ok (.iinc 4 1, 3) := by decide +kernel
theorem dX7_crossesAny_51 : decode cX7_crossesAny 51 = .ok (.goto (-36), 3) := by decide +kernel
theorem dX7_crossesAny_54 : decode cX7_crossesAny 54 = .ok (.iinc 3 1, 3) := by decide +kernel
theorem dX7_crossesAny_57 : decode cX7_crossesAny 57 = .ok (.goto (-55), 3) := by decide +kernel
theorem dX7_crossesAny_60 : decode cX7_crossesAny 60 = .ok (.iconst 0, 1) := by decide +kernel
theorem dX7_crossesAny_61 : decode cX7_crossesAny 61 = .ok (.ireturn, 1) := by decide +kernel
theorem dX7_isLine_0 : decode cX7_isLine 0 = .ok (.iconst 2, 1) := by decide +kernel
theorem dX7_isLine_1 : decode cX7_isLine 1 = .ok (.istore_n 1, 1) := by decide +kernel
theorem dX7_isLine_2 : decode cX7_isLine 2 = .ok (.iload_n 1, 1) := by decide +kernel
theorem dX7_isLine_3 : decode cX7_isLine 3 = .ok (.aload_n 0, 1) := by decide +kernel
theorem dX7_isLine_4 : decode cX7_isLine 4 = .ok (.invokevirtual 48, 3) := by decide +kernel
theorem dX7_isLine_7 : decode cX7_isLine 7 = .ok (.if_icmp .ge 21, 3) := by decide +kernel
theorem dX7_isLine_10 : decode cX7_isLine 10 = .ok (.aload_n 0, 1) := by decide +kernel
theorem dX7_isLine_11 : decode cX7_isLine 11 = .ok (.iconst 0, 1) := by decide +kernel
theorem dX7_isLine_12 : decode cX7_isLine 12 = .ok (.iconst 1, 1) := by decide +kernel
theorem dX7_isLine_13 : decode cX7_isLine 13 = .ok (.iload_n 1, 1) := by decide +kernel
theorem dX7_isLine_14 : decode cX7_isLine 14 = .ok (.invokevirtual 79, 3) := by decide +kernel
theorem dX7_isLine_17 : decode cX7_isLine 17 = .ok (.ifCond .eq 5, 3) := by decide +kernel
theorem dX7_isLine_20 : decode cX7_isLine 20 = .ok (.iconst 0, 1) := by decide +kernel
theorem dX7_isLine_21 : decode cX7_isLine 21 = .ok (.ireturn, 1) := by decide +kernel
theorem dX7_isLine_22 : decode cX7_isLine 22 = .ok (.iinc 1 1, 3) := by decide +kernel
theorem dX7_isLine_25 : decode cX7_isLine 25 = .ok (.goto (-23), 3) := by decide +kernel
theorem dX7_isLine_28 : decode cX7_isLine 28 = .ok (.iconst 1, 1) := by decide +kernel
theorem dX7_isLine_29 : decode cX7_isLine 29 = .ok (.ireturn, 1) := by decide +kernel
theorem dX7_builds_0 : decode cX7_builds 0 = .ok (.iconst 0, 1) := by decide +kernel
theorem dX7_builds_1 : decode cX7_builds 1 = .ok (.istore_n 1, 1) := by decide +kernel
theorem dX7_builds_2 : decode cX7_builds 2 = .ok (.iload_n 1, 1) := by decide +kernel
theorem dX7_builds_3 : decode cX7_builds 3 = .ok (.sipush 289, 3) := by decide +kernel
theorem dX7_builds_6 : decode cX7_builds 6 = .ok (.if_icmp .ge 16, 3) := by decide +kernel
theorem dX7_builds_9 : decode cX7_builds 9 = .ok (.aload_n 0, 1) := by decide +kernel
theorem dX7_builds_10 : decode cX7_builds 10 = .ok (.getfield 22, 3) := by decide +kernel
theorem dX7_builds_13 : decode cX7_builds 13 = .ok (.iload_n 1, 1) := by decide +kernel
theorem dX7_builds_14 : decode cX7_builds 14 = .ok (.iconst 0, 1) := by decide +kernel
theorem dX7_builds_15 : decode cX7_builds 15 = .ok (.bastore, 1) := by decide +kernel
theorem dX7_builds_16 : decode cX7_builds 16 = .ok (.iinc 1 1, 3) := by decide +kernel
theorem dX7_builds_19 : decode cX7_builds 19 = .ok (.goto (-17), 3) := by decide +kernel
theorem dX7_builds_22 : decode cX7_builds 22 = .ok (.aload_n 0, 1) := by decide +kernel
theorem dX7_builds_23 : decode cX7_builds 23 = .ok (.iconst 0, 1) := by decide +kernel
theorem dX7_builds_24 : decode cX7_builds 24 = .ok (.putfield 114, 3) := by decide +kernel
theorem dX7_builds_27 : decode cX7_builds 27 = .ok (.iconst 0, 1) := by decide +kernel
theorem dX7_builds_28 : decode cX7_builds 28 = .ok (.istore_n 1, 1) := by decide +kernel
theorem dX7_builds_29 : decode cX7_builds 29 = .ok (.iload_n 1, 1) := by decide +kernel
theorem dX7_builds_30 : decode cX7_builds 30 = .ok (.aload_n 0, 1) := by decide +kernel
theorem dX7_builds_31 : decode cX7_builds 31 = .ok (.invokevirtual 56, 3) := by decide +kernel
theorem dX7_builds_34 : decode cX7_builds 34 = .ok (.if_icmp .ge 26, 3) := by decide +kernel
theorem dX7_builds_37 : decode cX7_builds 37 = .ok (.aload_n 0, 1) := by decide +kernel
theorem dX7_builds_38 : decode cX7_builds 38 = .ok (.aload_n 0, 1) := by decide +kernel
theorem dX7_builds_39 : decode cX7_builds 39 = .ok (.iload_n 1, 1) := by decide +kernel
theorem dX7_builds_40 : decode cX7_builds 40 = .ok (.iconst 0, 1) := by decide +kernel
theorem dX7_builds_41 : decode cX7_builds 41 = .ok (.invokevirtual 101, 3) := by decide +kernel
theorem dX7_builds_44 : decode cX7_builds 44 = .ok (.aload_n 0, 1) := by decide +kernel
theorem dX7_builds_45 : decode cX7_builds 45 = .ok (.iload_n 1, 1) := by decide +kernel
theorem dX7_builds_46 : decode cX7_builds 46 = .ok (.iconst 1, 1) := by decide +kernel
theorem dX7_builds_47 : decode cX7_builds 47 = .ok (.invokevirtual 101, 3) := by decide +kernel
theorem dX7_builds_50 : decode cX7_builds 50 = .ok (.iconst 1, 1) := by decide +kernel
theorem dX7_builds_51 : decode cX7_builds 51 = .ok (.invokevirtual 117, 3) := by decide +kernel
theorem dX7_builds_54 : decode cX7_builds 54 = .ok (.iinc 1 1, 3) := by decide +kernel
theorem dX7_builds_57 : decode cX7_builds 57 = .ok (.goto (-28), 3) := by decide +kernel
theorem dX7_builds_60 : decode cX7_builds 60 = .ok (.iconst 0, 1) := by decide +kernel
theorem dX7_builds_61 : decode cX7_builds 61 = .ok (.istore_n 1, 1) := by decide +kernel
theorem dX7_builds_62 : decode cX7_builds 62 = .ok (.iload_n 1, 1) := by decide +kernel
theorem dX7_builds_63 : decode cX7_builds 63 = .ok (.aload_n 0, 1) := by decide +kernel
theorem dX7_builds_64 : decode cX7_builds 64 = .ok (.invokevirtual 48, 3) := by decide +kernel
theorem dX7_builds_67 : decode cX7_builds 67 = .ok (.if_icmp .ge 61, 3) := by decide +kernel
theorem dX7_builds_70 : decode cX7_builds 70 = .ok (.iload_n 1, 1) := by decide +kernel
theorem dX7_builds_71 : decode cX7_builds 71 = .ok (.iconst 1, 1) := by decide +kernel
theorem dX7_builds_72 : decode cX7_builds 72 = .ok (.iadd, 1) := by decide +kernel
theorem dX7_builds_73 : decode cX7_builds 73 = .ok (.istore_n 2, 1) := by decide +kernel
theorem dX7_builds_74 : decode cX7_builds 74 = .ok (.iload_n 2, 1) := by decide +kernel
theorem dX7_builds_75 : decode cX7_builds 75 = .ok (.aload_n 0, 1) := by decide +kernel
theorem dX7_builds_76 : decode cX7_builds 76 = .ok (.invokevirtual 48, 3) := by decide +kernel
theorem dX7_builds_79 : decode cX7_builds 79 = .ok (.if_icmp .ge 43, 3) := by decide +kernel
theorem dX7_builds_82 : decode cX7_builds 82 = .ok (.aload_n 0, 1) := by decide +kernel
theorem dX7_builds_83 : decode cX7_builds 83 = .ok (.iload_n 1, 1) := by decide +kernel
theorem dX7_builds_84 : decode cX7_builds 84 = .ok (.iload_n 2, 1) := by decide +kernel
theorem dX7_builds_85 : decode cX7_builds 85 = .ok (.invokevirtual 104, 3) := by decide +kernel
theorem dX7_builds_88 : decode cX7_builds 88 = .ok (.ifCond .ne 28, 3) := by decide +kernel
theorem dX7_builds_91 : decode cX7_builds 91 = .ok (.aload_n 0, 1) := by decide +kernel
theorem dX7_builds_92 : decode cX7_builds 92 = .ok (.iload_n 1, 1) := by decide +kernel
theorem dX7_builds_93 : decode cX7_builds 93 = .ok (.iload_n 2, 1) := by decide +kernel
theorem dX7_builds_94 : decode cX7_builds 94 = .ok (.invokevirtual 121, 3) := by decide +kernel
theorem dX7_builds_97 : decode cX7_builds 97 = .ok (.ifCond .ne 19, 3) := by decide +kernel
theorem dX7_builds_100 : decode cX7_builds 100 = .ok (.aload_n 0, 1) := by decide +kernel
theorem dX7_builds_101 : decode cX7_builds 101 = .ok (.iload_n 1, 1) := by decide +kernel
theorem dX7_builds_102 : decode cX7_builds 102 = .ok (.iload_n 2, 1) := by decide +kernel
theorem dX7_builds_103 : decode cX7_builds 103 = .ok (.invokevirtual 124, 3) := by decide +kernel
theorem dX7_builds_106 : decode cX7_builds 106 = .ok (.ifCond .ne 10, 3) := by decide +kernel
theorem dX7_builds_109 : decode cX7_builds 109 = .ok (.aload_n 0, 1) := by decide +kernel
theorem dX7_builds_110 : decode cX7_builds 110 = .ok (.iload_n 1, 1) := by decide +kernel
theorem dX7_builds_111 : decode cX7_builds 111 = .ok (.iload_n 2, 1) := by decide +kernel
theorem dX7_builds_112 : decode cX7_builds 112 = .ok (.iconst 1, 1) := by decide +kernel
theorem dX7_builds_113 : decode cX7_builds 113 = .ok (.invokevirtual 117, 3) := by decide +kernel
theorem dX7_builds_116 : decode cX7_builds 116 = .ok (.iinc 2 1, 3) := by decide +kernel
theorem dX7_builds_119 : decode cX7_builds 119 = .ok (.goto (-45), 3) := by decide +kernel
theorem dX7_builds_122 : decode cX7_builds 122 = .ok (.iinc 1 1, 3) := by decide +kernel
theorem dX7_builds_125 : decode cX7_builds 125 = .ok (.goto (-63), 3) := by decide +kernel
theorem dX7_builds_128 : decode cX7_builds 128 = .ok (.aload_n 0, 1) := by decide +kernel
theorem dX7_builds_129 : decode cX7_builds 129 = .ok (.invokevirtual 127, 3) := by decide +kernel
theorem dX7_builds_132 : decode cX7_builds 132 = .ok (.ifCond .eq 4, 3) := by decide +kernel
theorem dX7_builds_135 : decode cX7_builds 135 = .ok (.return_, 1) := by decide +kernel
theorem dX7_builds_136 : decode cX7_builds 136 = .ok (.iconst 1, 1) := by decide +kernel
theorem dX7_builds_137 : decode cX7_builds 137 = .ok (.istore_n 1, 1) := by decide +kernel
theorem dX7_builds_138 : decode cX7_builds 138 = .ok (.iload_n 1, 1) := by decide +kernel
theorem dX7_builds_139 : decode cX7_builds 139 = .ok (.ifCond .eq 53, 3) := by decide +kernel
theorem dX7_builds_142 : decode cX7_builds 142 = .ok (.iconst 0, 1) := by decide +kernel
theorem dX7_builds_143 : decode cX7_builds 143 = .ok (.istore_n 1, 1) := by decide +kernel
theorem dX7_builds_144 : decode cX7_builds 144 = .ok (.iconst 0, 1) := by decide +kernel
theorem dX7_builds_145 : decode cX7_builds 145 = .ok (.istore_n 2, 1) := by decide +kernel
theorem dX7_builds_146 : decode cX7_builds 146 = .ok (.iload_n 2, 1) := by decide +kernel
theorem dX7_builds_147 : decode cX7_builds 147 = .ok (.aload_n 0, 1) := by decide +kernel
theorem dX7_builds_148 : decode cX7_builds 148 = .ok (.invokevirtual 48, 3) := by decide +kernel
theorem dX7_builds_151 : decode cX7_builds 151 = .ok (.if_icmp .ge 38, 3) := by decide +kernel
theorem dX7_builds_154 : decode cX7_builds 154 = .ok (.iload_n 2, 1) := by decide +kernel
theorem dX7_builds_155 : decode cX7_builds 155 = .ok (.iconst 1, 1) := by decide +kernel
theorem dX7_builds_156 : decode cX7_builds 156 = .ok (.iadd, 1) := by decide +kernel
theorem dX7_builds_157 : decode cX7_builds 157 = .ok (.istore_n 3, 1) := by decide +kernel
theorem dX7_builds_158 : decode cX7_builds 158 = .ok (.iload_n 3, 1) := by decide +kernel
theorem dX7_builds_159 : decode cX7_builds 159 = .ok (.aload_n 0, 1) := by decide +kernel
theorem dX7_builds_160 : decode cX7_builds 160 = .ok (.invokevirtual 48, 3) := by decide +kernel
theorem dX7_builds_163 : decode cX7_builds 163 = .ok (.if_icmp .ge 20, 3) := by decide +kernel
theorem dX7_builds_166 : decode cX7_builds 166 = .ok (.aload_n 0, 1) := by decide +kernel
theorem dX7_builds_167 : decode cX7_builds 167 = .ok (.iload_n 2, 1) := by decide +kernel
theorem dX7_builds_168 : decode cX7_builds 168 = .ok (.iload_n 3, 1) := by decide +kernel
theorem dX7_builds_169 : decode cX7_builds 169 = .ok (.invokevirtual 131, 3) := by decide +kernel
theorem dX7_builds_172 : decode cX7_builds 172 = .ok (.ifCond .eq 5, 3) := by decide +kernel
theorem dX7_builds_175 : decode cX7_builds 175 = .ok (.iconst 1, 1) := by decide +kernel
theorem dX7_builds_176 : decode cX7_builds 176 = .ok (.istore_n 1, 1) := by decide +kernel
theorem dX7_builds_177 : decode cX7_builds 177 = .ok (.iinc 3 1, 3) := by decide +kernel
theorem dX7_builds_180 : decode cX7_builds 180 = .ok (.goto (-22), 3) := by decide +kernel
theorem dX7_builds_183 : decode cX7_builds 183 = .ok (.iinc 2 1, 3) := by decide +kernel
theorem dX7_builds_186 : decode cX7_builds 186 = .ok (.goto (-40), 3) := by decide +kernel
theorem dX7_builds_189 : decode cX7_builds 189 = .ok (.goto (-51), 3) := by decide +kernel
theorem dX7_builds_192 : decode cX7_builds 192 = .ok (.iconst 0, 1) := by decide +kernel
theorem dX7_builds_193 : decode cX7_builds 193 = .ok (.istore_n 2, 1) := by decide +kernel
theorem dX7_builds_194 : decode cX7_builds 194 = .ok (.iload_n 2, 1) := by decide +kernel
theorem dX7_builds_195 : decode cX7_builds 195 = .ok (.aload_n 0, 1) := by decide +kernel
theorem dX7_builds_196 : decode cX7_builds 196 = .ok (.invokevirtual 48, 3) := by decide +kernel
theorem dX7_builds_199 : decode cX7_builds 199 = .ok (.if_icmp .ge 55, 3) := by decide +kernel
theorem dX7_builds_202 : decode cX7_builds 202 = .ok (.iload_n 2, 1) := by decide +kernel
theorem dX7_builds_203 : decode cX7_builds 203 = .ok (.iconst 1, 1) := by decide +kernel
theorem dX7_builds_204 : decode cX7_builds 204 = .ok (.iadd, 1) := by decide +kernel
theorem dX7_builds_205 : decode cX7_builds 205 = .ok (.istore_n 3, 1) := by decide +kernel
theorem dX7_builds_206 : decode cX7_builds 206 = .ok (.iload_n 3, 1) := by decide +kernel
theorem dX7_builds_207 : decode cX7_builds 207 = .ok (.aload_n 0, 1) := by decide +kernel
theorem dX7_builds_208 : decode cX7_builds 208 = .ok (.invokevirtual 48, 3) := by decide +kernel
theorem dX7_builds_211 : decode cX7_builds 211 = .ok (.if_icmp .ge 37, 3) := by decide +kernel
theorem dX7_builds_214 : decode cX7_builds 214 = .ok (.iload_n 2, 1) := by decide +kernel
theorem dX7_builds_215 : decode cX7_builds 215 = .ok (.iconst 1, 1) := by decide +kernel
theorem dX7_builds_216 : decode cX7_builds 216 = .ok (.iadd, 1) := by decide +kernel
theorem dX7_builds_217 : decode cX7_builds 217 = .ok (.istore 4, 2) := by decide +kernel
theorem dX7_builds_219 : decode cX7_builds 219 = .ok (.iload 4, 2) := by decide +kernel
theorem dX7_builds_221 : decode cX7_builds 221 = .ok (.aload_n 0, 1) := by decide +kernel
theorem dX7_builds_222 : decode cX7_builds 222 = .ok (.invokevirtual 48, 3) := by decide +kernel
theorem dX7_builds_225 : decode cX7_builds 225 = .ok (.if_icmp .ge 17, 3) := by decide +kernel
theorem dX7_builds_228 : decode cX7_builds 228 = .ok (.aload_n 0, 1) := by decide +kernel
theorem dX7_builds_229 : decode cX7_builds 229 = .ok (.iload_n 2, 1) := by decide +kernel
theorem dX7_builds_230 : decode cX7_builds 230 = .ok (.iload_n 3, 1) := by decide +kernel
theorem dX7_builds_231 : decode cX7_builds 231 = .ok (.iload 4, 2) := by decide +kernel
theorem dX7_builds_233 : decode cX7_builds 233 = .ok (.invokevirtual 134, 3) := by decide +kernel
theorem dX7_builds_236 : decode cX7_builds 236 = .ok (.iinc 4 1, 3) := by decide +kernel
theorem dX7_builds_239 : decode cX7_builds 239 = .ok (.goto (-20), 3) := by decide +kernel
theorem dX7_builds_242 : decode cX7_builds 242 = .ok (.iinc 3 1, 3) := by decide +kernel
theorem dX7_builds_245 : decode cX7_builds 245 = .ok (.goto (-39), 3) := by decide +kernel
theorem dX7_builds_248 : decode cX7_builds 248 = .ok (.iinc 2 1, 3) := by decide +kernel
theorem dX7_builds_251 : decode cX7_builds 251 = .ok (.goto (-57), 3) := by decide +kernel
theorem dX7_builds_254 : decode cX7_builds 254 = .ok (.return_, 1) := by decide +kernel
theorem dX7_flips_0 : decode cX7_flips 0 = .ok (.aload_n 0, 1) := by decide +kernel
theorem dX7_flips_1 : decode cX7_flips 1 = .ok (.iload_n 1, 1) := by decide +kernel
theorem dX7_flips_2 : decode cX7_flips 2 = .ok (.iload_n 2, 1) := by decide +kernel
theorem dX7_flips_3 : decode cX7_flips 3 = .ok (.invokevirtual 104, 3) := by decide +kernel
theorem dX7_flips_6 : decode cX7_flips 6 = .ok (.ifCond .eq 12, 3) := by decide +kernel
theorem dX7_flips_9 : decode cX7_flips 9 = .ok (.aload_n 0, 1) := by decide +kernel
theorem dX7_flips_10 : decode cX7_flips 10 = .ok (.iload_n 1, 1) := by decide +kernel
theorem dX7_flips_11 : decode cX7_flips 11 = .ok (.iload_n 2, 1) := by decide +kernel
theorem dX7_flips_12 : decode cX7_flips 12 = .ok (.invokevirtual 138, 3) := by decide +kernel
theorem dX7_flips_15 : decode cX7_flips 15 = .ok (.ifCond .eq 5, 3) := by decide +kernel
theorem dX7_flips_18 : decode cX7_flips 18 = .ok (.iconst 0, 1) := by decide +kernel
theorem dX7_flips_19 : decode cX7_flips 19 = .ok (.ireturn, 1) := by decide +kernel
theorem dX7_flips_20 : decode cX7_flips 20 = .ok (.aload_n 0, 1) := by decide +kernel
theorem dX7_flips_21 : decode cX7_flips 21 = .ok (.iload_n 1, 1) := by decide +kernel
theorem dX7_flips_22 : decode cX7_flips 22 = .ok (.iload_n 2, 1) := by decide +kernel
theorem dX7_flips_23 : decode cX7_flips 23 = .ok (.invokevirtual 141, 3) := by decide +kernel
theorem dX7_flips_26 : decode cX7_flips 26 = .ok (.istore_n 3, 1) := by decide +kernel
theorem dX7_flips_27 : decode cX7_flips 27 = .ok (.aload_n 0, 1) := by decide +kernel
theorem dX7_flips_28 : decode cX7_flips 28 = .ok (.iload_n 2, 1) := by decide +kernel
theorem dX7_flips_29 : decode cX7_flips 29 = .ok (.iload_n 1, 1) := by decide +kernel
theorem dX7_flips_30 : decode cX7_flips 30 = .ok (.invokevirtual 141, 3) := by decide +kernel
theorem dX7_flips_33 : decode cX7_flips 33 = .ok (.istore 4, 2) := by decide +kernel
theorem dX7_flips_35 : decode cX7_flips 35 = .ok (.iload_n 3, 1) := by decide +kernel
theorem dX7_flips_36 : decode cX7_flips 36 = .ok (.ifCond .lt 20, 3) := by decide +kernel
theorem dX7_flips_39 : decode cX7_flips 39 = .ok (.iload 4, 2) := by decide +kernel
theorem dX7_flips_41 : decode cX7_flips 41 = .ok (.ifCond .lt 15, 3) := by decide +kernel
theorem dX7_flips_44 : decode cX7_flips 44 = .ok (.aload_n 0, 1) := by decide +kernel
theorem dX7_flips_45 : decode cX7_flips 45 = .ok (.iload_n 1, 1) := by decide +kernel
theorem dX7_flips_46 : decode cX7_flips 46 = .ok (.iload_n 2, 1) := by decide +kernel
theorem dX7_flips_47 : decode cX7_flips 47 = .ok (.iload_n 3, 1) := by decide +kernel
theorem dX7_flips_48 : decode cX7_flips 48 = .ok (.iload 4, 2) := by decide +kernel
theorem dX7_flips_50 : decode cX7_flips 50 = .ok (.invokevirtual 144, 3) := by decide +kernel
theorem dX7_flips_53 : decode cX7_flips 53 = .ok (.ifCond .eq 5, 3) := by decide +kernel
theorem dX7_flips_56 : decode cX7_flips 56 = .ok (.iconst 0, 1) := by decide +kernel
theorem dX7_flips_57 : decode cX7_flips 57 = .ok (.ireturn, 1) := by decide +kernel
theorem dX7_flips_58 : decode cX7_flips 58 = .ok (.aload_n 0, 1) := by decide +kernel
theorem dX7_flips_59 : decode cX7_flips 59 = .ok (.iload_n 1, 1) := by decide +kernel
theorem dX7_flips_60 : decode cX7_flips 60 = .ok (.iload_n 2, 1) := by decide +kernel
theorem dX7_flips_61 : decode cX7_flips 61 = .ok (.iconst 0, 1) := by decide +kernel
theorem dX7_flips_62 : decode cX7_flips 62 = .ok (.invokevirtual 117, 3) := by decide +kernel
theorem dX7_flips_65 : decode cX7_flips 65 = .ok (.aload_n 0, 1) := by decide +kernel
theorem dX7_flips_66 : decode cX7_flips 66 = .ok (.iload_n 3, 1) := by decide +kernel
theorem dX7_flips_67 : decode cX7_flips 67 = .ok (.iload 4, 2) := by decide +kernel
theorem dX7_flips_69 : decode cX7_flips 69 = .ok (.iconst 1, 1) := by decide +kernel
theorem dX7_flips_70 : decode cX7_flips 70 = .ok (.invokevirtual 117, 3) := by decide +kernel
theorem dX7_flips_73 : decode cX7_flips 73 = .ok (.iconst 1, 1) := by decide +kernel
theorem dX7_flips_74 : decode cX7_flips 74 = .ok (.ireturn, 1) := by decide +kernel
theorem dX7_lists_0 : decode cX7_lists 0 = .ok (.iload_n 2, 1) := by decide +kernel
theorem dX7_lists_1 : decode cX7_lists 1 = .ok (.iload_n 3, 1) := by decide +kernel
theorem dX7_lists_2 : decode cX7_lists 2 = .ok (.if_icmp .eq 50, 3) := by decide +kernel
theorem dX7_lists_5 : decode cX7_lists 5 = .ok (.aload_n 0, 1) := by decide +kernel
theorem dX7_lists_6 : decode cX7_lists 6 = .ok (.iload_n 1, 1) := by decide +kernel
theorem dX7_lists_7 : decode cX7_lists 7 = .ok (.iload_n 2, 1) := by decide +kernel
theorem dX7_lists_8 : decode cX7_lists 8 = .ok (.invokevirtual 104, 3) := by decide +kernel
theorem dX7_lists_11 : decode cX7_lists 11 = .ok (.ifCond .eq 41, 3) := by decide +kernel
theorem dX7_lists_14 : decode cX7_lists 14 = .ok (.aload_n 0, 1) := by decide +kernel
theorem dX7_lists_15 : decode cX7_lists 15 = .ok (.iload_n 2, 1) := by decide +kernel
theorem dX7_lists_16 : decode cX7_lists 16 = .ok (.iload_n 3, 1) := by decide +kernel
theorem dX7_lists_17 : decode cX7_lists 17 = .ok (.invokevirtual 104, 3) := by decide +kernel
theorem dX7_lists_20 : decode cX7_lists 20 = .ok (.ifCond .eq 32, 3) := by decide +kernel
theorem dX7_lists_23 : decode cX7_lists 23 = .ok (.aload_n 0, 1) := by decide +kernel
theorem dX7_lists_24 : decode cX7_lists 24 = .ok (.iload_n 3, 1) := by decide +kernel
theorem dX7_lists_25 : decode cX7_lists 25 = .ok (.iload_n 1, 1) := by decide +kernel
theorem dX7_lists_26 : decode cX7_lists 26 = .ok (.invokevirtual 104, 3) := by decide +kernel
theorem dX7_lists_29 : decode cX7_lists 29 = .ok (.ifCond .eq 23, 3) := by decide +kernel
theorem dX7_lists_32 : decode cX7_lists 32 = .ok (.aload_n 0, 1) := by decide +kernel
theorem dX7_lists_33 : decode cX7_lists 33 = .ok (.iload_n 1, 1) := by decide +kernel
theorem dX7_lists_34 : decode cX7_lists 34 = .ok (.iload_n 2, 1) := by decide +kernel
theorem dX7_lists_35 : decode cX7_lists 35 = .ok (.iload_n 3, 1) := by decide +kernel
theorem dX7_lists_36 : decode cX7_lists 36 = .ok (.invokevirtual 79, 3) := by decide +kernel
theorem dX7_lists_39 : decode cX7_lists 39 = .ok (.ifCond .le 13, 3) := by decide +kernel
theorem dX7_lists_42 : decode cX7_lists 42 = .ok (.aload_n 0, 1) := by decide +kernel
theorem dX7_lists_43 : decode cX7_lists 43 = .ok (.iload_n 1, 1) := by decide +kernel
theorem dX7_lists_44 : decode cX7_lists 44 = .ok (.iload_n 2, 1) := by decide +kernel
theorem dX7_lists_45 : decode cX7_lists 45 = .ok (.iload_n 3, 1) := by decide +kernel
theorem dX7_lists_46 : decode cX7_lists 46 = .ok (.invokevirtual 108, 3) := by decide +kernel
theorem dX7_lists_49 : decode cX7_lists 49 = .ok (.ifCond .ne 4, 3) := by decide +kernel
theorem dX7_lists_52 : decode cX7_lists 52 = .ok (.return_, 1) := by decide +kernel
theorem dX7_lists_53 : decode cX7_lists 53 = .ok (.aload_n 0, 1) := by decide +kernel
theorem dX7_lists_54 : decode cX7_lists 54 = .ok (.getfield 26, 3) := by decide +kernel
theorem dX7_lists_57 : decode cX7_lists 57 = .ok (.iconst 3, 1) := by decide +kernel
theorem dX7_lists_58 : decode cX7_lists 58 = .ok (.aload_n 0, 1) := by decide +kernel
theorem dX7_lists_59 : decode cX7_lists 59 = .ok (.getfield 114, 3) := by decide +kernel
theorem dX7_lists_62 : decode cX7_lists 62 = .ok (.imul, 1) := by decide +kernel
theorem dX7_lists_63 : decode cX7_lists 63 = .ok (.iload_n 1, 1) := by decide +kernel
theorem dX7_lists_64 : decode cX7_lists 64 = .ok (.iastore, 1) := by decide +kernel
theorem dX7_lists_65 : decode cX7_lists 65 = .ok (.aload_n 0, 1) := by decide +kernel
theorem dX7_lists_66 : decode cX7_lists 66 = .ok (.getfield 26, 3) := by decide +kernel
theorem dX7_lists_69 : decode cX7_lists 69 = .ok (.iconst 3, 1) := by decide +kernel
theorem dX7_lists_70 : decode cX7_lists 70 = .ok (.aload_n 0, 1) := by decide +kernel
theorem dX7_lists_71 : decode cX7_lists 71 = .ok (.getfield 114, 3) := by decide +kernel
theorem dX7_lists_74 : decode cX7_lists 74 = .ok (.imul, 1) := by decide +kernel
theorem dX7_lists_75 : decode cX7_lists 75 = .ok (.iconst 1, 1) := by decide +kernel
theorem dX7_lists_76 : decode cX7_lists 76 = .ok (.iadd, 1) := by decide +kernel
theorem dX7_lists_77 : decode cX7_lists 77 = .ok (.iload_n 2, 1) := by decide +kernel
theorem dX7_lists_78 : decode cX7_lists 78 = .ok (.iastore, 1) := by decide +kernel
theorem dX7_lists_79 : decode cX7_lists 79 = .ok (.aload_n 0, 1) := by decide +kernel
theorem dX7_lists_80 : decode cX7_lists 80 = .ok (.getfield 26, 3) := by decide +kernel
theorem dX7_lists_83 : decode cX7_lists 83 = .ok (.iconst 3, 1) := by decide +kernel
theorem dX7_lists_84 : decode cX7_lists 84 = .ok (.aload_n 0, 1) := by decide +kernel
theorem dX7_lists_85 : decode cX7_lists 85 = .ok (.getfield 114, 3) := by decide +kernel
theorem dX7_lists_88 : decode cX7_lists 88 = .ok (.imul, 1) := by decide +kernel
theorem dX7_lists_89 : decode cX7_lists 89 = .ok (.iconst 2, 1) := by decide +kernel
theorem dX7_lists_90 : decode cX7_lists 90 = .ok (.iadd, 1) := by decide +kernel
theorem dX7_lists_91 : decode cX7_lists 91 = .ok (.iload_n 3, 1) := by decide +kernel
theorem dX7_lists_92 : decode cX7_lists 92 = .ok (.iastore, 1) := by decide +kernel
theorem dX7_lists_93 : decode cX7_lists 93 = .ok (.aload_n 0, 1) := by decide +kernel
theorem dX7_lists_94 : decode cX7_lists 94 = .ok (.dup, 1) := by decide +kernel
theorem dX7_lists_95 : decode cX7_lists 95 = .ok (.getfield 114, 3) := by decide +kernel
theorem dX7_lists_98 : decode cX7_lists 98 = .ok (.iconst 1, 1) := by decide +kernel
theorem dX7_lists_99 : decode cX7_lists 99 = .ok (.iadd, 1) := by decide +kernel
theorem dX7_lists_100 : decode cX7_lists 100 = .ok (.putfield 114, 3) := by decide +kernel
theorem dX7_lists_103 : decode cX7_lists 103 = .ok (.return_, 1) := by decide +kernel
theorem dX7_cornerOf_0 : decode cX7_cornerOf 0 = .ok (.aload_n 0, 1) := by decide +kernel
theorem dX7_cornerOf_1 : decode cX7_cornerOf 1 = .ok (.getfield 26, 3) := by decide +kernel
theorem dX7_cornerOf_4 : decode cX7_cornerOf 4 = .ok (.iconst 3, 1) := by decide +kernel
theorem dX7_cornerOf_5 : decode cX7_cornerOf 5 = .ok (.iload_n 1, 1) := by decide +kernel
theorem dX7_cornerOf_6 : decode cX7_cornerOf 6 = .ok (.imul, 1) := by decide +kernel
theorem dX7_cornerOf_7 : decode cX7_cornerOf 7 = .ok (.iload_n 2, 1) := by decide +kernel
theorem dX7_cornerOf_8 : decode cX7_cornerOf 8 = .ok (.iconst 3, 1) := by decide +kernel
theorem dX7_cornerOf_9 : decode cX7_cornerOf 9 = .ok (.irem, 1) := by decide +kernel
theorem dX7_cornerOf_10 : decode cX7_cornerOf 10 = .ok (.iadd, 1) := by decide +kernel
theorem dX7_cornerOf_11 : decode cX7_cornerOf 11 = .ok (.iaload, 1) := by decide +kernel
theorem dX7_cornerOf_12 : decode cX7_cornerOf 12 = .ok (.ireturn, 1) := by decide +kernel
theorem dX7_triangleOf_0 : decode cX7_triangleOf 0 = .ok (.iconst 0, 1) := by decide +kernel
theorem dX7_triangleOf_1 : decode cX7_triangleOf 1 = .ok (.istore 4, 2) := by decide +kernel
theorem dX7_triangleOf_3 : decode cX7_triangleOf 3 = .ok (.iload 4, 2) := by decide +kernel
theorem dX7_triangleOf_5 : decode cX7_triangleOf 5 = .ok (.aload_n 0, 1) := by decide +kernel
theorem dX7_triangleOf_6 : decode cX7_triangleOf 6 = .ok (.getfield 114, 3) := by decide +kernel
theorem dX7_triangleOf_9 : decode cX7_triangleOf 9 = .ok (.if_icmp .ge 67, 3) := by decide +kernel
theorem dX7_triangleOf_12 : decode cX7_triangleOf 12 = .ok (.iconst 0, 1) := by decide +kernel
theorem dX7_triangleOf_13 : decode cX7_triangleOf 13 = .ok (.istore 5, 2) := by decide +kernel
theorem dX7_triangleOf_15 : decode cX7_triangleOf 15 = .ok (.iload 5, 2) := by decide +kernel
theorem dX7_triangleOf_17 : decode cX7_triangleOf 17 = .ok (.iconst 3, 1) := by decide +kernel
theorem dX7_triangleOf_18 : decode cX7_triangleOf 18 = .ok (.if_icmp .ge 52, 3) := by decide +kernel
theorem dX7_triangleOf_21 : decode cX7_triangleOf 21 = .ok (.aload_n 0, 1) := by decide +kernel
theorem dX7_triangleOf_22 : decode cX7_triangleOf 22 = .ok (.iload 4, 2) := by decide +kernel
theorem dX7_triangleOf_24 : decode cX7_triangleOf 24 = .ok (.iload 5, 2) := by decide +kernel
theorem dX7_triangleOf_26 : decode cX7_triangleOf 26 = .ok (.invokevirtual 147, 3) := by decide +kernel
theorem dX7_triangleOf_29 : decode cX7_triangleOf 29 = .ok (.iload_n 1, 1) := by decide +kernel
theorem dX7_triangleOf_30 : decode cX7_triangleOf 30 = .ok (.if_icmp .ne 34, 3) := by decide +kernel
theorem dX7_triangleOf_33 : decode cX7_triangleOf 33 = .ok (.aload_n 0, 1) := by decide +kernel
theorem dX7_triangleOf_34 : decode cX7_triangleOf 34 = .ok (.iload 4, 2) := by decide +kernel
theorem dX7_triangleOf_36 : decode cX7_triangleOf 36 = .ok (.iload 5, 2) := by decide +kernel
theorem dX7_triangleOf_38 : decode cX7_triangleOf 38 = .ok (.iconst 1, 1) := by decide +kernel
theorem dX7_triangleOf_39 : decode cX7_triangleOf 39 = .ok (.iadd, 1) := by decide +kernel
theorem dX7_triangleOf_40 : decode cX7_triangleOf 40 = .ok (.invokevirtual 147, 3) := by decide +kernel
theorem dX7_triangleOf_43 : decode cX7_triangleOf 43 = .ok (.iload_n 2, 1) := by decide +kernel
theorem dX7_triangleOf_44 : decode cX7_triangleOf 44 = .ok (.if_icmp .ne 20, 3) := by decide +kernel
theorem dX7_triangleOf_47 : decode cX7_triangleOf 47 = .ok (.aload_n 0, 1) := by decide +kernel
theorem dX7_triangleOf_48 : decode cX7_triangleOf 48 = .ok (.iload 4, 2) := by decide +kernel
theorem dX7_triangleOf_50 : decode cX7_triangleOf 50 = .ok (.iload 5, 2) := by decide +kernel
theorem dX7_triangleOf_52 : decode cX7_triangleOf 52 = .ok (.iconst 2, 1) := by decide +kernel
theorem dX7_triangleOf_53 : decode cX7_triangleOf 53 = .ok (.iadd, 1) := by decide +kernel
theorem dX7_triangleOf_54 : decode cX7_triangleOf 54 = .ok (.invokevirtual 147, 3) := by decide +kernel
theorem dX7_triangleOf_57 : decode cX7_triangleOf 57 = .ok (.iload_n 3, 1) := by decide +kernel
theorem dX7_triangleOf_58 : decode cX7_triangleOf 58 = .ok (.if_icmp .ne 6, 3) := by decide +kernel
theorem dX7_triangleOf_61 : decode cX7_triangleOf 61 = .ok (.iload 4, 2) := by decide +kernel
theorem dX7_triangleOf_63 : decode cX7_triangleOf 63 = .ok (.ireturn, 1) := by decide +kernel
theorem dX7_triangleOf_64 : decode cX7_triangleOf 64 = .ok (.iinc 5 1, 3) := by decide +kernel
theorem dX7_triangleOf_67 : decode cX7_triangleOf 67 = .ok (.goto (-52), 3) := by decide +kernel
theorem dX7_triangleOf_70 : decode cX7_triangleOf 70 = .ok (.iinc 4 1, 3) := by decide +kernel
theorem dX7_triangleOf_73 : decode cX7_triangleOf 73 = .ok (.goto (-70), 3) := by decide +kernel
theorem dX7_triangleOf_76 : decode cX7_triangleOf 76 = .ok (.iconst (-1), 1) := by decide +kernel
theorem dX7_triangleOf_77 : decode cX7_triangleOf 77 = .ok (.ireturn, 1) := by decide +kernel
theorem dX7_areaOf_0 : decode cX7_areaOf 0 = .ok (.aload_n 0, 1) := by decide +kernel
theorem dX7_areaOf_1 : decode cX7_areaOf 1 = .ok (.iload_n 1, 1) := by decide +kernel
theorem dX7_areaOf_2 : decode cX7_areaOf 2 = .ok (.iconst 0, 1) := by decide +kernel
theorem dX7_areaOf_3 : decode cX7_areaOf 3 = .ok (.invokevirtual 147, 3) := by decide +kernel
theorem dX7_areaOf_6 : decode cX7_areaOf 6 = .ok (.istore_n 2, 1) := by decide +kernel
theorem dX7_areaOf_7 : decode cX7_areaOf 7 = .ok (.aload_n 0, 1) := by decide +kernel
theorem dX7_areaOf_8 : decode cX7_areaOf 8 = .ok (.iload_n 1, 1) := by decide +kernel
theorem dX7_areaOf_9 : decode cX7_areaOf 9 = .ok (.iconst 1, 1) := by decide +kernel
theorem dX7_areaOf_10 : decode cX7_areaOf 10 = .ok (.invokevirtual 147, 3) := by decide +kernel
theorem dX7_areaOf_13 : decode cX7_areaOf 13 = .ok (.istore_n 3, 1) := by decide +kernel
theorem dX7_areaOf_14 : decode cX7_areaOf 14 = .ok (.aload_n 0, 1) := by decide +kernel
theorem dX7_areaOf_15 : decode cX7_areaOf 15 = .ok (.iload_n 1, 1) := by decide +kernel
theorem dX7_areaOf_16 : decode cX7_areaOf 16 = .ok (.iconst 2, 1) := by decide +kernel
theorem dX7_areaOf_17 : decode cX7_areaOf 17 = .ok (.invokevirtual 147, 3) := by decide +kernel
theorem dX7_areaOf_20 : decode cX7_areaOf 20 = .ok (.istore 4, 2) := by decide +kernel
theorem dX7_areaOf_22 : decode cX7_areaOf 22 = .ok (.aload_n 0, 1) := by decide +kernel
theorem dX7_areaOf_23 : decode cX7_areaOf 23 = .ok (.iload_n 3, 1) := by decide +kernel
theorem dX7_areaOf_24 : decode cX7_areaOf 24 = .ok (.invokevirtual 65, 3) := by decide +kernel
theorem dX7_areaOf_27 : decode cX7_areaOf 27 = .ok (.aload_n 0, 1) := by decide +kernel
theorem dX7_areaOf_28 : decode cX7_areaOf 28 = .ok (.iload_n 2, 1) := by decide +kernel
theorem dX7_areaOf_29 : decode cX7_areaOf 29 = .ok (.invokevirtual 65, 3) := by decide +kernel
theorem dX7_areaOf_32 : decode cX7_areaOf 32 = .ok (.isub, 1) := by decide +kernel
theorem dX7_areaOf_33 : decode cX7_areaOf 33 = .ok (.aload_n 0, 1) := by decide +kernel
theorem dX7_areaOf_34 : decode cX7_areaOf 34 = .ok (.iload 4, 2) := by decide +kernel
theorem dX7_areaOf_36 : decode cX7_areaOf 36 = .ok (.invokevirtual 68, 3) := by decide +kernel
theorem dX7_areaOf_39 : decode cX7_areaOf 39 = .ok (.aload_n 0, 1) := by decide +kernel
theorem dX7_areaOf_40 : decode cX7_areaOf 40 = .ok (.iload_n 2, 1) := by decide +kernel
theorem dX7_areaOf_41 : decode cX7_areaOf 41 = .ok (.invokevirtual 68, 3) := by decide +kernel
theorem dX7_areaOf_44 : decode cX7_areaOf 44 = .ok (.isub, 1) := by decide +kernel
theorem dX7_areaOf_45 : decode cX7_areaOf 45 = .ok (.imul, 1) := by decide +kernel
theorem dX7_areaOf_46 : decode cX7_areaOf 46 = .ok (.aload_n 0, 1) := by decide +kernel
theorem dX7_areaOf_47 : decode cX7_areaOf 47 = .ok (.iload_n 3, 1) := by decide +kernel
theorem dX7_areaOf_48 : decode cX7_areaOf 48 = .ok (.invokevirtual 68, 3) := by decide +kernel
theorem dX7_areaOf_51 : decode cX7_areaOf 51 = .ok (.aload_n 0, 1) := by decide +kernel
theorem dX7_areaOf_52 : decode cX7_areaOf 52 = .ok (.iload_n 2, 1) := by decide +kernel
theorem dX7_areaOf_53 : decode cX7_areaOf 53 = .ok (.invokevirtual 68, 3) := by decide +kernel
theorem dX7_areaOf_56 : decode cX7_areaOf 56 = .ok (.isub, 1) := by decide +kernel
theorem dX7_areaOf_57 : decode cX7_areaOf 57 = .ok (.aload_n 0, 1) := by decide +kernel
theorem dX7_areaOf_58 : decode cX7_areaOf 58 = .ok (.iload 4, 2) := by decide +kernel
theorem dX7_areaOf_60 : decode cX7_areaOf 60 = .ok (.invokevirtual 65, 3) := by decide +kernel
theorem dX7_areaOf_63 : decode cX7_areaOf 63 = .ok (.aload_n 0, 1) := by decide +kernel
theorem dX7_areaOf_64 : decode cX7_areaOf 64 = .ok (.iload_n 2, 1) := by decide +kernel
theorem dX7_areaOf_65 : decode cX7_areaOf 65 = .ok (.invokevirtual 65, 3) := by decide +kernel
theorem dX7_areaOf_68 : decode cX7_areaOf 68 = .ok (.isub, 1) := by decide +kernel
theorem dX7_areaOf_69 : decode cX7_areaOf 69 = .ok (.imul, 1) := by decide +kernel
theorem dX7_areaOf_70 : decode cX7_areaOf 70 = .ok (.isub, 1) := by decide +kernel
theorem dX7_areaOf_71 : decode cX7_areaOf 71 = .ok (.ireturn, 1) := by decide +kernel
theorem dX7_edge_0 : decode cX7_edge 0 = .ok (.iconst 0, 1) := by decide +kernel
theorem dX7_edge_1 : decode cX7_edge 1 = .ok (.istore_n 2, 1) := by decide +kernel
theorem dX7_edge_2 : decode cX7_edge 2 = .ok (.iconst 0, 1) := by decide +kernel
theorem dX7_edge_3 : decode cX7_edge 3 = .ok (.istore_n 3, 1) := by decide +kernel
theorem dX7_edge_4 : decode cX7_edge 4 = .ok (.iload_n 3, 1) := by decide +kernel
theorem dX7_edge_5 : decode cX7_edge 5 = .ok (.aload_n 0, 1) := by decide +kernel
theorem dX7_edge_6 : decode cX7_edge 6 = .ok (.invokevirtual 48, 3) := by decide +kernel
theorem dX7_edge_9 : decode cX7_edge 9 = .ok (.if_icmp .ge 70, 3) := by decide +kernel
theorem dX7_edge_12 : decode cX7_edge 12 = .ok (.iload_n 3, 1) := by decide +kernel
theorem dX7_edge_13 : decode cX7_edge 13 = .ok (.iconst 1, 1) := by decide +kernel
theorem dX7_edge_14 : decode cX7_edge 14 = .ok (.iadd, 1) := by decide +kernel
theorem dX7_edge_15 : decode cX7_edge 15 = .ok (.istore 4, 2) := by decide +kernel
theorem dX7_edge_17 : decode cX7_edge 17 = .ok (.iload 4, 2) := by decide +kernel
theorem dX7_edge_19 : decode cX7_edge 19 = .ok (.aload_n 0, 1) := by decide +kernel
theorem dX7_edge_20 : decode cX7_edge 20 = .ok (.invokevirtual 48, 3) := by decide +kernel
theorem dX7_edge_23 : decode cX7_edge 23 = .ok (.if_icmp .ge 50, 3) := by decide +kernel
theorem dX7_edge_26 : decode cX7_edge 26 = .ok (.aload_n 0, 1) := by decide +kernel
theorem dX7_edge_27 : decode cX7_edge 27 = .ok (.iload_n 3, 1) := by decide +kernel
theorem dX7_edge_28 : decode cX7_edge 28 = .ok (.iload 4, 2) := by decide +kernel
theorem dX7_edge_30 : decode cX7_edge 30 = .ok (.invokevirtual 104, 3) := by decide +kernel
theorem dX7_edge_33 : decode cX7_edge 33 = .ok (.ifCond .ne 6, 3) := by decide +kernel
theorem dX7_edge_36 : decode cX7_edge 36 = .ok (.goto 31, 3) := by decide +kernel
theorem dX7_edge_39 : decode cX7_edge 39 = .ok (.iload_n 2, 1) := by decide +kernel
theorem dX7_edge_40 : decode cX7_edge 40 = .ok (.iinc 2 1, 3) := by decide +kernel
theorem dX7_edge_43 : decode cX7_edge 43 = .ok (.iload_n 1, 1) := by decide +kernel
theorem dX7_edge_44 : decode cX7_edge 44 = .ok (.if_icmp .eq 6, 3) := by decide +kernel
theorem dX7_edge_47 : decode cX7_edge 47 = .ok (.goto 20, 3) := by decide +kernel
theorem dX7_edge_50 : decode cX7_edge 50 = .ok (.aload_n 0, 1) := by decide +kernel
theorem dX7_edge_51 : decode cX7_edge 51 = .ok (.getfield 38, 3) := by decide +kernel
theorem dX7_edge_54 : decode cX7_edge 54 = .ok (.iconst 0, 1) := by decide +kernel
theorem dX7_edge_55 : decode cX7_edge 55 = .ok (.iload_n 3, 1) := by decide +kernel
theorem dX7_edge_56 : decode cX7_edge 56 = .ok (.iastore, 1) := by decide +kernel
theorem dX7_edge_57 : decode cX7_edge 57 = .ok (.aload_n 0, 1) := by decide +kernel
theorem dX7_edge_58 : decode cX7_edge 58 = .ok (.getfield 38, 3) := by decide +kernel
theorem dX7_edge_61 : decode cX7_edge 61 = .ok (.iconst 1, 1) := by decide +kernel
theorem dX7_edge_62 : decode cX7_edge 62 = .ok (.iload 4, 2) := by decide +kernel
theorem dX7_edge_64 : decode cX7_edge 64 = .ok (.iastore, 1) := by decide +kernel
theorem dX7_edge_65 : decode cX7_edge 65 = .ok (.iconst 1, 1) := by decide +kernel
theorem dX7_edge_66 : decode cX7_edge 66 = .ok (.ireturn, 1) := by decide +kernel
theorem dX7_edge_67 : decode cX7_edge 67 = .ok (.iinc 4 1, 3) := by decide +kernel
theorem dX7_edge_70 : decode cX7_edge 70 = .ok (.goto (-53), 3) := by decide +kernel
theorem dX7_edge_73 : decode cX7_edge 73 = .ok (.iinc 3 1, 3) := by decide +kernel
theorem dX7_edge_76 : decode cX7_edge 76 = .ok (.goto (-72), 3) := by decide +kernel
theorem dX7_edge_79 : decode cX7_edge 79 = .ok (.iconst 0, 1) := by decide +kernel
theorem dX7_edge_80 : decode cX7_edge 80 = .ok (.ireturn, 1) := by decide +kernel
theorem dX7_numberOf_0 : decode cX7_numberOf 0 = .ok (.iconst 0, 1) := by decide +kernel
theorem dX7_numberOf_1 : decode cX7_numberOf 1 = .ok (.istore_n 3, 1) := by decide +kernel
theorem dX7_numberOf_2 : decode cX7_numberOf 2 = .ok (.iconst 0, 1) := by decide +kernel
theorem dX7_numberOf_3 : decode cX7_numberOf 3 = .ok (.istore 4, 2) := by decide +kernel
theorem dX7_numberOf_5 : decode cX7_numberOf 5 = .ok (.iload 4, 2) := by decide +kernel
theorem dX7_numberOf_7 : decode cX7_numberOf 7 = .ok (.aload_n 0, 1) := by decide +kernel
theorem dX7_numberOf_8 : decode cX7_numberOf 8 = .ok (.invokevirtual 48, 3) := by decide +kernel
theorem dX7_numberOf_11 : decode cX7_numberOf 11 = .ok (.if_icmp .ge 69, 3) := by decide +kernel
theorem dX7_numberOf_14 : decode cX7_numberOf 14 = .ok (.iload 4, 2) := by decide +kernel
theorem dX7_numberOf_16 : decode cX7_numberOf 16 = .ok (.iconst 1, 1) := by decide +kernel
theorem dX7_numberOf_17 : decode cX7_numberOf 17 = .ok (.iadd, 1) := by decide +kernel
theorem dX7_numberOf_18 : decode cX7_numberOf 18 = .ok (.istore 5, 2) := by decide +kernel
theorem dX7_numberOf_20 : decode cX7_numberOf 20 = .ok (.iload 5, 2) := by decide +kernel
theorem dX7_numberOf_22 : decode cX7_numberOf 22 = .ok (.aload_n 0, 1) := by decide +kernel
theorem dX7_numberOf_23 : decode cX7_numberOf 23 = .ok (.invokevirtual 48, 3) := by decide +kernel
theorem dX7_numberOf_26 : decode cX7_numberOf 26 = .ok (.if_icmp .ge 48, 3) := by decide +kernel
theorem dX7_numberOf_29 : decode cX7_numberOf 29 = .ok (.aload_n 0, 1) := by decide +kernel
theorem dX7_numberOf_30 : decode cX7_numberOf 30 = .ok (.iload 4, 2) := by decide +kernel
theorem dX7_numberOf_32 : decode cX7_numberOf 32 = .ok (.iload 5, 2) := by decide +kernel
theorem dX7_numberOf_34 : decode cX7_numberOf 34 = .ok (.invokevirtual 104, 3) := by decide +kernel
theorem dX7_numberOf_37 : decode cX7_numberOf 37 = .ok (.ifCond .ne 6, 3) := by decide +kernel
theorem dX7_numberOf_40 : decode cX7_numberOf 40 = .ok (.goto 28, 3) := by decide +kernel
theorem dX7_numberOf_43 : decode cX7_numberOf 43 = .ok (.iload 4, 2) := by decide +kernel
theorem dX7_numberOf_45 : decode cX7_numberOf 45 = .ok (.iload_n 1, 1) := by decide +kernel
theorem dX7_numberOf_46 : decode cX7_numberOf 46 = .ok (.iload_n 2, 1) := by decide +kernel
theorem dX7_numberOf_47 : decode cX7_numberOf 47 = .ok (.invokestatic 83, 3) := by decide +kernel
theorem dX7_numberOf_50 : decode cX7_numberOf 50 = .ok (.if_icmp .ne 15, 3) := by decide +kernel
theorem dX7_numberOf_53 : decode cX7_numberOf 53 = .ok (.iload 5, 2) := by decide +kernel
theorem dX7_numberOf_55 : decode cX7_numberOf 55 = .ok (.iload_n 1, 1) := by decide +kernel
theorem dX7_numberOf_56 : decode cX7_numberOf 56 = .ok (.iload_n 2, 1) := by decide +kernel
theorem dX7_numberOf_57 : decode cX7_numberOf 57 = .ok (.invokestatic 89, 3) := by decide +kernel
theorem dX7_numberOf_60 : decode cX7_numberOf 60 = .ok (.if_icmp .ne 5, 3) := by decide +kernel
theorem dX7_numberOf_63 : decode cX7_numberOf 63 = .ok (.iload_n 3, 1) := by decide +kernel
theorem dX7_numberOf_64 : decode cX7_numberOf 64 = .ok (.ireturn, 1) := by decide +kernel
theorem dX7_numberOf_65 : decode cX7_numberOf 65 = .ok (.iinc 3 1, 3) := by decide +kernel
theorem dX7_numberOf_68 : decode cX7_numberOf 68 = .ok (.iinc 5 1, 3) := by decide +kernel
theorem dX7_numberOf_71 : decode cX7_numberOf 71 = .ok (.goto (-51), 3) := by decide +kernel
theorem dX7_numberOf_74 : decode cX7_numberOf 74 = .ok (.iinc 4 1, 3) := by decide +kernel
theorem dX7_numberOf_77 : decode cX7_numberOf 77 = .ok (.goto (-72), 3) := by decide +kernel
theorem dX7_numberOf_80 : decode cX7_numberOf 80 = .ok (.iconst (-1), 1) := by decide +kernel
theorem dX7_numberOf_81 : decode cX7_numberOf 81 = .ok (.ireturn, 1) := by decide +kernel
theorem dX7_edgeTotal_0 : decode cX7_edgeTotal 0 = .ok (.iconst 0, 1) := by decide +kernel
theorem dX7_edgeTotal_1 : decode cX7_edgeTotal 1 = .ok (.istore_n 1, 1) := by decide +kernel
theorem dX7_edgeTotal_2 : decode cX7_edgeTotal 2 = .ok (.iconst 0, 1) := by decide +kernel
theorem dX7_edgeTotal_3 : decode cX7_edgeTotal 3 = .ok (.istore_n 2, 1) := by decide +kernel
theorem dX7_edgeTotal_4 : decode cX7_edgeTotal 4 = .ok (.iload_n 2, 1) := by decide +kernel
theorem dX7_edgeTotal_5 : decode cX7_edgeTotal 5 = .ok (.aload_n 0, 1) := by decide +kernel
theorem dX7_edgeTotal_6 : decode cX7_edgeTotal 6 = .ok (.invokevirtual 48, 3) := by decide +kernel
theorem dX7_edgeTotal_9 : decode cX7_edgeTotal 9 = .ok (.if_icmp .ge 39, 3) := by decide +kernel
theorem dX7_edgeTotal_12 : decode cX7_edgeTotal 12 = .ok (.iload_n 2, 1) := by decide +kernel
theorem dX7_edgeTotal_13 : decode cX7_edgeTotal 13 = .ok (.iconst 1, 1) := by decide +kernel
theorem dX7_edgeTotal_14 : decode cX7_edgeTotal 14 = .ok (.iadd, 1) := by decide +kernel
theorem dX7_edgeTotal_15 : decode cX7_edgeTotal 15 = .ok (.istore_n 3, 1) := by decide +kernel
theorem dX7_edgeTotal_16 : decode cX7_edgeTotal 16 = .ok (.iload_n 3, 1) := by decide +kernel
theorem dX7_edgeTotal_17 : decode cX7_edgeTotal 17 = .ok (.aload_n 0, 1) := by decide +kernel
theorem dX7_edgeTotal_18 : decode cX7_edgeTotal 18 = .ok (.invokevirtual 48, 3) := by decide +kernel
theorem dX7_edgeTotal_21 : decode cX7_edgeTotal 21 = .ok (.if_icmp .ge 21, 3) := by decide +kernel
theorem dX7_edgeTotal_24 : decode cX7_edgeTotal 24 = .ok (.aload_n 0, 1) := by decide +kernel
theorem dX7_edgeTotal_25 : decode cX7_edgeTotal 25 = .ok (.iload_n 2, 1) := by decide +kernel
theorem dX7_edgeTotal_26 : decode cX7_edgeTotal 26 = .ok (.iload_n 3, 1) := by decide +kernel
theorem dX7_edgeTotal_27 : decode cX7_edgeTotal 27 = .ok (.invokevirtual 104, 3) := by decide +kernel
theorem dX7_edgeTotal_30 : decode cX7_edgeTotal 30 = .ok (.ifCond .eq 6, 3) := by decide +kernel
theorem dX7_edgeTotal_33 : decode cX7_edgeTotal 33 = .ok (.iinc 1 1, 3) := by decide +kernel
theorem dX7_edgeTotal_36 : decode cX7_edgeTotal 36 = .ok (.iinc 3 1, 3) := by decide +kernel
theorem dX7_edgeTotal_39 : decode cX7_edgeTotal 39 = .ok (.goto (-23), 3) := by decide +kernel
theorem dX7_edgeTotal_42 : decode cX7_edgeTotal 42 = .ok (.iinc 2 1, 3) := by decide +kernel
theorem dX7_edgeTotal_45 : decode cX7_edgeTotal 45 = .ok (.goto (-41), 3) := by decide +kernel
theorem dX7_edgeTotal_48 : decode cX7_edgeTotal 48 = .ok (.iload_n 1, 1) := by decide +kernel
theorem dX7_edgeTotal_49 : decode cX7_edgeTotal 49 = .ok (.ireturn, 1) := by decide +kernel
theorem dX7_records_0 : decode cX7_records 0 = .ok (.aload_n 0, 1) := by decide +kernel
theorem dX7_records_1 : decode cX7_records 1 = .ok (.getfield 150, 3) := by decide +kernel
theorem dX7_records_4 : decode cX7_records 4 = .ok (.bipush 12, 2) := by decide +kernel
theorem dX7_records_6 : decode cX7_records 6 = .ok (.if_icmp .ne 43, 3) := by decide +kernel
theorem dX7_records_9 : decode cX7_records 9 = .ok (.iconst 0, 1) := by decide +kernel
theorem dX7_records_10 : decode cX7_records 10 = .ok (.istore_n 1, 1) := by decide +kernel
theorem dX7_records_11 : decode cX7_records 11 = .ok (.iload_n 1, 1) := by decide +kernel
theorem dX7_records_12 : decode cX7_records 12 = .ok (.sipush 616, 3) := by decide +kernel
theorem dX7_records_15 : decode cX7_records 15 = .ok (.if_icmp .ge 24, 3) := by decide +kernel
theorem dX7_records_18 : decode cX7_records 18 = .ok (.aload_n 0, 1) := by decide +kernel
theorem dX7_records_19 : decode cX7_records 19 = .ok (.getfield 13, 3) := by decide +kernel
theorem dX7_records_22 : decode cX7_records 22 = .ok (.iload_n 1, 1) := by decide +kernel
theorem dX7_records_23 : decode cX7_records 23 = .ok (.aload_n 0, 1) := by decide +kernel
theorem dX7_records_24 : decode cX7_records 24 = .ok (.getfield 13, 3) := by decide +kernel
theorem dX7_records_27 : decode cX7_records 27 = .ok (.bipush 56, 2) := by decide +kernel
theorem dX7_records_29 : decode cX7_records 29 = .ok (.iload_n 1, 1) := by decide +kernel
theorem dX7_records_30 : decode cX7_records 30 = .ok (.iadd, 1) := by decide +kernel
theorem dX7_records_31 : decode cX7_records 31 = .ok (.iaload, 1) := by decide +kernel
theorem dX7_records_32 : decode cX7_records 32 = .ok (.iastore, 1) := by decide +kernel
theorem dX7_records_33 : decode cX7_records 33 = .ok (.iinc 1 1, 3) := by decide +kernel
theorem dX7_records_36 : decode cX7_records 36 = .ok (.goto (-25), 3) := by decide +kernel
theorem dX7_records_39 : decode cX7_records 39 = .ok (.aload_n 0, 1) := by decide +kernel
theorem dX7_records_40 : decode cX7_records 40 = .ok (.dup, 1) := by decide +kernel
theorem dX7_records_41 : decode cX7_records 41 = .ok (.getfield 150, 3) := by decide +kernel
theorem dX7_records_44 : decode cX7_records 44 = .ok (.iconst 1, 1) := by decide +kernel
theorem dX7_records_45 : decode cX7_records 45 = .ok (.isub, 1) := by decide +kernel
theorem dX7_records_46 : decode cX7_records 46 = .ok (.putfield 150, 3) := by decide +kernel
theorem dX7_records_49 : decode cX7_records 49 = .ok (.iconst 0, 1) := by decide +kernel
theorem dX7_records_50 : decode cX7_records 50 = .ok (.istore_n 1, 1) := by decide +kernel
theorem dX7_records_51 : decode cX7_records 51 = .ok (.iload_n 1, 1) := by decide +kernel
theorem dX7_records_52 : decode cX7_records 52 = .ok (.bipush 56, 2) := by decide +kernel
theorem dX7_records_54 : decode cX7_records 54 = .ok (.if_icmp .ge 29, 3) := by decide +kernel
theorem dX7_records_57 : decode cX7_records 57 = .ok (.aload_n 0, 1) := by decide +kernel
theorem dX7_records_58 : decode cX7_records 58 = .ok (.getfield 13, 3) := by decide +kernel
theorem dX7_records_61 : decode cX7_records 61 = .ok (.bipush 56, 2) := by decide +kernel
theorem dX7_records_63 : decode cX7_records 63 = .ok (.aload_n 0, 1) := by decide +kernel
theorem dX7_records_64 : decode cX7_records 64 = .ok (.getfield 150, 3) := by decide +kernel
theorem dX7_records_67 : decode cX7_records 67 = .ok (.imul, 1) := by decide +kernel
theorem dX7_records_68 : decode cX7_records 68 = .ok (.iload_n 1, 1) := by decide +kernel
theorem dX7_records_69 : decode cX7_records 69 = .ok (.iadd, 1) := by decide +kernel
theorem dX7_records_70 : decode cX7_records 70 = .ok (.aload_n 0, 1) := by decide +kernel
theorem dX7_records_71 : decode cX7_records 71 = .ok (.getfield 9, 3) := by decide +kernel
theorem dX7_records_74 : decode cX7_records 74 = .ok (.iload_n 1, 1) := by decide +kernel
theorem dX7_records_75 : decode cX7_records 75 = .ok (.iaload, 1) := by decide +kernel
theorem dX7_records_76 : decode cX7_records 76 = .ok (.iastore, 1) := by decide +kernel
theorem dX7_records_77 : decode cX7_records 77 = .ok (.iinc 1 1, 3) := by decide +kernel
theorem dX7_records_80 : decode cX7_records 80 = .ok (.goto (-29), 3) := by decide +kernel
theorem dX7_records_83 : decode cX7_records 83 = .ok (.aload_n 0, 1) := by decide +kernel
theorem dX7_records_84 : decode cX7_records 84 = .ok (.dup, 1) := by decide +kernel
theorem dX7_records_85 : decode cX7_records 85 = .ok (.getfield 150, 3) := by decide +kernel
theorem dX7_records_88 : decode cX7_records 88 = .ok (.iconst 1, 1) := by decide +kernel
theorem dX7_records_89 : decode cX7_records 89 = .ok (.iadd, 1) := by decide +kernel
theorem dX7_records_90 : decode cX7_records 90 = .ok (.putfield 150, 3) := by decide +kernel
theorem dX7_records_93 : decode cX7_records 93 = .ok (.return_, 1) := by decide +kernel
theorem dX7_isBarred_0 : decode cX7_isBarred 0 = .ok (.iconst 0, 1) := by decide +kernel
theorem dX7_isBarred_1 : decode cX7_isBarred 1 = .ok (.istore 4, 2) := by decide +kernel
theorem dX7_isBarred_3 : decode cX7_isBarred 3 = .ok (.iload 4, 2) := by decide +kernel
theorem dX7_isBarred_5 : decode cX7_isBarred 5 = .ok (.aload_n 0, 1) := by decide +kernel
theorem dX7_isBarred_6 : decode cX7_isBarred 6 = .ok (.invokevirtual 48, 3) := by decide +kernel
theorem dX7_isBarred_9 : decode cX7_isBarred 9 = .ok (.if_icmp .ge 37, 3) := by decide +kernel
theorem dX7_isBarred_12 : decode cX7_isBarred 12 = .ok (.iload 4, 2) := by decide +kernel
theorem dX7_isBarred_14 : decode cX7_isBarred 14 = .ok (.iload_n 1, 1) := by decide +kernel
theorem dX7_isBarred_15 : decode cX7_isBarred 15 = .ok (.if_icmp .eq 25, 3) := by decide +kernel
theorem dX7_isBarred_18 : decode cX7_isBarred 18 = .ok (.aload_n 0, 1) := by decide +kernel
theorem dX7_isBarred_19 : decode cX7_isBarred 19 = .ok (.iload 4, 2) := by decide +kernel
theorem dX7_isBarred_21 : decode cX7_isBarred 21 = .ok (.invokevirtual 65, 3) := by decide +kernel
theorem dX7_isBarred_24 : decode cX7_isBarred 24 = .ok (.iload_n 2, 1) := by decide +kernel
theorem dX7_isBarred_25 : decode cX7_isBarred 25 = .ok (.if_icmp .ne 15, 3) := by decide +kernel
theorem dX7_isBarred_28 : decode cX7_isBarred 28 = .ok (.aload_n 0, 1) := by decide +kernel
theorem dX7_isBarred_29 : decode cX7_isBarred 29 = .ok (.iload 4, 2) := by decide +kernel
theorem dX7_isBarred_31 : decode cX7_isBarred 31 = .ok (.invokevirtual 68, 3) := by decide +kernel
theorem dX7_isBarred_34 : decode cX7_isBarred 34 = .ok (.iload_n 3, 1) := by decide +kernel
theorem dX7_isBarred_35 : decode cX7_isBarred 35 = .ok (.if_icmp .ne 5, 3) := by decide +kernel
theorem dX7_isBarred_38 : decode cX7_isBarred 38 = .ok (.iconst 1, 1) := by decide +kernel
theorem dX7_isBarred_39 : decode cX7_isBarred 39 = .ok (.ireturn, 1) := by decide +kernel
theorem dX7_isBarred_40 : decode cX7_isBarred 40 = .ok (.iinc 4 1, 3) := by decide +kernel
theorem dX7_isBarred_43 : decode cX7_isBarred 43 = .ok (.goto (-40), 3) := by decide +kernel
theorem dX7_isBarred_46 : decode cX7_isBarred 46 = .ok (.iconst 0, 1) := by decide +kernel
theorem dX7_isBarred_47 : decode cX7_isBarred 47 = .ok (.istore 4, 2) := by decide +kernel
theorem dX7_isBarred_49 : decode cX7_isBarred 49 = .ok (.iload 4, 2) := by decide +kernel
theorem dX7_isBarred_51 : decode cX7_isBarred 51 = .ok (.aload_n 0, 1) := by decide +kernel
theorem dX7_isBarred_52 : decode cX7_isBarred 52 = .ok (.invokevirtual 56, 3) := by decide +kernel
theorem dX7_isBarred_55 : decode cX7_isBarred 55 = .ok (.if_icmp .ge 34, 3) := by decide +kernel
theorem dX7_isBarred_58 : decode cX7_isBarred 58 = .ok (.aload_n 0, 1) := by decide +kernel
theorem dX7_isBarred_59 : decode cX7_isBarred 59 = .ok (.aload_n 0, 1) := by decide +kernel
theorem dX7_isBarred_60 : decode cX7_isBarred 60 = .ok (.iload 4, 2) := by decide +kernel
theorem dX7_isBarred_62 : decode cX7_isBarred 62 = .ok (.iconst 0, 1) := by decide +kernel
theorem dX7_isBarred_63 : decode cX7_isBarred 63 = .ok (.invokevirtual 101, 3) := by decide +kernel
theorem dX7_isBarred_66 : decode cX7_isBarred 66 = .ok (.aload_n 0, 1) := by decide +kernel
theorem dX7_isBarred_67 : decode cX7_isBarred 67 = .ok (.iload 4, 2) := by decide +kernel
theorem dX7_isBarred_69 : decode cX7_isBarred 69 = .ok (.iconst 1, 1) := by decide +kernel
theorem dX7_isBarred_70 : decode cX7_isBarred 70 = .ok (.invokevirtual 101, 3) := by decide +kernel
theorem dX7_isBarred_73 : decode cX7_isBarred 73 = .ok (.iload_n 2, 1) := by decide +kernel
theorem dX7_isBarred_74 : decode cX7_isBarred 74 = .ok (.iload_n 3, 1) := by decide +kernel
theorem dX7_isBarred_75 : decode cX7_isBarred 75 = .ok (.invokevirtual 75, 3) := by decide +kernel
theorem dX7_isBarred_78 : decode cX7_isBarred 78 = .ok (.ifCond .eq 5, 3) := by decide +kernel
theorem dX7_isBarred_81 : decode cX7_isBarred 81 = .ok (.iconst 1, 1) := by decide +kernel
theorem dX7_isBarred_82 : decode cX7_isBarred 82 = .ok (.ireturn, 1) := by decide +kernel
theorem dX7_isBarred_83 : decode cX7_isBarred 83 = .ok (.iinc 4 1, 3) := by decide +kernel
theorem dX7_isBarred_86 : decode cX7_isBarred 86 = .ok (.goto (-37), 3) := by decide +kernel
theorem dX7_isBarred_89 : decode cX7_isBarred 89 = .ok (.iconst 0, 1) := by decide +kernel
theorem dX7_isBarred_90 : decode cX7_isBarred 90 = .ok (.ireturn, 1) := by decide +kernel
theorem dX7_isEnd_0 : decode cX7_isEnd 0 = .ok (.iconst 0, 1) := by decide +kernel
theorem dX7_isEnd_1 : decode cX7_isEnd 1 = .ok (.istore_n 2, 1) := by decide +kernel
theorem dX7_isEnd_2 : decode cX7_isEnd 2 = .ok (.iload_n 2, 1) := by decide +kernel
theorem dX7_isEnd_3 : decode cX7_isEnd 3 = .ok (.aload_n 0, 1) := by decide +kernel
theorem dX7_isEnd_4 : decode cX7_isEnd 4 = .ok (.invokevirtual 56, 3) := by decide +kernel
theorem dX7_isEnd_7 : decode cX7_isEnd 7 = .ok (.if_icmp .ge 31, 3) := by decide +kernel
theorem dX7_isEnd_10 : decode cX7_isEnd 10 = .ok (.aload_n 0, 1) := by decide +kernel
theorem dX7_isEnd_11 : decode cX7_isEnd 11 = .ok (.iload_n 2, 1) := by decide +kernel
theorem dX7_isEnd_12 : decode cX7_isEnd 12 = .ok (.iconst 0, 1) := by decide +kernel
theorem dX7_isEnd_13 : decode cX7_isEnd 13 = .ok (.invokevirtual 101, 3) := by decide +kernel
theorem dX7_isEnd_16 : decode cX7_isEnd 16 = .ok (.iload_n 1, 1) := by decide +kernel
theorem dX7_isEnd_17 : decode cX7_isEnd 17 = .ok (.if_icmp .eq 13, 3) := by decide +kernel
theorem dX7_isEnd_20 : decode cX7_isEnd 20 = .ok (.aload_n 0, 1) := by decide +kernel
theorem dX7_isEnd_21 : decode cX7_isEnd 21 = .ok (.iload_n 2, 1) := by decide +kernel
theorem dX7_isEnd_22 : decode cX7_isEnd 22 = .ok (.iconst 1, 1) := by decide +kernel
theorem dX7_isEnd_23 : decode cX7_isEnd 23 = .ok (.invokevirtual 101, 3) := by decide +kernel
theorem dX7_isEnd_26 : decode cX7_isEnd 26 = .ok (.iload_n 1, 1) := by decide +kernel
theorem dX7_isEnd_27 : decode cX7_isEnd 27 = .ok (.if_icmp .ne 5, 3) := by decide +kernel
theorem dX7_isEnd_30 : decode cX7_isEnd 30 = .ok (.iconst 1, 1) := by decide +kernel
theorem dX7_isEnd_31 : decode cX7_isEnd 31 = .ok (.ireturn, 1) := by decide +kernel
theorem dX7_isEnd_32 : decode cX7_isEnd 32 = .ok (.iinc 2 1, 3) := by decide +kernel
theorem dX7_isEnd_35 : decode cX7_isEnd 35 = .ok (.goto (-33), 3) := by decide +kernel
theorem dX7_isEnd_38 : decode cX7_isEnd 38 = .ok (.iconst 0, 1) := by decide +kernel
theorem dX7_isEnd_39 : decode cX7_isEnd 39 = .ok (.ireturn, 1) := by decide +kernel
theorem dX7_whyNot_0 : decode cX7_whyNot 0 = .ok (.iload_n 1, 1) := by decide +kernel
theorem dX7_whyNot_1 : decode cX7_whyNot 1 = .ok (.iload_n 2, 1) := by decide +kernel
theorem dX7_whyNot_2 : decode cX7_whyNot 2 = .ok (.invokestatic 153, 3) := by decide +kernel
theorem dX7_whyNot_5 : decode cX7_whyNot 5 = .ok (.ifCond .ne 5, 3) := by decide +kernel
theorem dX7_whyNot_8 : decode cX7_whyNot 8 = .ok (.iconst 1, 1) := by decide +kernel
theorem dX7_whyNot_9 : decode cX7_whyNot 9 = .ok (.ireturn, 1) := by decide +kernel
theorem dX7_whyNot_10 : decode cX7_whyNot 10 = .ok (.aload_n 0, 1) := by decide +kernel
theorem dX7_whyNot_11 : decode cX7_whyNot 11 = .ok (.invokevirtual 48, 3) := by decide +kernel
theorem dX7_whyNot_14 : decode cX7_whyNot 14 = .ok (.bipush 16, 2) := by decide +kernel
theorem dX7_whyNot_16 : decode cX7_whyNot 16 = .ok (.if_icmp .ne 5, 3) := by decide +kernel
theorem dX7_whyNot_19 : decode cX7_whyNot 19 = .ok (.iconst 2, 1) := by decide +kernel
theorem dX7_whyNot_20 : decode cX7_whyNot 20 = .ok (.ireturn, 1) := by decide +kernel
theorem dX7_whyNot_21 : decode cX7_whyNot 21 = .ok (.aload_n 0, 1) := by decide +kernel
theorem dX7_whyNot_22 : decode cX7_whyNot 22 = .ok (.iconst (-1), 1) := by decide +kernel
theorem dX7_whyNot_23 : decode cX7_whyNot 23 = .ok (.iload_n 1, 1) := by decide +kernel
theorem dX7_whyNot_24 : decode cX7_whyNot 24 = .ok (.iload_n 2, 1) := by decide +kernel
theorem dX7_whyNot_25 : decode cX7_whyNot 25 = .ok (.invokevirtual 156, 3) := by decide +kernel
theorem dX7_whyNot_28 : decode cX7_whyNot 28 = .ok (.ifCond .eq 7, 3) := by decide +kernel
theorem dX7_whyNot_31 : decode cX7_whyNot 31 = .ok (.iconst 3, 1) := by decide +kernel
theorem dX7_whyNot_32 : decode cX7_whyNot 32 = .ok (.goto 4, 3) := by decide +kernel
theorem dX7_whyNot_35 : decode cX7_whyNot 35 = .ok (.iconst 0, 1) := by decide +kernel
theorem dX7_whyNot_36 : decode cX7_whyNot 36 = .ok (.ireturn, 1) := by decide +kernel
theorem dX7_sets_0 : decode cX7_sets 0 = .ok (.aload_n 0, 1) := by decide +kernel
theorem dX7_sets_1 : decode cX7_sets 1 = .ok (.getfield 9, 3) := by decide +kernel
theorem dX7_sets_4 : decode cX7_sets 4 = .ok (.iconst 2, 1) := by decide +kernel
theorem dX7_sets_5 : decode cX7_sets 5 = .ok (.iload_n 1, 1) := by decide +kernel
theorem dX7_sets_6 : decode cX7_sets 6 = .ok (.iadd, 1) := by decide +kernel
theorem dX7_sets_7 : decode cX7_sets 7 = .ok (.iload_n 2, 1) := by decide +kernel
theorem dX7_sets_8 : decode cX7_sets 8 = .ok (.iastore, 1) := by decide +kernel
theorem dX7_sets_9 : decode cX7_sets 9 = .ok (.aload_n 0, 1) := by decide +kernel
theorem dX7_sets_10 : decode cX7_sets 10 = .ok (.getfield 9, 3) := by decide +kernel
theorem dX7_sets_13 : decode cX7_sets 13 = .ok (.bipush 19, 2) := by decide +kernel
theorem dX7_sets_15 : decode cX7_sets 15 = .ok (.iload_n 1, 1) := by decide +kernel
theorem dX7_sets_16 : decode cX7_sets 16 = .ok (.iadd, 1) := by decide +kernel
theorem dX7_sets_17 : decode cX7_sets 17 = .ok (.iload_n 3, 1) := by decide +kernel
theorem dX7_sets_18 : decode cX7_sets 18 = .ok (.iastore, 1) := by decide +kernel
theorem dX7_sets_19 : decode cX7_sets 19 = .ok (.return_, 1) := by decide +kernel
theorem dX7_addPoint_0 : decode cX7_addPoint 0 = .ok (.aload_n 0, 1) := by decide +kernel
theorem dX7_addPoint_1 : decode cX7_addPoint 1 = .ok (.aload_n 0, 1) := by decide +kernel
theorem dX7_addPoint_2 : decode cX7_addPoint 2 = .ok (.iload_n 1, 1) := by decide +kernel
theorem dX7_addPoint_3 : decode cX7_addPoint 3 = .ok (.iload_n 2, 1) := by decide +kernel
theorem dX7_addPoint_4 : decode cX7_addPoint 4 = .ok (.invokevirtual 159, 3) := by decide +kernel
theorem dX7_addPoint_7 : decode cX7_addPoint 7 = .ok (.putfield 44, 3) := by decide +kernel
theorem dX7_addPoint_10 : decode cX7_addPoint 10 = .ok (.aload_n 0, 1) := by decide +kernel
theorem dX7_addPoint_11 : decode cX7_addPoint 11 = .ok (.getfield 44, 3) := by decide +kernel
theorem dX7_addPoint_14 : decode cX7_addPoint 14 = .ok (.ifCond .le 5, 3) := by decide +kernel
theorem dX7_addPoint_17 : decode cX7_addPoint 17 = .ok (.iconst 0, 1) := by decide +kernel
theorem dX7_addPoint_18 : decode cX7_addPoint 18 = .ok (.ireturn, 1) := by decide +kernel
theorem dX7_addPoint_19 : decode cX7_addPoint 19 = .ok (.aload_n 0, 1) := by decide +kernel
theorem dX7_addPoint_20 : decode cX7_addPoint 20 = .ok (.invokevirtual 162, 3) := by decide +kernel
theorem dX7_addPoint_23 : decode cX7_addPoint 23 = .ok (.aload_n 0, 1) := by decide +kernel
theorem dX7_addPoint_24 : decode cX7_addPoint 24 = .ok (.aload_n 0, 1) := by decide +kernel
theorem dX7_addPoint_25 : decode cX7_addPoint 25 = .ok (.invokevirtual 48, 3) := by decide +kernel
theorem dX7_addPoint_28 : decode cX7_addPoint 28 = .ok (.iload_n 1, 1) := by decide +kernel
theorem dX7_addPoint_29 : decode cX7_addPoint 29 = .ok (.iload_n 2, 1) := by decide +kernel
theorem dX7_addPoint_30 : decode cX7_addPoint 30 = .ok (.invokevirtual 165, 3) := by decide +kernel
theorem dX7_addPoint_33 : decode cX7_addPoint 33 = .ok (.aload_n 0, 1) := by decide +kernel
theorem dX7_addPoint_34 : decode cX7_addPoint 34 = .ok (.getfield 9, 3) := by decide +kernel
theorem dX7_addPoint_37 : decode cX7_addPoint 37 = .ok (.iconst 0, 1) := by decide +kernel
theorem dX7_addPoint_38 : decode cX7_addPoint 38 = .ok (.dup2, 1) := by decide +kernel
theorem dX7_addPoint_39 : decode cX7_addPoint 39 = .ok (.iaload, 1) := by decide +kernel
theorem dX7_addPoint_40 : decode cX7_addPoint 40 = .ok (.dup_x2, 1) := by decide +kernel
theorem dX7_addPoint_41 : decode cX7_addPoint 41 = .ok (.iconst 1, 1) := by decide +kernel
theorem dX7_addPoint_42 : decode cX7_addPoint 42 = .ok (.iadd, 1) := by decide +kernel
theorem dX7_addPoint_43 : decode cX7_addPoint 43 = .ok (.iastore, 1) := by decide +kernel
theorem dX7_addPoint_44 : decode cX7_addPoint 44 = .ok (.ireturn, 1) := by decide +kernel
theorem dX7_drops_0 : decode cX7_drops 0 = .ok (.iload_n 1, 1) := by decide +kernel
theorem dX7_drops_1 : decode cX7_drops 1 = .ok (.istore_n 2, 1) := by decide +kernel
theorem dX7_drops_2 : decode cX7_drops 2 = .ok (.iload_n 2, 1) := by decide +kernel
theorem dX7_drops_3 : decode cX7_drops 3 = .ok (.iconst 1, 1) := by decide +kernel
theorem dX7_drops_4 : decode cX7_drops 4 = .ok (.iadd, 1) := by decide +kernel
theorem dX7_drops_5 : decode cX7_drops 5 = .ok (.aload_n 0, 1) := by decide +kernel
theorem dX7_drops_6 : decode cX7_drops 6 = .ok (.invokevirtual 48, 3) := by decide +kernel
theorem dX7_drops_9 : decode cX7_drops 9 = .ok (.if_icmp .ge 28, 3) := by decide +kernel
theorem dX7_drops_12 : decode cX7_drops 12 = .ok (.aload_n 0, 1) := by decide +kernel
theorem dX7_drops_13 : decode cX7_drops 13 = .ok (.iload_n 2, 1) := by decide +kernel
theorem dX7_drops_14 : decode cX7_drops 14 = .ok (.aload_n 0, 1) := by decide +kernel
theorem dX7_drops_15 : decode cX7_drops 15 = .ok (.iload_n 2, 1) := by decide +kernel
theorem dX7_drops_16 : decode cX7_drops 16 = .ok (.iconst 1, 1) := by decide +kernel
theorem dX7_drops_17 : decode cX7_drops 17 = .ok (.iadd, 1) := by decide +kernel
theorem dX7_drops_18 : decode cX7_drops 18 = .ok (.invokevirtual 65, 3) := by decide +kernel
theorem dX7_drops_21 : decode cX7_drops 21 = .ok (.aload_n 0, 1) := by decide +kernel
theorem dX7_drops_22 : decode cX7_drops 22 = .ok (.iload_n 2, 1) := by decide +kernel
theorem dX7_drops_23 : decode cX7_drops 23 = .ok (.iconst 1, 1) := by decide +kernel
theorem dX7_drops_24 : decode cX7_drops 24 = .ok (.iadd, 1) := by decide +kernel
theorem dX7_drops_25 : decode cX7_drops 25 = .ok (.invokevirtual 68, 3) := by decide +kernel
theorem dX7_drops_28 : decode cX7_drops 28 = .ok (.invokevirtual 165, 3) := by decide +kernel
theorem dX7_drops_31 : decode cX7_drops 31 = .ok (.iinc 2 1, 3) := by decide +kernel
theorem dX7_drops_34 : decode cX7_drops 34 = .ok (.goto (-32), 3) := by decide +kernel
theorem dX7_drops_37 : decode cX7_drops 37 = .ok (.aload_n 0, 1) := by decide +kernel
theorem dX7_drops_38 : decode cX7_drops 38 = .ok (.getfield 9, 3) := by decide +kernel
theorem dX7_drops_41 : decode cX7_drops 41 = .ok (.iconst 0, 1) := by decide +kernel
theorem dX7_drops_42 : decode cX7_drops 42 = .ok (.dup2, 1) := by decide +kernel
theorem dX7_drops_43 : decode cX7_drops 43 = .ok (.iaload, 1) := by decide +kernel
theorem dX7_drops_44 : decode cX7_drops 44 = .ok (.iconst 1, 1) := by decide +kernel
theorem dX7_drops_45 : decode cX7_drops 45 = .ok (.isub, 1) := by decide +kernel
theorem dX7_drops_46 : decode cX7_drops 46 = .ok (.iastore, 1) := by decide +kernel
theorem dX7_drops_47 : decode cX7_drops 47 = .ok (.iconst 0, 1) := by decide +kernel
theorem dX7_drops_48 : decode cX7_drops 48 = .ok (.istore_n 2, 1) := by decide +kernel
theorem dX7_drops_49 : decode cX7_drops 49 = .ok (.iload_n 2, 1) := by decide +kernel
theorem dX7_drops_50 : decode cX7_drops 50 = .ok (.iconst 2, 1) := by decide +kernel
theorem dX7_drops_51 : decode cX7_drops 51 = .ok (.aload_n 0, 1) := by decide +kernel
theorem dX7_drops_52 : decode cX7_drops 52 = .ok (.invokevirtual 56, 3) := by decide +kernel
theorem dX7_drops_55 : decode cX7_drops 55 = .ok (.imul, 1) := by decide +kernel
theorem dX7_drops_56 : decode cX7_drops 56 = .ok (.if_icmp .ge 35, 3) := by decide +kernel
theorem dX7_drops_59 : decode cX7_drops 59 = .ok (.aload_n 0, 1) := by decide +kernel
theorem dX7_drops_60 : decode cX7_drops 60 = .ok (.getfield 9, 3) := by decide +kernel
theorem dX7_drops_63 : decode cX7_drops 63 = .ok (.bipush 36, 2) := by decide +kernel
theorem dX7_drops_65 : decode cX7_drops 65 = .ok (.iload_n 2, 1) := by decide +kernel
theorem dX7_drops_66 : decode cX7_drops 66 = .ok (.iadd, 1) := by decide +kernel
theorem dX7_drops_67 : decode cX7_drops 67 = .ok (.iaload, 1) := by decide +kernel
theorem dX7_drops_68 : decode cX7_drops 68 = .ok (.iload_n 1, 1) := by decide +kernel
theorem dX7_drops_69 : decode cX7_drops 69 = .ok (.if_icmp .le 16, 3) := by decide +kernel
theorem dX7_drops_72 : decode cX7_drops 72 = .ok (.aload_n 0, 1) := by decide +kernel
theorem dX7_drops_73 : decode cX7_drops 73 = .ok (.getfield 9, 3) := by decide +kernel
theorem dX7_drops_76 : decode cX7_drops 76 = .ok (.bipush 36, 2) := by decide +kernel
theorem dX7_drops_78 : decode cX7_drops 78 = .ok (.iload_n 2, 1) := by decide +kernel
theorem dX7_drops_79 : decode cX7_drops 79 = .ok (.iadd, 1) := by decide +kernel
theorem dX7_drops_80 : decode cX7_drops 80 = .ok (.dup2, 1) := by decide +kernel
theorem dX7_drops_81 : decode cX7_drops 81 = .ok (.iaload, 1) := by decide +kernel
theorem dX7_drops_82 : decode cX7_drops 82 = .ok (.iconst 1, 1) := by decide +kernel
theorem dX7_drops_83 : decode cX7_drops 83 = .ok (.isub, 1) := by decide +kernel
theorem dX7_drops_84 : decode cX7_drops 84 = .ok (.iastore, 1) := by decide +kernel
theorem dX7_drops_85 : decode cX7_drops 85 = .ok (.iinc 2 1, 3) := by decide +kernel
theorem dX7_drops_88 : decode cX7_drops 88 = .ok (.goto (-39), 3) := by decide +kernel
theorem dX7_drops_91 : decode cX7_drops 91 = .ok (.return_, 1) := by decide +kernel
theorem dX7_removePoint_0 : decode cX7_removePoint 0 = .ok (.aload_n 0, 1) := by decide +kernel
theorem dX7_removePoint_1 : decode cX7_removePoint 1 = .ok (.iconst 0, 1) := by decide +kernel
theorem dX7_removePoint_2 : decode cX7_removePoint 2 = .ok (.putfield 44, 3) := by decide +kernel
theorem dX7_removePoint_5 : decode cX7_removePoint 5 = .ok (.aload_n 0, 1) := by decide +kernel
theorem dX7_removePoint_6 : decode cX7_removePoint 6 = .ok (.iload_n 1, 1) := by decide +kernel
theorem dX7_removePoint_7 : decode cX7_removePoint 7 = .ok (.invokevirtual 168, 3) := by decide +kernel
theorem dX7_removePoint_10 : decode cX7_removePoint 10 = .ok (.ifCond .ne 9, 3) := by decide +kernel
theorem dX7_removePoint_13 : decode cX7_removePoint 13 = .ok (.aload_n 0, 1) := by decide +kernel
theorem dX7_removePoint_14 : decode cX7_removePoint 14 = .ok (.iconst 1, 1) := by decide +kernel
theorem dX7_removePoint_15 : decode cX7_removePoint 15 = .ok (.invokevirtual 172, 3) := by decide +kernel
theorem dX7_removePoint_18 : decode cX7_removePoint 18 = .ok (.ireturn, 1) := by decide +kernel
theorem dX7_removePoint_19 : decode cX7_removePoint 19 = .ok (.aload_n 0, 1) := by decide +kernel
theorem dX7_removePoint_20 : decode cX7_removePoint 20 = .ok (.iload_n 1, 1) := by decide +kernel
theorem dX7_removePoint_21 : decode cX7_removePoint 21 = .ok (.invokevirtual 175, 3) := by decide +kernel
theorem dX7_removePoint_24 : decode cX7_removePoint 24 = .ok (.ifCond .eq 9, 3) := by decide +kernel
theorem dX7_removePoint_27 : decode cX7_removePoint 27 = .ok (.aload_n 0, 1) := by decide +kernel
theorem dX7_removePoint_28 : decode cX7_removePoint 28 = .ok (.iconst 2, 1) := by decide +kernel
theorem dX7_removePoint_29 : decode cX7_removePoint 29 = .ok (.invokevirtual 172, 3) := by decide +kernel
theorem dX7_removePoint_32 : decode cX7_removePoint 32 = .ok (.ireturn, 1) := by decide +kernel
theorem dX7_removePoint_33 : decode cX7_removePoint 33 = .ok (.aload_n 0, 1) := by decide +kernel
theorem dX7_removePoint_34 : decode cX7_removePoint 34 = .ok (.invokevirtual 162, 3) := by decide +kernel
theorem dX7_removePoint_37 : decode cX7_removePoint 37 = .ok (.aload_n 0, 1) := by decide +kernel
theorem dX7_removePoint_38 : decode cX7_removePoint 38 = .ok (.iload_n 1, 1) := by decide +kernel
theorem dX7_removePoint_39 : decode cX7_removePoint 39 = .ok (.invokevirtual 178, 3) := by decide +kernel
theorem dX7_removePoint_42 : decode cX7_removePoint 42 = .ok (.aload_n 0, 1) := by decide +kernel
theorem dX7_removePoint_43 : decode cX7_removePoint 43 = .ok (.invokevirtual 48, 3) := by decide +kernel
theorem dX7_removePoint_46 : decode cX7_removePoint 46 = .ok (.ireturn, 1) := by decide +kernel
theorem dX7_movePoint_0 : decode cX7_movePoint 0 = .ok (.aload_n 0, 1) := by decide +kernel
theorem dX7_movePoint_1 : decode cX7_movePoint 1 = .ok (.iconst 0, 1) := by decide +kernel
theorem dX7_movePoint_2 : decode cX7_movePoint 2 = .ok (.putfield 44, 3) := by decide +kernel
theorem dX7_movePoint_5 : decode cX7_movePoint 5 = .ok (.aload_n 0, 1) := by decide +kernel
theorem dX7_movePoint_6 : decode cX7_movePoint 6 = .ok (.iload_n 1, 1) := by decide +kernel
theorem dX7_movePoint_7 : decode cX7_movePoint 7 = .ok (.invokevirtual 168, 3) := by decide +kernel
theorem dX7_movePoint_10 : decode cX7_movePoint 10 = .ok (.ifCond .ne 11, 3) := by decide +kernel
theorem dX7_movePoint_13 : decode cX7_movePoint 13 = .ok (.aload_n 0, 1) := by decide +kernel
theorem dX7_movePoint_14 : decode cX7_movePoint 14 = .ok (.iconst 1, 1) := by decide +kernel
theorem dX7_movePoint_15 : decode cX7_movePoint 15 = .ok (.putfield 44, 3) := by decide +kernel
theorem dX7_movePoint_18 : decode cX7_movePoint 18 = .ok (.goto 50, 3) := by decide +kernel
theorem dX7_movePoint_21 : decode cX7_movePoint 21 = .ok (.iload_n 2, 1) := by decide +kernel
theorem dX7_movePoint_22 : decode cX7_movePoint 22 = .ok (.iload_n 3, 1) := by decide +kernel
theorem dX7_movePoint_23 : decode cX7_movePoint 23 = .ok (.invokestatic 153, 3) := by decide +kernel
theorem dX7_movePoint_26 : decode cX7_movePoint 26 = .ok (.ifCond .ne 11, 3) := by decide +kernel
theorem dX7_movePoint_29 : decode cX7_movePoint 29 = .ok (.aload_n 0, 1) := by decide +kernel
theorem dX7_movePoint_30 : decode cX7_movePoint 30 = .ok (.iconst 2, 1) := by decide +kernel
theorem dX7_movePoint_31 : decode cX7_movePoint 31 = .ok (.putfield 44, 3) := by decide +kernel
theorem dX7_movePoint_34 : decode cX7_movePoint 34 = .ok (.goto 34, 3) := by decide +kernel
theorem dX7_movePoint_37 : decode cX7_movePoint 37 = .ok (.aload_n 0, 1) := by decide +kernel
theorem dX7_movePoint_38 : decode cX7_movePoint 38 = .ok (.iload_n 1, 1) := by decide +kernel
theorem dX7_movePoint_39 : decode cX7_movePoint 39 = .ok (.invokevirtual 175, 3) := by decide +kernel
theorem dX7_movePoint_42 : decode cX7_movePoint 42 = .ok (.ifCond .eq 11, 3) := by decide +kernel
theorem dX7_movePoint_45 : decode cX7_movePoint 45 = .ok (.aload_n 0, 1) := by decide +kernel
theorem dX7_movePoint_46 : decode cX7_movePoint 46 = .ok (.iconst 3, 1) := by decide +kernel
theorem dX7_movePoint_47 : decode cX7_movePoint 47 = .ok (.putfield 44, 3) := by decide +kernel
theorem dX7_movePoint_50 : decode cX7_movePoint 50 = .ok (.goto 18, 3) := by decide +kernel
theorem dX7_movePoint_53 : decode cX7_movePoint 53 = .ok (.aload_n 0, 1) := by decide +kernel
theorem dX7_movePoint_54 : decode cX7_movePoint 54 = .ok (.iload_n 1, 1) := by decide +kernel
theorem dX7_movePoint_55 : decode cX7_movePoint 55 = .ok (.iload_n 2, 1) := by decide +kernel
theorem dX7_movePoint_56 : decode cX7_movePoint 56 = .ok (.iload_n 3, 1) := by decide +kernel
theorem dX7_movePoint_57 : decode cX7_movePoint 57 = .ok (.invokevirtual 156, 3) := by decide +kernel
theorem dX7_movePoint_60 : decode cX7_movePoint 60 = .ok (.ifCond .eq 8, 3) := by decide +kernel
theorem dX7_movePoint_63 : decode cX7_movePoint 63 = .ok (.aload_n 0, 1) := by decide +kernel
theorem dX7_movePoint_64 : decode cX7_movePoint 64 = .ok (.iconst 4, 1) := by decide +kernel
theorem dX7_movePoint_65 : decode cX7_movePoint 65 = .ok (.putfield 44, 3) := by decide +kernel
theorem dX7_movePoint_68 : decode cX7_movePoint 68 = .ok (.aload_n 0, 1) := by decide +kernel
theorem dX7_movePoint_69 : decode cX7_movePoint 69 = .ok (.getfield 44, 3) := by decide +kernel
theorem dX7_movePoint_72 : decode cX7_movePoint 72 = .ok (.ifCond .le 5, 3) := by decide +kernel
theorem dX7_movePoint_75 : decode cX7_movePoint 75 = .ok (.iconst 0, 1) := by decide +kernel
theorem dX7_movePoint_76 : decode cX7_movePoint 76 = .ok (.ireturn, 1) := by decide +kernel
theorem dX7_movePoint_77 : decode cX7_movePoint 77 = .ok (.aload_n 0, 1) := by decide +kernel
theorem dX7_movePoint_78 : decode cX7_movePoint 78 = .ok (.iload_n 1, 1) := by decide +kernel
theorem dX7_movePoint_79 : decode cX7_movePoint 79 = .ok (.invokevirtual 65, 3) := by decide +kernel
theorem dX7_movePoint_82 : decode cX7_movePoint 82 = .ok (.iload_n 2, 1) := by decide +kernel
theorem dX7_movePoint_83 : decode cX7_movePoint 83 = .ok (.if_icmp .ne 12, 3) := by decide +kernel
theorem dX7_movePoint_86 : decode cX7_movePoint 86 = .ok (.aload_n 0, 1) := by decide +kernel
theorem dX7_movePoint_87 : decode cX7_movePoint 87 = .ok (.iload_n 1, 1) := by decide +kernel
theorem dX7_movePoint_88 : decode cX7_movePoint 88 = .ok (.invokevirtual 68, 3) := by decide +kernel
theorem dX7_movePoint_91 : decode cX7_movePoint 91 = .ok (.iload_n 3, 1) := by decide +kernel
theorem dX7_movePoint_92 : decode cX7_movePoint 92 = .ok (.if_icmp .eq 7, 3) := by decide +kernel
theorem dX7_movePoint_95 : decode cX7_movePoint 95 = .ok (.iconst 1, 1) := by decide +kernel
theorem dX7_movePoint_96 : decode cX7_movePoint 96 = .ok (.goto 4, 3) := by decide +kernel
theorem dX7_movePoint_99 : decode cX7_movePoint 99 = .ok (.iconst 0, 1) := by decide +kernel
theorem dX7_movePoint_100 : decode cX7_movePoint 100 = .ok (.istore 4, 2) := by decide +kernel
theorem dX7_movePoint_102 : decode cX7_movePoint 102 = .ok (.aload_n 0, 1) := by decide +kernel
theorem dX7_movePoint_103 : decode cX7_movePoint 103 = .ok (.invokevirtual 162, 3) := by decide +kernel
theorem dX7_movePoint_106 : decode cX7_movePoint 106 = .ok (.aload_n 0, 1) := by decide +kernel
theorem dX7_movePoint_107 : decode cX7_movePoint 107 = .ok (.iload_n 1, 1) := by decide +kernel
theorem dX7_movePoint_108 : decode cX7_movePoint 108 = .ok (.iload_n 2, 1) := by decide +kernel
theorem dX7_movePoint_109 : decode cX7_movePoint 109 = .ok (.iload_n 3, 1) := by decide +kernel
theorem dX7_movePoint_110 : decode cX7_movePoint 110 = .ok (.invokevirtual 165, 3) := by decide +kernel
theorem dX7_movePoint_113 : decode cX7_movePoint 113 = .ok (.iload 4, 2) := by decide +kernel
theorem dX7_movePoint_115 : decode cX7_movePoint 115 = .ok (.ireturn, 1) := by decide +kernel
theorem dX7_pointCount_0 : decode cX7_pointCount 0 = .ok (.aload_n 0, 1) := by decide +kernel
theorem dX7_pointCount_1 : decode cX7_pointCount 1 = .ok (.iconst 0, 1) := by decide +kernel
theorem dX7_pointCount_2 : decode cX7_pointCount 2 = .ok (.putfield 44, 3) := by decide +kernel
theorem dX7_pointCount_5 : decode cX7_pointCount 5 = .ok (.aload_n 0, 1) := by decide +kernel
theorem dX7_pointCount_6 : decode cX7_pointCount 6 = .ok (.invokevirtual 48, 3) := by decide +kernel
theorem dX7_pointCount_9 : decode cX7_pointCount 9 = .ok (.ireturn, 1) := by decide +kernel
theorem dX7_coordinate_0 : decode cX7_coordinate 0 = .ok (.aload_n 0, 1) := by decide +kernel
theorem dX7_coordinate_1 : decode cX7_coordinate 1 = .ok (.iconst 0, 1) := by decide +kernel
theorem dX7_coordinate_2 : decode cX7_coordinate 2 = .ok (.putfield 44, 3) := by decide +kernel
theorem dX7_coordinate_5 : decode cX7_coordinate 5 = .ok (.aload_n 0, 1) := by decide +kernel
theorem dX7_coordinate_6 : decode cX7_coordinate 6 = .ok (.iload_n 1, 1) := by decide +kernel
theorem dX7_coordinate_7 : decode cX7_coordinate 7 = .ok (.invokevirtual 168, 3) := by decide +kernel
theorem dX7_coordinate_10 : decode cX7_coordinate 10 = .ok (.ifCond .ne 9, 3) := by decide +kernel
theorem dX7_coordinate_13 : decode cX7_coordinate 13 = .ok (.aload_n 0, 1) := by decide +kernel
theorem dX7_coordinate_14 : decode cX7_coordinate 14 = .ok (.iconst 1, 1) := by decide +kernel
theorem dX7_coordinate_15 : decode cX7_coordinate 15 = .ok (.invokevirtual 172, 3) := by decide +kernel
theorem dX7_coordinate_18 : decode cX7_coordinate 18 = .ok (.ireturn, 1) := by decide +kernel
theorem dX7_coordinate_19 : decode cX7_coordinate 19 = .ok (.iload_n 2, 1) := by decide +kernel
theorem dX7_coordinate_20 : decode cX7_coordinate 20 = .ok (.iconst 0, 1) := by decide +kernel
theorem dX7_coordinate_21 : decode cX7_coordinate 21 = .ok (.iconst 1, 1) := by decide +kernel
theorem dX7_coordinate_22 : decode cX7_coordinate 22 = .ok (.invokestatic 52, 3) := by decide +kernel
theorem dX7_coordinate_25 : decode cX7_coordinate 25 = .ok (.ifCond .eq 23, 3) := by decide +kernel
theorem dX7_coordinate_28 : decode cX7_coordinate 28 = .ok (.iload_n 2, 1) := by decide +kernel
theorem dX7_coordinate_29 : decode cX7_coordinate 29 = .ok (.ifCond .ne 11, 3) := by decide +kernel
theorem dX7_coordinate_32 : decode cX7_coordinate 32 = .ok (.aload_n 0, 1) := by decide +kernel
theorem dX7_coordinate_33 : decode cX7_coordinate 33 = .ok (.iload_n 1, 1) := by decide +kernel
theorem dX7_coordinate_34 : decode cX7_coordinate 34 = .ok (.invokevirtual 65, 3) := by decide +kernel
theorem dX7_coordinate_37 : decode cX7_coordinate 37 = .ok (.goto 16, 3) := by decide +kernel
theorem dX7_coordinate_40 : decode cX7_coordinate 40 = .ok (.aload_n 0, 1) := by decide +kernel
theorem dX7_coordinate_41 : decode cX7_coordinate 41 = .ok (.iload_n 1, 1) := by decide +kernel
theorem dX7_coordinate_42 : decode cX7_coordinate 42 = .ok (.invokevirtual 68, 3) := by decide +kernel
theorem dX7_coordinate_45 : decode cX7_coordinate 45 = .ok (.goto 8, 3) := by decide +kernel
theorem dX7_coordinate_48 : decode cX7_coordinate 48 = .ok (.aload_n 0, 1) := by decide +kernel
theorem dX7_coordinate_49 : decode cX7_coordinate 49 = .ok (.iconst 2, 1) := by decide +kernel
theorem dX7_coordinate_50 : decode cX7_coordinate 50 = .ok (.invokevirtual 172, 3) := by decide +kernel
theorem dX7_coordinate_53 : decode cX7_coordinate 53 = .ok (.ireturn, 1) := by decide +kernel
theorem dX7_addConstraint_0 : decode cX7_addConstraint 0 = .ok (.aload_n 0, 1) := by decide +kernel
theorem dX7_addConstraint_1 : decode cX7_addConstraint 1 = .ok (.iconst 0, 1) := by decide +kernel
theorem dX7_addConstraint_2 : decode cX7_addConstraint 2 = .ok (.putfield 44, 3) := by decide +kernel
theorem dX7_addConstraint_5 : decode cX7_addConstraint 5 = .ok (.aload_n 0, 1) := by decide +kernel
theorem dX7_addConstraint_6 : decode cX7_addConstraint 6 = .ok (.iload_n 1, 1) := by decide +kernel
theorem dX7_addConstraint_7 : decode cX7_addConstraint 7 = .ok (.invokevirtual 168, 3) := by decide +kernel
theorem dX7_addConstraint_10 : decode cX7_addConstraint 10 = .ok (.ifCond .eq 11, 3) := by decide +kernel
theorem dX7_addConstraint_13 : decode cX7_addConstraint 13 = .ok (.aload_n 0, 1) := by decide +kernel
theorem dX7_addConstraint_14 : decode cX7_addConstraint 14 = .ok (.iload_n 2, 1) := by decide +kernel
theorem dX7_addConstraint_15 : decode cX7_addConstraint 15 = .ok (.invokevirtual 168, 3) := by decide +kernel
theorem dX7_addConstraint_18 : decode cX7_addConstraint 18 = .ok (.ifCond .ne 9, 3) := by decide +kernel
theorem dX7_addConstraint_21 : decode cX7_addConstraint 21 = .ok (.aload_n 0, 1) := by decide +kernel
theorem dX7_addConstraint_22 : decode cX7_addConstraint 22 = .ok (.iconst 1, 1) := by decide +kernel
theorem dX7_addConstraint_23 : decode cX7_addConstraint 23 = .ok (.invokevirtual 172, 3) := by decide +kernel
theorem dX7_addConstraint_26 : decode cX7_addConstraint 26 = .ok (.ireturn, 1) := by decide +kernel
theorem dX7_addConstraint_27 : decode cX7_addConstraint 27 = .ok (.iload_n 1, 1) := by decide +kernel
theorem dX7_addConstraint_28 : decode cX7_addConstraint 28 = .ok (.iload_n 2, 1) := by decide +kernel
theorem dX7_addConstraint_29 : decode cX7_addConstraint 29 = .ok (.if_icmp .ne 9, 3) := by decide +kernel
theorem dX7_addConstraint_32 : decode cX7_addConstraint 32 = .ok (.aload_n 0, 1) := by decide +kernel
theorem dX7_addConstraint_33 : decode cX7_addConstraint 33 = .ok (.iconst 2, 1) := by decide +kernel
theorem dX7_addConstraint_34 : decode cX7_addConstraint 34 = .ok (.invokevirtual 172, 3) := by decide +kernel
theorem dX7_addConstraint_37 : decode cX7_addConstraint 37 = .ok (.ireturn, 1) := by decide +kernel
theorem dX7_addConstraint_38 : decode cX7_addConstraint 38 = .ok (.aload_n 0, 1) := by decide +kernel
theorem dX7_addConstraint_39 : decode cX7_addConstraint 39 = .ok (.invokevirtual 56, 3) := by decide +kernel
theorem dX7_addConstraint_42 : decode cX7_addConstraint 42 = .ok (.bipush 10, 2) := by decide +kernel
theorem dX7_addConstraint_44 : decode cX7_addConstraint 44 = .ok (.if_icmp .ne 9, 3) := by decide +kernel
theorem dX7_addConstraint_47 : decode cX7_addConstraint 47 = .ok (.aload_n 0, 1) := by decide +kernel
theorem dX7_addConstraint_48 : decode cX7_addConstraint 48 = .ok (.iconst 3, 1) := by decide +kernel
theorem dX7_addConstraint_49 : decode cX7_addConstraint 49 = .ok (.invokevirtual 172, 3) := by decide +kernel
theorem dX7_addConstraint_52 : decode cX7_addConstraint 52 = .ok (.ireturn, 1) := by decide +kernel
theorem dX7_addConstraint_53 : decode cX7_addConstraint 53 = .ok (.aload_n 0, 1) := by decide +kernel
theorem dX7_addConstraint_54 : decode cX7_addConstraint 54 = .ok (.iload_n 1, 1) := by decide +kernel
theorem dX7_addConstraint_55 : decode cX7_addConstraint 55 = .ok (.iload_n 2, 1) := by decide +kernel
theorem dX7_addConstraint_56 : decode cX7_addConstraint 56 = .ok (.invokevirtual 138, 3) := by decide +kernel
theorem dX7_addConstraint_59 : decode cX7_addConstraint 59 = .ok (.ifCond .ne 12, 3) := by decide +kernel
theorem dX7_addConstraint_62 : decode cX7_addConstraint 62 = .ok (.aload_n 0, 1) := by decide +kernel
theorem dX7_addConstraint_63 : decode cX7_addConstraint 63 = .ok (.iload_n 1, 1) := by decide +kernel
theorem dX7_addConstraint_64 : decode cX7_addConstraint 64 = .ok (.iload_n 2, 1) := by decide +kernel
theorem dX7_addConstraint_65 : decode cX7_addConstraint 65 = .ok (.invokevirtual 121, 3) := by decide +kernel
theorem dX7_addConstraint_68 : decode cX7_addConstraint 68 = .ok (.ifCond .eq 9, 3) := by decide +kernel
theorem dX7_addConstraint_71 : decode cX7_addConstraint 71 = .ok (.aload_n 0, 1) := by decide +kernel
theorem dX7_addConstraint_72 : decode cX7_addConstraint 72 = .ok (.iconst 4, 1) := by decide +kernel
theorem dX7_addConstraint_73 : decode cX7_addConstraint 73 = .ok (.invokevirtual 172, 3) := by decide +kernel
theorem dX7_addConstraint_76 : decode cX7_addConstraint 76 = .ok (.ireturn, 1) := by decide +kernel
theorem dX7_addConstraint_77 : decode cX7_addConstraint 77 = .ok (.iconst 0, 1) := by decide +kernel
theorem dX7_addConstraint_78 : decode cX7_addConstraint 78 = .ok (.istore_n 3, 1) := by decide +kernel
theorem dX7_addConstraint_79 : decode cX7_addConstraint 79 = .ok (.iload_n 3, 1) := by decide +kernel
theorem dX7_addConstraint_80 : decode cX7_addConstraint 80 = .ok (.aload_n 0, 1) := by decide +kernel
theorem dX7_addConstraint_81 : decode cX7_addConstraint 81 = .ok (.invokevirtual 56, 3) := by decide +kernel
theorem dX7_addConstraint_84 : decode cX7_addConstraint 84 = .ok (.if_icmp .ge 36, 3) := by decide +kernel
theorem dX7_addConstraint_87 : decode cX7_addConstraint 87 = .ok (.aload_n 0, 1) := by decide +kernel
theorem dX7_addConstraint_88 : decode cX7_addConstraint 88 = .ok (.iload_n 1, 1) := by decide +kernel
theorem dX7_addConstraint_89 : decode cX7_addConstraint 89 = .ok (.iload_n 2, 1) := by decide +kernel
theorem dX7_addConstraint_90 : decode cX7_addConstraint 90 = .ok (.aload_n 0, 1) := by decide +kernel
theorem dX7_addConstraint_91 : decode cX7_addConstraint 91 = .ok (.iload_n 3, 1) := by decide +kernel
theorem dX7_addConstraint_92 : decode cX7_addConstraint 92 = .ok (.iconst 0, 1) := by decide +kernel
theorem dX7_addConstraint_93 : decode cX7_addConstraint 93 = .ok (.invokevirtual 101, 3) := by decide +kernel
theorem dX7_addConstraint_96 : decode cX7_addConstraint 96 = .ok (.aload_n 0, 1) := by decide +kernel
theorem dX7_addConstraint_97 : decode cX7_addConstraint 97 = .ok (.iload_n 3, 1) := by decide +kernel
theorem dX7_addConstraint_98 : decode cX7_addConstraint 98 = .ok (.iconst 1, 1) := by decide +kernel
theorem dX7_addConstraint_99 : decode cX7_addConstraint 99 = .ok (.invokevirtual 101, 3) := by decide +kernel
theorem dX7_addConstraint_102 : decode cX7_addConstraint 102 = .ok (.invokevirtual 111, 3) := by decide +kernel
theorem dX7_addConstraint_105 : decode cX7_addConstraint 105 = .ok (.ifCond .eq 9, 3) := by decide +kernel
theorem dX7_addConstraint_108 : decode cX7_addConstraint 108 = .ok (.aload_n 0, 1) := by decide +kernel
theorem dX7_addConstraint_109 : decode cX7_addConstraint 109 = .ok (.iconst 4, 1) := by decide +kernel
theorem dX7_addConstraint_110 : decode cX7_addConstraint 110 = .ok (.invokevirtual 172, 3) := by decide +kernel
theorem dX7_addConstraint_113 : decode cX7_addConstraint 113 = .ok (.ireturn, 1) := by decide +kernel
theorem dX7_addConstraint_114 : decode cX7_addConstraint 114 = .ok (.iinc 3 1, 3) := by decide +kernel
theorem dX7_addConstraint_117 : decode cX7_addConstraint 117 = .ok (.goto (-38), 3) := by decide +kernel
theorem dX7_addConstraint_120 : decode cX7_addConstraint 120 = .ok (.aload_n 0, 1) := by decide +kernel
theorem dX7_addConstraint_121 : decode cX7_addConstraint 121 = .ok (.invokevirtual 162, 3) := by decide +kernel
theorem dX7_addConstraint_124 : decode cX7_addConstraint 124 = .ok (.bipush 36, 2) := by decide +kernel
theorem dX7_addConstraint_126 : decode cX7_addConstraint 126 = .ok (.iconst 2, 1) := by decide +kernel
theorem dX7_addConstraint_127 : decode cX7_addConstraint 127 = .ok (.aload_n 0, 1) := by decide +kernel
theorem dX7_addConstraint_128 : decode cX7_addConstraint 128 = .ok (.invokevirtual 56, 3) := by decide +kernel
theorem dX7_addConstraint_131 : decode cX7_addConstraint 131 = .ok (.imul, 1) := by decide +kernel
theorem dX7_addConstraint_132 : decode cX7_addConstraint 132 = .ok (.iadd, 1) := by decide +kernel
theorem dX7_addConstraint_133 : decode cX7_addConstraint 133 = .ok (.istore_n 3, 1) := by decide +kernel
theorem dX7_addConstraint_134 : decode cX7_addConstraint 134 = .ok (.aload_n 0, 1) := by decide +kernel
theorem dX7_addConstraint_135 : decode cX7_addConstraint 135 = .ok (.getfield 9, 3) := by decide +kernel
theorem dX7_addConstraint_138 : decode cX7_addConstraint 138 = .ok (.iload_n 3, 1) := by decide +kernel
theorem dX7_addConstraint_139 : decode cX7_addConstraint 139 = .ok (.iload_n 1, 1) := by decide +kernel
theorem dX7_addConstraint_140 : decode cX7_addConstraint 140 = .ok (.iload_n 2, 1) := by decide +kernel
theorem dX7_addConstraint_141 : decode cX7_addConstraint 141 = .ok (.invokestatic 83, 3) := by decide +kernel
theorem dX7_addConstraint_144 : decode cX7_addConstraint 144 = .ok (.iastore, 1) := by decide +kernel
theorem dX7_addConstraint_145 : decode cX7_addConstraint 145 = .ok (.aload_n 0, 1) := by decide +kernel
theorem dX7_addConstraint_146 : decode cX7_addConstraint 146 = .ok (.getfield 9, 3) := by decide +kernel
theorem dX7_addConstraint_149 : decode cX7_addConstraint 149 = .ok (.iload_n 3, 1) := by decide +kernel
theorem dX7_addConstraint_150 : decode cX7_addConstraint 150 = .ok (.iconst 1, 1) := by decide +kernel
theorem dX7_addConstraint_151 : decode cX7_addConstraint 151 = .ok (.iadd, 1) := by decide +kernel
theorem dX7_addConstraint_152 : decode cX7_addConstraint 152 = .ok (.iload_n 1, 1) := by decide +kernel
theorem dX7_addConstraint_153 : decode cX7_addConstraint 153 = .ok (.iload_n 2, 1) := by decide +kernel
theorem dX7_addConstraint_154 : decode cX7_addConstraint 154 = .ok (.invokestatic 89, 3) := by decide +kernel
theorem dX7_addConstraint_157 : decode cX7_addConstraint 157 = .ok (.iastore, 1) := by decide +kernel
theorem dX7_addConstraint_158 : decode cX7_addConstraint 158 = .ok (.aload_n 0, 1) := by decide +kernel
theorem dX7_addConstraint_159 : decode cX7_addConstraint 159 = .ok (.getfield 9, 3) := by decide +kernel
theorem dX7_addConstraint_162 : decode cX7_addConstraint 162 = .ok (.iconst 1, 1) := by decide +kernel
theorem dX7_addConstraint_163 : decode cX7_addConstraint 163 = .ok (.dup2, 1) := by decide +kernel
theorem dX7_addConstraint_164 : decode cX7_addConstraint 164 = .ok (.iaload, 1) := by decide +kernel
theorem dX7_addConstraint_165 : decode cX7_addConstraint 165 = .ok (.dup_x2, 1) := by decide +kernel
theorem dX7_addConstraint_166 : decode cX7_addConstraint 166 = .ok (.iconst 1, 1) := by decide +kernel
theorem dX7_addConstraint_167 : decode cX7_addConstraint 167 = .ok (.iadd, 1) := by decide +kernel
theorem dX7_addConstraint_168 : decode cX7_addConstraint 168 = .ok (.iastore, 1) := by decide +kernel
theorem dX7_addConstraint_169 : decode cX7_addConstraint 169 = .ok (.ireturn, 1) := by decide +kernel
theorem dX7_unties_0 : decode cX7_unties 0 = .ok (.iconst 2, 1) := by decide +kernel
theorem dX7_unties_1 : decode cX7_unties 1 = .ok (.iload_n 1, 1) := by decide +kernel
theorem dX7_unties_2 : decode cX7_unties 2 = .ok (.imul, 1) := by decide +kernel
theorem dX7_unties_3 : decode cX7_unties 3 = .ok (.istore_n 2, 1) := by decide +kernel
theorem dX7_unties_4 : decode cX7_unties 4 = .ok (.iload_n 2, 1) := by decide +kernel
theorem dX7_unties_5 : decode cX7_unties 5 = .ok (.iconst 2, 1) := by decide +kernel
theorem dX7_unties_6 : decode cX7_unties 6 = .ok (.iadd, 1) := by decide +kernel
theorem dX7_unties_7 : decode cX7_unties 7 = .ok (.iconst 2, 1) := by decide +kernel
theorem dX7_unties_8 : decode cX7_unties 8 = .ok (.aload_n 0, 1) := by decide +kernel
theorem dX7_unties_9 : decode cX7_unties 9 = .ok (.invokevirtual 56, 3) := by decide +kernel
theorem dX7_unties_12 : decode cX7_unties 12 = .ok (.imul, 1) := by decide +kernel
theorem dX7_unties_13 : decode cX7_unties 13 = .ok (.if_icmp .ge 29, 3) := by decide +kernel
theorem dX7_unties_16 : decode cX7_unties 16 = .ok (.aload_n 0, 1) := by decide +kernel
theorem dX7_unties_17 : decode cX7_unties 17 = .ok (.getfield 9, 3) := by decide +kernel
theorem dX7_unties_20 : decode cX7_unties 20 = .ok (.bipush 36, 2) := by decide +kernel
theorem dX7_unties_22 : decode cX7_unties 22 = .ok (.iload_n 2, 1) := by decide +kernel
theorem dX7_unties_23 : decode cX7_unties 23 = .ok (.iadd, 1) := by decide +kernel
theorem dX7_unties_24 : decode cX7_unties 24 = .ok (.aload_n 0, 1) := by decide +kernel
theorem dX7_unties_25 : decode cX7_unties 25 = .ok (.getfield 9, 3) := by decide +kernel
theorem dX7_unties_28 : decode cX7_unties 28 = .ok (.bipush 36, 2) := by decide +kernel
theorem dX7_unties_30 : decode cX7_unties 30 = .ok (.iload_n 2, 1) := by decide +kernel
theorem dX7_unties_31 : decode cX7_unties 31 = .ok (.iadd, 1) := by decide +kernel
theorem dX7_unties_32 : decode cX7_unties 32 = .ok (.iconst 2, 1) := by decide +kernel
theorem dX7_unties_33 : decode cX7_unties 33 = .ok (.iadd, 1) := by decide +kernel
theorem dX7_unties_34 : decode cX7_unties 34 = .ok (.iaload, 1) := by decide +kernel
theorem dX7_unties_35 : decode cX7_unties 35 = .ok (.iastore, 1) := by decide +kernel
theorem dX7_unties_36 : decode cX7_unties 36 = .ok (.iinc 2 1, 3) := by decide +kernel
theorem dX7_unties_39 : decode cX7_unties 39 = .ok (.goto (-35), 3) := by decide +kernel
theorem dX7_unties_42 : decode cX7_unties 42 = .ok (.aload_n 0, 1) := by decide +kernel
theorem dX7_unties_43 : decode cX7_unties 43 = .ok (.getfield 9, 3) := by decide +kernel
theorem dX7_unties_46 : decode cX7_unties 46 = .ok (.iconst 1, 1) := by decide +kernel
theorem dX7_unties_47 : decode cX7_unties 47 = .ok (.dup2, 1) := by decide +kernel
theorem dX7_unties_48 : decode cX7_unties 48 = .ok (.iaload, 1) := by decide +kernel
theorem dX7_unties_49 : decode cX7_unties 49 = .ok (.iconst 1, 1) := by decide +kernel
theorem dX7_unties_50 : decode cX7_unties 50 = .ok (.isub, 1) := by decide +kernel
theorem dX7_unties_51 : decode cX7_unties 51 = .ok (.iastore, 1) := by decide +kernel
theorem dX7_unties_52 : decode cX7_unties 52 = .ok (.return_, 1) := by decide +kernel
theorem dX7_removeConstraint_0 : decode cX7_removeConstraint 0 = .ok (.aload_n 0, 1) := by decide +kernel
theorem dX7_removeConstraint_1 : decode cX7_removeConstraint 1 = .ok (.iconst 0, 1) := by decide +kernel
theorem dX7_removeConstraint_2 : decode cX7_removeConstraint 2 = .ok (.putfield 44, 3) := by decide +kernel
theorem dX7_removeConstraint_5 : decode cX7_removeConstraint 5 = .ok (.aload_n 0, 1) := by decide +kernel
theorem dX7_removeConstraint_6 : decode cX7_removeConstraint 6 = .ok (.iload_n 1, 1) := by decide +kernel
theorem dX7_removeConstraint_7 : decode cX7_removeConstraint 7 = .ok (.invokevirtual 182, 3) := by decide +kernel
theorem dX7_removeConstraint_10 : decode cX7_removeConstraint 10 = .ok (.ifCond .ne 9, 3) := by decide +kernel
theorem dX7_removeConstraint_13 : decode cX7_removeConstraint 13 = .ok (.aload_n 0, 1) := by decide +kernel
theorem dX7_removeConstraint_14 : decode cX7_removeConstraint 14 = .ok (.iconst 1, 1) := by decide +kernel
theorem dX7_removeConstraint_15 : decode cX7_removeConstraint 15 = .ok (.invokevirtual 172, 3) := by decide +kernel
theorem dX7_removeConstraint_18 : decode cX7_removeConstraint 18 = .ok (.ireturn, 1) := by decide +kernel
theorem dX7_removeConstraint_19 : decode cX7_removeConstraint 19 = .ok (.aload_n 0, 1) := by decide +kernel
theorem dX7_removeConstraint_20 : decode cX7_removeConstraint 20 = .ok (.invokevirtual 162, 3) := by decide +kernel
theorem dX7_removeConstraint_23 : decode cX7_removeConstraint 23 = .ok (.aload_n 0, 1) := by decide +kernel
theorem dX7_removeConstraint_24 : decode cX7_removeConstraint 24 = .ok (.iload_n 1, 1) := by decide +kernel
theorem dX7_removeConstraint_25 : decode cX7_removeConstraint 25 = .ok (.invokevirtual 185, 3) := by decide +kernel
theorem dX7_removeConstraint_28 : decode cX7_removeConstraint 28 = .ok (.aload_n 0, 1) := by decide +kernel
theorem dX7_removeConstraint_29 : decode cX7_removeConstraint 29 = .ok (.invokevirtual 56, 3) := by decide +kernel
theorem dX7_removeConstraint_32 : decode cX7_removeConstraint 32 = .ok (.ireturn, 1) := by decide +kernel
theorem dX7_constraintCount_0 : decode cX7_constraintCount 0 = .ok (.aload_n 0, 1) := by decide +kernel
theorem dX7_constraintCount_1 : decode cX7_constraintCount 1 = .ok (.iconst 0, 1) := by decide +kernel
theorem dX7_constraintCount_2 : decode cX7_constraintCount 2 = .ok (.putfield 44, 3) := by decide +kernel
theorem dX7_constraintCount_5 : decode cX7_constraintCount 5 = .ok (.aload_n 0, 1) := by decide +kernel
theorem dX7_constraintCount_6 : decode cX7_constraintCount 6 = .ok (.invokevirtual 56, 3) := by decide +kernel
theorem dX7_constraintCount_9 : decode cX7_constraintCount 9 = .ok (.ireturn, 1) := by decide +kernel
theorem dX7_constraintEnd_0 : decode cX7_constraintEnd 0 = .ok (.aload_n 0, 1) := by decide +kernel
theorem dX7_constraintEnd_1 : decode cX7_constraintEnd 1 = .ok (.iconst 0, 1) := by decide +kernel
theorem dX7_constraintEnd_2 : decode cX7_constraintEnd 2 = .ok (.putfield 44, 3) := by decide +kernel
theorem dX7_constraintEnd_5 : decode cX7_constraintEnd 5 = .ok (.aload_n 0, 1) := by decide +kernel
theorem dX7_constraintEnd_6 : decode cX7_constraintEnd 6 = .ok (.iload_n 1, 1) := by decide +kernel
theorem dX7_constraintEnd_7 : decode cX7_constraintEnd 7 = .ok (.invokevirtual 182, 3) := by decide +kernel
theorem dX7_constraintEnd_10 : decode cX7_constraintEnd 10 = .ok (.ifCond .ne 9, 3) := by decide +kernel
theorem dX7_constraintEnd_13 : decode cX7_constraintEnd 13 = .ok (.aload_n 0, 1) := by decide +kernel
theorem dX7_constraintEnd_14 : decode cX7_constraintEnd 14 = .ok (.iconst 1, 1) := by decide +kernel
theorem dX7_constraintEnd_15 : decode cX7_constraintEnd 15 = .ok (.invokevirtual 172, 3) := by decide +kernel
theorem dX7_constraintEnd_18 : decode cX7_constraintEnd 18 = .ok (.ireturn, 1) := by decide +kernel
theorem dX7_constraintEnd_19 : decode cX7_constraintEnd 19 = .ok (.iload_n 2, 1) := by decide +kernel
theorem dX7_constraintEnd_20 : decode cX7_constraintEnd 20 = .ok (.iconst 0, 1) := by decide +kernel
theorem dX7_constraintEnd_21 : decode cX7_constraintEnd 21 = .ok (.iconst 1, 1) := by decide +kernel
theorem dX7_constraintEnd_22 : decode cX7_constraintEnd 22 = .ok (.invokestatic 52, 3) := by decide +kernel
theorem dX7_constraintEnd_25 : decode cX7_constraintEnd 25 = .ok (.ifCond .eq 12, 3) := by decide +kernel
theorem dX7_constraintEnd_28 : decode cX7_constraintEnd 28 = .ok (.aload_n 0, 1) := by decide +kernel
theorem dX7_constraintEnd_29 : decode cX7_constraintEnd 29 = .ok (.iload_n 1, 1) := by decide +kernel
theorem dX7_constraintEnd_30 : decode cX7_constraintEnd 30 = .ok (.iload_n 2, 1) := by decide +kernel
theorem dX7_constraintEnd_31 : decode cX7_constraintEnd 31 = .ok (.invokevirtual 101, 3) := by decide +kernel
theorem dX7_constraintEnd_34 : decode cX7_constraintEnd 34 = .ok (.goto 8, 3) := by decide +kernel
theorem dX7_constraintEnd_37 : decode cX7_constraintEnd 37 = .ok (.aload_n 0, 1) := by decide +kernel
theorem dX7_constraintEnd_38 : decode cX7_constraintEnd 38 = .ok (.iconst 2, 1) := by decide +kernel
theorem dX7_constraintEnd_39 : decode cX7_constraintEnd 39 = .ok (.invokevirtual 172, 3) := by decide +kernel
theorem dX7_constraintEnd_42 : decode cX7_constraintEnd 42 = .ok (.ireturn, 1) := by decide +kernel
theorem dX7_feed_0 : decode cX7_feed 0 = .ok (.aload_n 0, 1) := by decide +kernel
theorem dX7_feed_1 : decode cX7_feed 1 = .ok (.iconst 0, 1) := by decide +kernel
theorem dX7_feed_2 : decode cX7_feed 2 = .ok (.putfield 44, 3) := by decide +kernel
theorem dX7_feed_5 : decode cX7_feed 5 = .ok (.aload_n 0, 1) := by decide +kernel
theorem dX7_feed_6 : decode cX7_feed 6 = .ok (.getfield 188, 3) := by decide +kernel
theorem dX7_feed_9 : decode cX7_feed 9 = .ok (.bipush 60, 2) := by decide +kernel
theorem dX7_feed_11 : decode cX7_feed 11 = .ok (.if_icmp .ne 9, 3) := by decide +kernel
theorem dX7_feed_14 : decode cX7_feed 14 = .ok (.aload_n 0, 1) := by decide +kernel
theorem dX7_feed_15 : decode cX7_feed 15 = .ok (.iconst 1, 1) := by decide +kernel
theorem dX7_feed_16 : decode cX7_feed 16 = .ok (.invokevirtual 172, 3) := by decide +kernel
theorem dX7_feed_19 : decode cX7_feed 19 = .ok (.ireturn, 1) := by decide +kernel
theorem dX7_feed_20 : decode cX7_feed 20 = .ok (.aload_n 0, 1) := by decide +kernel
theorem dX7_feed_21 : decode cX7_feed 21 = .ok (.getfield 19, 3) := by decide +kernel
theorem dX7_feed_24 : decode cX7_feed 24 = .ok (.aload_n 0, 1) := by decide +kernel
theorem dX7_feed_25 : decode cX7_feed 25 = .ok (.dup, 1) := by decide +kernel
theorem dX7_feed_26 : decode cX7_feed 26 = .ok (.getfield 188, 3) := by decide +kernel
theorem dX7_feed_29 : decode cX7_feed 29 = .ok (.dup_x1, 1) := by decide +kernel
theorem dX7_feed_30 : decode cX7_feed 30 = .ok (.iconst 1, 1) := by decide +kernel
theorem dX7_feed_31 : decode cX7_feed 31 = .ok (.iadd, 1) := by decide +kernel
theorem dX7_feed_32 : decode cX7_feed 32 = .ok (.putfield 188, 3) := by decide +kernel
theorem dX7_feed_35 : decode cX7_feed 35 = .ok (.iload_n 1, 1) := by decide +kernel
theorem dX7_feed_36 : decode cX7_feed 36 = .ok (.iastore, 1) := by decide +kernel
theorem dX7_feed_37 : decode cX7_feed 37 = .ok (.aload_n 0, 1) := by decide +kernel
theorem dX7_feed_38 : decode cX7_feed 38 = .ok (.getfield 188, 3) := by decide +kernel
theorem dX7_feed_41 : decode cX7_feed 41 = .ok (.ireturn, 1) := by decide +kernel
theorem dX7_here_0 : decode cX7_here 0 = .ok (.aload_n 0, 1) := by decide +kernel
theorem dX7_here_1 : decode cX7_here 1 = .ok (.getfield 191, 3) := by decide +kernel
theorem dX7_here_4 : decode cX7_here 4 = .ok (.aload_n 0, 1) := by decide +kernel
theorem dX7_here_5 : decode cX7_here 5 = .ok (.getfield 188, 3) := by decide +kernel
theorem dX7_here_8 : decode cX7_here 8 = .ok (.if_icmp .ge 15, 3) := by decide +kernel
theorem dX7_here_11 : decode cX7_here 11 = .ok (.aload_n 0, 1) := by decide +kernel
theorem dX7_here_12 : decode cX7_here 12 = .ok (.getfield 19, 3) := by decide +kernel
theorem dX7_here_15 : decode cX7_here 15 = .ok (.aload_n 0, 1) := by decide +kernel
theorem dX7_here_16 : decode cX7_here 16 = .ok (.getfield 191, 3) := by decide +kernel
theorem dX7_here_19 : decode cX7_here 19 = .ok (.iaload, 1) := by decide +kernel
theorem dX7_here_20 : decode cX7_here 20 = .ok (.goto 4, 3) := by decide +kernel
theorem dX7_here_23 : decode cX7_here 23 = .ok (.iconst (-1), 1) := by decide +kernel
theorem dX7_here_24 : decode cX7_here 24 = .ok (.ireturn, 1) := by decide +kernel
theorem dX7_number_0 : decode cX7_number 0 = .ok (.iconst (-1), 1) := by decide +kernel
theorem dX7_number_1 : decode cX7_number 1 = .ok (.istore_n 1, 1) := by decide +kernel
theorem dX7_number_2 : decode cX7_number 2 = .ok (.iconst 0, 1) := by decide +kernel
theorem dX7_number_3 : decode cX7_number 3 = .ok (.istore_n 2, 1) := by decide +kernel
theorem dX7_number_4 : decode cX7_number 4 = .ok (.iload_n 2, 1) := by decide +kernel
theorem dX7_number_5 : decode cX7_number 5 = .ok (.iconst 3, 1) := by decide +kernel
theorem dX7_number_6 : decode cX7_number 6 = .ok (.if_icmp .ge 52, 3) := by decide +kernel
theorem dX7_number_9 : decode cX7_number 9 = .ok (.aload_n 0, 1) := by decide +kernel
theorem dX7_number_10 : decode cX7_number 10 = .ok (.invokevirtual 194, 3) := by decide +kernel
theorem dX7_number_13 : decode cX7_number 13 = .ok (.bipush 48, 2) := by decide +kernel
theorem dX7_number_15 : decode cX7_number 15 = .ok (.bipush 57, 2) := by decide +kernel
theorem dX7_number_17 : decode cX7_number 17 = .ok (.invokestatic 52, 3) := by decide +kernel
theorem dX7_number_20 : decode cX7_number 20 = .ok (.ifCond .eq 38, 3) := by decide +kernel
theorem dX7_number_23 : decode cX7_number 23 = .ok (.bipush 10, 2) := by decide +kernel
theorem dX7_number_25 : decode cX7_number 25 = .ok (.iconst 0, 1) := by decide +kernel
theorem dX7_number_26 : decode cX7_number 26 = .ok (.iload_n 1, 1) := by decide +kernel
theorem dX7_number_27 : decode cX7_number 27 = .ok (.invokestatic 89, 3) := by decide +kernel
theorem dX7_number_30 : decode cX7_number 30 = .ok (.imul, 1) := by decide +kernel
theorem dX7_number_31 : decode cX7_number 31 = .ok (.aload_n 0, 1) := by decide +kernel
theorem dX7_number_32 : decode cX7_number 32 = .ok (.getfield 19, 3) := by decide +kernel
theorem dX7_number_35 : decode cX7_number 35 = .ok (.aload_n 0, 1) := by decide +kernel
theorem dX7_number_36 : decode cX7_number 36 = .ok (.dup, 1) := by decide +kernel
theorem dX7_number_37 : decode cX7_number 37 = .ok (.getfield 191, 3) := by decide +kernel
theorem dX7_number_40 : decode cX7_number 40 = .ok (.dup_x1, 1) := by decide +kernel
theorem dX7_number_41 : decode cX7_number 41 = .ok (.iconst 1, 1) := by decide +kernel
theorem dX7_number_42 : decode cX7_number 42 = .ok (.iadd, 1) := by decide +kernel
theorem dX7_number_43 : decode cX7_number 43 = .ok (.putfield 191, 3) := by decide +kernel
theorem dX7_number_46 : decode cX7_number 46 = .ok (.iaload, 1) := by decide +kernel
theorem dX7_number_47 : decode cX7_number 47 = .ok (.iadd, 1) := by decide +kernel
theorem dX7_number_48 : decode cX7_number 48 = .ok (.bipush 48, 2) := by decide +kernel
theorem dX7_number_50 : decode cX7_number 50 = .ok (.isub, 1) := by decide +kernel
theorem dX7_number_51 : decode cX7_number 51 = .ok (.istore_n 1, 1) := by decide +kernel
theorem dX7_number_52 : decode cX7_number 52 = .ok (.iinc 2 1, 3) := by decide +kernel
theorem dX7_number_55 : decode cX7_number 55 = .ok (.goto (-51), 3) := by decide +kernel
theorem dX7_number_58 : decode cX7_number 58 = .ok (.iload_n 1, 1) := by decide +kernel
theorem dX7_number_59 : decode cX7_number 59 = .ok (.ireturn, 1) := by decide +kernel
theorem dX7_entry_0 : decode cX7_entry 0 = .ok (.aload_n 0, 1) := by decide +kernel
theorem dX7_entry_1 : decode cX7_entry 1 = .ok (.invokevirtual 197, 3) := by decide +kernel
theorem dX7_entry_4 : decode cX7_entry 4 = .ok (.istore_n 2, 1) := by decide +kernel
theorem dX7_entry_5 : decode cX7_entry 5 = .ok (.iload_n 2, 1) := by decide +kernel
theorem dX7_entry_6 : decode cX7_entry 6 = .ok (.ifCond .ge 5, 3) := by decide +kernel
theorem dX7_entry_9 : decode cX7_entry 9 = .ok (.iconst (-1), 1) := by decide +kernel
theorem dX7_entry_10 : decode cX7_entry 10 = .ok (.ireturn, 1) := by decide +kernel
theorem dX7_entry_11 : decode cX7_entry 11 = .ok (.aload_n 0, 1) := by decide +kernel
theorem dX7_entry_12 : decode cX7_entry 12 = .ok (.invokevirtual 194, 3) := by decide +kernel
theorem dX7_entry_15 : decode cX7_entry 15 = .ok (.istore_n 3, 1) := by decide +kernel
theorem dX7_entry_16 : decode cX7_entry 16 = .ok (.iload_n 3, 1) := by decide +kernel
theorem dX7_entry_17 : decode cX7_entry 17 = .ok (.bipush 44, 2) := by decide +kernel
theorem dX7_entry_19 : decode cX7_entry 19 = .ok (.if_icmp .eq 11, 3) := by decide +kernel
theorem dX7_entry_22 : decode cX7_entry 22 = .ok (.iload_n 3, 1) := by decide +kernel
theorem dX7_entry_23 : decode cX7_entry 23 = .ok (.bipush 45, 2) := by decide +kernel
theorem dX7_entry_25 : decode cX7_entry 25 = .ok (.if_icmp .eq 5, 3) := by decide +kernel
theorem dX7_entry_28 : decode cX7_entry 28 = .ok (.iconst (-1), 1) := by decide +kernel
theorem dX7_entry_29 : decode cX7_entry 29 = .ok (.ireturn, 1) := by decide +kernel
theorem dX7_entry_30 : decode cX7_entry 30 = .ok (.aload_n 0, 1) := by decide +kernel
theorem dX7_entry_31 : decode cX7_entry 31 = .ok (.dup, 1) := by decide +kernel
theorem dX7_entry_32 : decode cX7_entry 32 = .ok (.getfield 191, 3) := by decide +kernel
theorem dX7_entry_35 : decode cX7_entry 35 = .ok (.iconst 1, 1) := by decide +kernel
theorem dX7_entry_36 : decode cX7_entry 36 = .ok (.iadd, 1) := by decide +kernel
theorem dX7_entry_37 : decode cX7_entry 37 = .ok (.putfield 191, 3) := by decide +kernel
theorem dX7_entry_40 : decode cX7_entry 40 = .ok (.aload_n 0, 1) := by decide +kernel
theorem dX7_entry_41 : decode cX7_entry 41 = .ok (.invokevirtual 197, 3) := by decide +kernel
theorem dX7_entry_44 : decode cX7_entry 44 = .ok (.istore 4, 2) := by decide +kernel
theorem dX7_entry_46 : decode cX7_entry 46 = .ok (.iload 4, 2) := by decide +kernel
theorem dX7_entry_48 : decode cX7_entry 48 = .ok (.ifCond .ge 5, 3) := by decide +kernel
theorem dX7_entry_51 : decode cX7_entry 51 = .ok (.iconst (-1), 1) := by decide +kernel
theorem dX7_entry_52 : decode cX7_entry 52 = .ok (.ireturn, 1) := by decide +kernel
theorem dX7_entry_53 : decode cX7_entry 53 = .ok (.iload_n 1, 1) := by decide +kernel
theorem dX7_entry_54 : decode cX7_entry 54 = .ok (.ifCond .ne 5, 3) := by decide +kernel
theorem dX7_entry_57 : decode cX7_entry 57 = .ok (.iconst 1, 1) := by decide +kernel
theorem dX7_entry_58 : decode cX7_entry 58 = .ok (.ireturn, 1) := by decide +kernel
theorem dX7_entry_59 : decode cX7_entry 59 = .ok (.iload_n 3, 1) := by decide +kernel
theorem dX7_entry_60 : decode cX7_entry 60 = .ok (.bipush 44, 2) := by decide +kernel
theorem dX7_entry_62 : decode cX7_entry 62 = .ok (.if_icmp .ne 13, 3) := by decide +kernel
theorem dX7_entry_65 : decode cX7_entry 65 = .ok (.aload_n 0, 1) := by decide +kernel
theorem dX7_entry_66 : decode cX7_entry 66 = .ok (.iload_n 2, 1) := by decide +kernel
theorem dX7_entry_67 : decode cX7_entry 67 = .ok (.iload 4, 2) := by decide +kernel
theorem dX7_entry_69 : decode cX7_entry 69 = .ok (.invokevirtual 200, 3) := by decide +kernel
theorem dX7_entry_72 : decode cX7_entry 72 = .ok (.goto 10, 3) := by decide +kernel
theorem dX7_entry_75 : decode cX7_entry 75 = .ok (.aload_n 0, 1) := by decide +kernel
theorem dX7_entry_76 : decode cX7_entry 76 = .ok (.iload_n 2, 1) := by decide +kernel
theorem dX7_entry_77 : decode cX7_entry 77 = .ok (.iload 4, 2) := by decide +kernel
theorem dX7_entry_79 : decode cX7_entry 79 = .ok (.invokevirtual 203, 3) := by decide +kernel
theorem dX7_entry_82 : decode cX7_entry 82 = .ok (.istore 5, 2) := by decide +kernel
theorem dX7_entry_84 : decode cX7_entry 84 = .ok (.aload_n 0, 1) := by decide +kernel
theorem dX7_entry_85 : decode cX7_entry 85 = .ok (.getfield 44, 3) := by decide +kernel
theorem dX7_entry_88 : decode cX7_entry 88 = .ok (.ifCond .ne 12, 3) := by decide +kernel
theorem dX7_entry_91 : decode cX7_entry 91 = .ok (.iload 5, 2) := by decide +kernel
theorem dX7_entry_93 : decode cX7_entry 93 = .ok (.ifCond .lt 7, 3) := by decide +kernel
theorem dX7_entry_96 : decode cX7_entry 96 = .ok (.iconst 1, 1) := by decide +kernel
theorem dX7_entry_97 : decode cX7_entry 97 = .ok (.goto 4, 3) := by decide +kernel
theorem dX7_entry_100 : decode cX7_entry 100 = .ok (.iconst 0, 1) := by decide +kernel
theorem dX7_entry_101 : decode cX7_entry 101 = .ok (.ireturn, 1) := by decide +kernel
theorem dX7_readInput_0 : decode cX7_readInput 0 = .ok (.aload_n 0, 1) := by decide +kernel
theorem dX7_readInput_1 : decode cX7_readInput 1 = .ok (.iconst 0, 1) := by decide +kernel
theorem dX7_readInput_2 : decode cX7_readInput 2 = .ok (.putfield 44, 3) := by decide +kernel
theorem dX7_readInput_5 : decode cX7_readInput 5 = .ok (.aload_n 0, 1) := by decide +kernel
theorem dX7_readInput_6 : decode cX7_readInput 6 = .ok (.iconst 0, 1) := by decide +kernel
theorem dX7_readInput_7 : decode cX7_readInput 7 = .ok (.putfield 191, 3) := by decide +kernel
theorem dX7_readInput_10 : decode cX7_readInput 10 = .ok (.iconst 1, 1) := by decide +kernel
theorem dX7_readInput_11 : decode cX7_readInput 11 = .ok (.istore_n 1, 1) := by decide +kernel
theorem dX7_readInput_12 : decode cX7_readInput 12 = .ok (.iload_n 1, 1) := by decide +kernel
theorem dX7_readInput_13 : decode cX7_readInput 13 = .ok (.ifCond .eq 76, 3) := by decide +kernel
theorem dX7_readInput_16 : decode cX7_readInput 16 = .ok (.aload_n 0, 1) := by decide +kernel
theorem dX7_readInput_17 : decode cX7_readInput 17 = .ok (.iconst 0, 1) := by decide +kernel
theorem dX7_readInput_18 : decode cX7_readInput 18 = .ok (.invokevirtual 206, 3) := by decide +kernel
theorem dX7_readInput_21 : decode cX7_readInput 21 = .ok (.ifCond .le 7, 3) := by decide +kernel
theorem dX7_readInput_24 : decode cX7_readInput 24 = .ok (.iconst 1, 1) := by decide +kernel
theorem dX7_readInput_25 : decode cX7_readInput 25 = .ok (.goto 4, 3) := by decide +kernel
theorem dX7_readInput_28 : decode cX7_readInput 28 = .ok (.iconst 0, 1) := by decide +kernel
theorem dX7_readInput_29 : decode cX7_readInput 29 = .ok (.istore_n 1, 1) := by decide +kernel
theorem dX7_readInput_30 : decode cX7_readInput 30 = .ok (.iload_n 1, 1) := by decide +kernel
theorem dX7_readInput_31 : decode cX7_readInput 31 = .ok (.ifCond .ne 6, 3) := by decide +kernel
theorem dX7_readInput_34 : decode cX7_readInput 34 = .ok (.goto 55, 3) := by decide +kernel
theorem dX7_readInput_37 : decode cX7_readInput 37 = .ok (.aload_n 0, 1) := by decide +kernel
theorem dX7_readInput_38 : decode cX7_readInput 38 = .ok (.invokevirtual 194, 3) := by decide +kernel
theorem dX7_readInput_41 : decode cX7_readInput 41 = .ok (.bipush 59, 2) := by decide +kernel
theorem dX7_readInput_43 : decode cX7_readInput 43 = .ok (.if_icmp .ne 7, 3) := by decide +kernel
theorem dX7_readInput_46 : decode cX7_readInput 46 = .ok (.iconst 1, 1) := by decide +kernel
theorem dX7_readInput_47 : decode cX7_readInput 47 = .ok (.goto 4, 3) := by decide +kernel
theorem dX7_readInput_50 : decode cX7_readInput 50 = .ok (.iconst 0, 1) := by decide +kernel
theorem dX7_readInput_51 : decode cX7_readInput 51 = .ok (.istore_n 1, 1) := by decide +kernel
theorem dX7_readInput_52 : decode cX7_readInput 52 = .ok (.iload_n 1, 1) := by decide +kernel
theorem dX7_readInput_53 : decode cX7_readInput 53 = .ok (.ifCond .eq 16, 3) := by decide +kernel
theorem dX7_readInput_56 : decode cX7_readInput 56 = .ok (.aload_n 0, 1) := by decide +kernel
theorem dX7_readInput_57 : decode cX7_readInput 57 = .ok (.dup, 1) := by decide +kernel
theorem dX7_readInput_58 : decode cX7_readInput 58 = .ok (.getfield 191, 3) := by decide +kernel
theorem dX7_readInput_61 : decode cX7_readInput 61 = .ok (.iconst 1, 1) := by decide +kernel
theorem dX7_readInput_62 : decode cX7_readInput 62 = .ok (.iadd, 1) := by decide +kernel
theorem dX7_readInput_63 : decode cX7_readInput 63 = .ok (.putfield 191, 3) := by decide +kernel
theorem dX7_readInput_66 : decode cX7_readInput 66 = .ok (.goto (-54), 3) := by decide +kernel
theorem dX7_readInput_69 : decode cX7_readInput 69 = .ok (.aload_n 0, 1) := by decide +kernel
theorem dX7_readInput_70 : decode cX7_readInput 70 = .ok (.getfield 191, 3) := by decide +kernel
theorem dX7_readInput_73 : decode cX7_readInput 73 = .ok (.aload_n 0, 1) := by decide +kernel
theorem dX7_readInput_74 : decode cX7_readInput 74 = .ok (.getfield 188, 3) := by decide +kernel
theorem dX7_readInput_77 : decode cX7_readInput 77 = .ok (.if_icmp .ne (-65), 3) := by decide +kernel
theorem dX7_readInput_80 : decode cX7_readInput 80 = .ok (.aload_n 0, 1) := by decide +kernel
theorem dX7_readInput_81 : decode cX7_readInput 81 = .ok (.bipush 61, 2) := by decide +kernel
theorem dX7_readInput_83 : decode cX7_readInput 83 = .ok (.putfield 191, 3) := by decide +kernel
theorem dX7_readInput_86 : decode cX7_readInput 86 = .ok (.goto (-74), 3) := by decide +kernel
theorem dX7_readInput_89 : decode cX7_readInput 89 = .ok (.aload_n 0, 1) := by decide +kernel
theorem dX7_readInput_90 : decode cX7_readInput 90 = .ok (.getfield 191, 3) := by decide +kernel
theorem dX7_readInput_93 : decode cX7_readInput 93 = .ok (.bipush 60, 2) := by decide +kernel
theorem dX7_readInput_95 : decode cX7_readInput 95 = .ok (.if_icmp .gt 16, 3) := by decide +kernel
theorem dX7_readInput_98 : decode cX7_readInput 98 = .ok (.aload_n 0, 1) := by decide +kernel
theorem dX7_readInput_99 : decode cX7_readInput 99 = .ok (.iconst 0, 1) := by decide +kernel
theorem dX7_readInput_100 : decode cX7_readInput 100 = .ok (.putfield 188, 3) := by decide +kernel
theorem dX7_readInput_103 : decode cX7_readInput 103 = .ok (.bipush (-100), 2) := by decide +kernel
theorem dX7_readInput_105 : decode cX7_readInput 105 = .ok (.aload_n 0, 1) := by decide +kernel
theorem dX7_readInput_106 : decode cX7_readInput 106 = .ok (.getfield 191, 3) := by decide +kernel
theorem dX7_readInput_109 : decode cX7_readInput 109 = .ok (.isub, 1) := by decide +kernel
theorem dX7_readInput_110 : decode cX7_readInput 110 = .ok (.ireturn, 1) := by decide +kernel
theorem dX7_readInput_111 : decode cX7_readInput 111 = .ok (.aload_n 0, 1) := by decide +kernel
theorem dX7_readInput_112 : decode cX7_readInput 112 = .ok (.iconst 0, 1) := by decide +kernel
theorem dX7_readInput_113 : decode cX7_readInput 113 = .ok (.putfield 191, 3) := by decide +kernel
theorem dX7_readInput_116 : decode cX7_readInput 116 = .ok (.iconst 0, 1) := by decide +kernel
theorem dX7_readInput_117 : decode cX7_readInput 117 = .ok (.istore_n 2, 1) := by decide +kernel
theorem dX7_readInput_118 : decode cX7_readInput 118 = .ok (.aload_n 0, 1) := by decide +kernel
theorem dX7_readInput_119 : decode cX7_readInput 119 = .ok (.getfield 191, 3) := by decide +kernel
theorem dX7_readInput_122 : decode cX7_readInput 122 = .ok (.aload_n 0, 1) := by decide +kernel
theorem dX7_readInput_123 : decode cX7_readInput 123 = .ok (.getfield 188, 3) := by decide +kernel
theorem dX7_readInput_126 : decode cX7_readInput 126 = .ok (.if_icmp .ge 27, 3) := by decide +kernel
theorem dX7_readInput_129 : decode cX7_readInput 129 = .ok (.aload_n 0, 1) := by decide +kernel
theorem dX7_readInput_130 : decode cX7_readInput 130 = .ok (.iconst 1, 1) := by decide +kernel
theorem dX7_readInput_131 : decode cX7_readInput 131 = .ok (.invokevirtual 206, 3) := by decide +kernel
theorem dX7_readInput_134 : decode cX7_readInput 134 = .ok (.ifCond .le 19, 3) := by decide +kernel
theorem dX7_readInput_137 : decode cX7_readInput 137 = .ok (.iinc 2 1, 3) := by decide +kernel
theorem dX7_readInput_140 : decode cX7_readInput 140 = .ok (.aload_n 0, 1) := by decide +kernel
theorem dX7_readInput_141 : decode cX7_readInput 141 = .ok (.dup, 1) := by decide +kernel
theorem dX7_readInput_142 : decode cX7_readInput 142 = .ok (.getfield 191, 3) := by decide +kernel
theorem dX7_readInput_145 : decode cX7_readInput 145 = .ok (.iconst 1, 1) := by decide +kernel
theorem dX7_readInput_146 : decode cX7_readInput 146 = .ok (.iadd, 1) := by decide +kernel
theorem dX7_readInput_147 : decode cX7_readInput 147 = .ok (.putfield 191, 3) := by decide +kernel
theorem dX7_readInput_150 : decode cX7_readInput 150 = .ok (.goto (-32), 3) := by decide +kernel
theorem dX7_readInput_153 : decode cX7_readInput 153 = .ok (.aload_n 0, 1) := by decide +kernel
theorem dX7_readInput_154 : decode cX7_readInput 154 = .ok (.iconst 0, 1) := by decide +kernel
theorem dX7_readInput_155 : decode cX7_readInput 155 = .ok (.putfield 188, 3) := by decide +kernel
theorem dX7_readInput_158 : decode cX7_readInput 158 = .ok (.aload_n 0, 1) := by decide +kernel
theorem dX7_readInput_159 : decode cX7_readInput 159 = .ok (.iconst 0, 1) := by decide +kernel
theorem dX7_readInput_160 : decode cX7_readInput 160 = .ok (.putfield 44, 3) := by decide +kernel
theorem dX7_readInput_163 : decode cX7_readInput 163 = .ok (.iload_n 2, 1) := by decide +kernel
theorem dX7_readInput_164 : decode cX7_readInput 164 = .ok (.ireturn, 1) := by decide +kernel
theorem dX7_triangleCount_0 : decode cX7_triangleCount 0 = .ok (.aload_n 0, 1) := by decide +kernel
theorem dX7_triangleCount_1 : decode cX7_triangleCount 1 = .ok (.iconst 0, 1) := by decide +kernel
theorem dX7_triangleCount_2 : decode cX7_triangleCount 2 = .ok (.putfield 44, 3) := by decide +kernel
theorem dX7_triangleCount_5 : decode cX7_triangleCount 5 = .ok (.aload_n 0, 1) := by decide +kernel
theorem dX7_triangleCount_6 : decode cX7_triangleCount 6 = .ok (.invokevirtual 210, 3) := by decide +kernel
theorem dX7_triangleCount_9 : decode cX7_triangleCount 9 = .ok (.aload_n 0, 1) := by decide +kernel
theorem dX7_triangleCount_10 : decode cX7_triangleCount 10 = .ok (.getfield 114, 3) := by decide +kernel
theorem dX7_triangleCount_13 : decode cX7_triangleCount 13 = .ok (.ireturn, 1) := by decide +kernel
theorem dX7_isTriangle_0 : decode cX7_isTriangle 0 = .ok (.aload_n 0, 1) := by decide +kernel
theorem dX7_isTriangle_1 : decode cX7_isTriangle 1 = .ok (.invokevirtual 210, 3) := by decide +kernel
theorem dX7_isTriangle_4 : decode cX7_isTriangle 4 = .ok (.iload_n 1, 1) := by decide +kernel
theorem dX7_isTriangle_5 : decode cX7_isTriangle 5 = .ok (.iconst 0, 1) := by decide +kernel
theorem dX7_isTriangle_6 : decode cX7_isTriangle 6 = .ok (.aload_n 0, 1) := by decide +kernel
theorem dX7_isTriangle_7 : decode cX7_isTriangle 7 = .ok (.getfield 114, 3) := by decide +kernel
theorem dX7_isTriangle_10 : decode cX7_isTriangle 10 = .ok (.iconst 1, 1) := by decide +kernel
theorem dX7_isTriangle_11 : decode cX7_isTriangle 11 = .ok (.isub, 1) := by decide +kernel
theorem dX7_isTriangle_12 : decode cX7_isTriangle 12 = .ok (.invokestatic 52, 3) := by decide +kernel
theorem dX7_isTriangle_15 : decode cX7_isTriangle 15 = .ok (.ireturn, 1) := by decide +kernel
theorem dX7_corner_0 : decode cX7_corner 0 = .ok (.aload_n 0, 1) := by decide +kernel
theorem dX7_corner_1 : decode cX7_corner 1 = .ok (.iconst 0, 1) := by decide +kernel
theorem dX7_corner_2 : decode cX7_corner 2 = .ok (.putfield 44, 3) := by decide +kernel
theorem dX7_corner_5 : decode cX7_corner 5 = .ok (.aload_n 0, 1) := by decide +kernel
theorem dX7_corner_6 : decode cX7_corner 6 = .ok (.iload_n 1, 1) := by decide +kernel
theorem dX7_corner_7 : decode cX7_corner 7 = .ok (.invokevirtual 213, 3) := by decide +kernel
theorem dX7_corner_10 : decode cX7_corner 10 = .ok (.ifCond .ne 9, 3) := by decide +kernel
theorem dX7_corner_13 : decode cX7_corner 13 = .ok (.aload_n 0, 1) := by decide +kernel
theorem dX7_corner_14 : decode cX7_corner 14 = .ok (.iconst 1, 1) := by decide +kernel
theorem dX7_corner_15 : decode cX7_corner 15 = .ok (.invokevirtual 172, 3) := by decide +kernel
theorem dX7_corner_18 : decode cX7_corner 18 = .ok (.ireturn, 1) := by decide +kernel
theorem dX7_corner_19 : decode cX7_corner 19 = .ok (.iload_n 2, 1) := by decide +kernel
theorem dX7_corner_20 : decode cX7_corner 20 = .ok (.iconst 0, 1) := by decide +kernel
theorem dX7_corner_21 : decode cX7_corner 21 = .ok (.iconst 2, 1) := by decide +kernel
theorem dX7_corner_22 : decode cX7_corner 22 = .ok (.invokestatic 52, 3) := by decide +kernel
theorem dX7_corner_25 : decode cX7_corner 25 = .ok (.ifCond .eq 12, 3) := by decide +kernel
theorem dX7_corner_28 : decode cX7_corner 28 = .ok (.aload_n 0, 1) := by decide +kernel
theorem dX7_corner_29 : decode cX7_corner 29 = .ok (.iload_n 1, 1) := by decide +kernel
theorem dX7_corner_30 : decode cX7_corner 30 = .ok (.iload_n 2, 1) := by decide +kernel
theorem dX7_corner_31 : decode cX7_corner 31 = .ok (.invokevirtual 147, 3) := by decide +kernel
theorem dX7_corner_34 : decode cX7_corner 34 = .ok (.goto 8, 3) := by decide +kernel
theorem dX7_corner_37 : decode cX7_corner 37 = .ok (.aload_n 0, 1) := by decide +kernel
theorem dX7_corner_38 : decode cX7_corner 38 = .ok (.iconst 2, 1) := by decide +kernel
theorem dX7_corner_39 : decode cX7_corner 39 = .ok (.invokevirtual 172, 3) := by decide +kernel
theorem dX7_corner_42 : decode cX7_corner 42 = .ok (.ireturn, 1) := by decide +kernel
theorem dX7_beyondOf_0 : decode cX7_beyondOf 0 = .ok (.aload_n 0, 1) := by decide +kernel
theorem dX7_beyondOf_1 : decode cX7_beyondOf 1 = .ok (.iload_n 1, 1) := by decide +kernel
theorem dX7_beyondOf_2 : decode cX7_beyondOf 2 = .ok (.iload_n 2, 1) := by decide +kernel
theorem dX7_beyondOf_3 : decode cX7_beyondOf 3 = .ok (.invokevirtual 147, 3) := by decide +kernel
theorem dX7_beyondOf_6 : decode cX7_beyondOf 6 = .ok (.istore_n 3, 1) := by decide +kernel
theorem dX7_beyondOf_7 : decode cX7_beyondOf 7 = .ok (.aload_n 0, 1) := by decide +kernel
theorem dX7_beyondOf_8 : decode cX7_beyondOf 8 = .ok (.iload_n 1, 1) := by decide +kernel
theorem dX7_beyondOf_9 : decode cX7_beyondOf 9 = .ok (.iload_n 2, 1) := by decide +kernel
theorem dX7_beyondOf_10 : decode cX7_beyondOf 10 = .ok (.iconst 1, 1) := by decide +kernel
theorem dX7_beyondOf_11 : decode cX7_beyondOf 11 = .ok (.iadd, 1) := by decide +kernel
theorem dX7_beyondOf_12 : decode cX7_beyondOf 12 = .ok (.invokevirtual 147, 3) := by decide +kernel
theorem dX7_beyondOf_15 : decode cX7_beyondOf 15 = .ok (.istore 4, 2) := by decide +kernel
theorem dX7_beyondOf_17 : decode cX7_beyondOf 17 = .ok (.aload_n 0, 1) := by decide +kernel
theorem dX7_beyondOf_18 : decode cX7_beyondOf 18 = .ok (.iload 4, 2) := by decide +kernel
theorem dX7_beyondOf_20 : decode cX7_beyondOf 20 = .ok (.iload_n 3, 1) := by decide +kernel
theorem dX7_beyondOf_21 : decode cX7_beyondOf 21 = .ok (.invokevirtual 141, 3) := by decide +kernel
theorem dX7_beyondOf_24 : decode cX7_beyondOf 24 = .ok (.istore 5, 2) := by decide +kernel
theorem dX7_beyondOf_26 : decode cX7_beyondOf 26 = .ok (.iload 5, 2) := by decide +kernel
theorem dX7_beyondOf_28 : decode cX7_beyondOf 28 = .ok (.ifCond .ge 7, 3) := by decide +kernel
theorem dX7_beyondOf_31 : decode cX7_beyondOf 31 = .ok (.iconst (-1), 1) := by decide +kernel
theorem dX7_beyondOf_32 : decode cX7_beyondOf 32 = .ok (.goto 12, 3) := by decide +kernel
theorem dX7_beyondOf_35 : decode cX7_beyondOf 35 = .ok (.aload_n 0, 1) := by decide +kernel
theorem dX7_beyondOf_36 : decode cX7_beyondOf 36 = .ok (.iload 4, 2) := by decide +kernel
theorem dX7_beyondOf_38 : decode cX7_beyondOf 38 = .ok (.iload_n 3, 1) := by decide +kernel
theorem dX7_beyondOf_39 : decode cX7_beyondOf 39 = .ok (.iload 5, 2) := by decide +kernel
theorem dX7_beyondOf_41 : decode cX7_beyondOf 41 = .ok (.invokevirtual 216, 3) := by decide +kernel
theorem dX7_beyondOf_44 : decode cX7_beyondOf 44 = .ok (.ireturn, 1) := by decide +kernel
theorem dX7_beyond_0 : decode cX7_beyond 0 = .ok (.aload_n 0, 1) := by decide +kernel
theorem dX7_beyond_1 : decode cX7_beyond 1 = .ok (.iconst 0, 1) := by decide +kernel
theorem dX7_beyond_2 : decode cX7_beyond 2 = .ok (.putfield 44, 3) := by decide +kernel
theorem dX7_beyond_5 : decode cX7_beyond 5 = .ok (.aload_n 0, 1) := by decide +kernel
theorem dX7_beyond_6 : decode cX7_beyond 6 = .ok (.iload_n 1, 1) := by decide +kernel
theorem dX7_beyond_7 : decode cX7_beyond 7 = .ok (.invokevirtual 213, 3) := by decide +kernel
theorem dX7_beyond_10 : decode cX7_beyond 10 = .ok (.ifCond .ne 9, 3) := by decide +kernel
theorem dX7_beyond_13 : decode cX7_beyond 13 = .ok (.aload_n 0, 1) := by decide +kernel
theorem dX7_beyond_14 : decode cX7_beyond 14 = .ok (.iconst 1, 1) := by decide +kernel
theorem dX7_beyond_15 : decode cX7_beyond 15 = .ok (.invokevirtual 172, 3) := by decide +kernel
theorem dX7_beyond_18 : decode cX7_beyond 18 = .ok (.ireturn, 1) := by decide +kernel
theorem dX7_beyond_19 : decode cX7_beyond 19 = .ok (.iload_n 2, 1) := by decide +kernel
theorem dX7_beyond_20 : decode cX7_beyond 20 = .ok (.iconst 0, 1) := by decide +kernel
theorem dX7_beyond_21 : decode cX7_beyond 21 = .ok (.iconst 2, 1) := by decide +kernel
theorem dX7_beyond_22 : decode cX7_beyond 22 = .ok (.invokestatic 52, 3) := by decide +kernel
theorem dX7_beyond_25 : decode cX7_beyond 25 = .ok (.ifCond .eq 12, 3) := by decide +kernel
theorem dX7_beyond_28 : decode cX7_beyond 28 = .ok (.aload_n 0, 1) := by decide +kernel
theorem dX7_beyond_29 : decode cX7_beyond 29 = .ok (.iload_n 1, 1) := by decide +kernel
theorem dX7_beyond_30 : decode cX7_beyond 30 = .ok (.iload_n 2, 1) := by decide +kernel
theorem dX7_beyond_31 : decode cX7_beyond 31 = .ok (.invokevirtual 219, 3) := by decide +kernel
theorem dX7_beyond_34 : decode cX7_beyond 34 = .ok (.goto 8, 3) := by decide +kernel
theorem dX7_beyond_37 : decode cX7_beyond 37 = .ok (.aload_n 0, 1) := by decide +kernel
theorem dX7_beyond_38 : decode cX7_beyond 38 = .ok (.iconst 2, 1) := by decide +kernel
theorem dX7_beyond_39 : decode cX7_beyond 39 = .ok (.invokevirtual 172, 3) := by decide +kernel
theorem dX7_beyond_42 : decode cX7_beyond 42 = .ok (.ireturn, 1) := by decide +kernel
theorem dX7_edgeCount_0 : decode cX7_edgeCount 0 = .ok (.aload_n 0, 1) := by decide +kernel
theorem dX7_edgeCount_1 : decode cX7_edgeCount 1 = .ok (.iconst 0, 1) := by decide +kernel
theorem dX7_edgeCount_2 : decode cX7_edgeCount 2 = .ok (.putfield 44, 3) := by decide +kernel
theorem dX7_edgeCount_5 : decode cX7_edgeCount 5 = .ok (.aload_n 0, 1) := by decide +kernel
theorem dX7_edgeCount_6 : decode cX7_edgeCount 6 = .ok (.invokevirtual 210, 3) := by decide +kernel
theorem dX7_edgeCount_9 : decode cX7_edgeCount 9 = .ok (.aload_n 0, 1) := by decide +kernel
theorem dX7_edgeCount_10 : decode cX7_edgeCount 10 = .ok (.invokevirtual 222, 3) := by decide +kernel
theorem dX7_edgeCount_13 : decode cX7_edgeCount 13 = .ok (.ireturn, 1) := by decide +kernel
theorem dX7_edgeEnd_0 : decode cX7_edgeEnd 0 = .ok (.aload_n 0, 1) := by decide +kernel
theorem dX7_edgeEnd_1 : decode cX7_edgeEnd 1 = .ok (.iconst 0, 1) := by decide +kernel
theorem dX7_edgeEnd_2 : decode cX7_edgeEnd 2 = .ok (.putfield 44, 3) := by decide +kernel
theorem dX7_edgeEnd_5 : decode cX7_edgeEnd 5 = .ok (.aload_n 0, 1) := by decide +kernel
theorem dX7_edgeEnd_6 : decode cX7_edgeEnd 6 = .ok (.invokevirtual 210, 3) := by decide +kernel
theorem dX7_edgeEnd_9 : decode cX7_edgeEnd 9 = .ok (.aload_n 0, 1) := by decide +kernel
theorem dX7_edgeEnd_10 : decode cX7_edgeEnd 10 = .ok (.iload_n 1, 1) := by decide +kernel
theorem dX7_edgeEnd_11 : decode cX7_edgeEnd 11 = .ok (.invokevirtual 225, 3) := by decide +kernel
theorem dX7_edgeEnd_14 : decode cX7_edgeEnd 14 = .ok (.ifCond .ne 9, 3) := by decide +kernel
theorem dX7_edgeEnd_17 : decode cX7_edgeEnd 17 = .ok (.aload_n 0, 1) := by decide +kernel
theorem dX7_edgeEnd_18 : decode cX7_edgeEnd 18 = .ok (.iconst 1, 1) := by decide +kernel
theorem dX7_edgeEnd_19 : decode cX7_edgeEnd 19 = .ok (.invokevirtual 172, 3) := by decide +kernel
theorem dX7_edgeEnd_22 : decode cX7_edgeEnd 22 = .ok (.ireturn, 1) := by decide +kernel
theorem dX7_edgeEnd_23 : decode cX7_edgeEnd 23 = .ok (.iload_n 2, 1) := by decide +kernel
theorem dX7_edgeEnd_24 : decode cX7_edgeEnd 24 = .ok (.iconst 0, 1) := by decide +kernel
theorem dX7_edgeEnd_25 : decode cX7_edgeEnd 25 = .ok (.iconst 1, 1) := by decide +kernel
theorem dX7_edgeEnd_26 : decode cX7_edgeEnd 26 = .ok (.invokestatic 52, 3) := by decide +kernel
theorem dX7_edgeEnd_29 : decode cX7_edgeEnd 29 = .ok (.ifCond .eq 12, 3) := by decide +kernel
theorem dX7_edgeEnd_32 : decode cX7_edgeEnd 32 = .ok (.aload_n 0, 1) := by decide +kernel
theorem dX7_edgeEnd_33 : decode cX7_edgeEnd 33 = .ok (.getfield 38, 3) := by decide +kernel
theorem dX7_edgeEnd_36 : decode cX7_edgeEnd 36 = .ok (.iload_n 2, 1) := by decide +kernel
theorem dX7_edgeEnd_37 : decode cX7_edgeEnd 37 = .ok (.iaload, 1) := by decide +kernel
theorem dX7_edgeEnd_38 : decode cX7_edgeEnd 38 = .ok (.goto 8, 3) := by decide +kernel
theorem dX7_edgeEnd_41 : decode cX7_edgeEnd 41 = .ok (.aload_n 0, 1) := by decide +kernel
theorem dX7_edgeEnd_42 : decode cX7_edgeEnd 42 = .ok (.iconst 2, 1) := by decide +kernel
theorem dX7_edgeEnd_43 : decode cX7_edgeEnd 43 = .ok (.invokevirtual 172, 3) := by decide +kernel
theorem dX7_edgeEnd_46 : decode cX7_edgeEnd 46 = .ok (.ireturn, 1) := by decide +kernel
theorem dX7_edgeBetween_0 : decode cX7_edgeBetween 0 = .ok (.aload_n 0, 1) := by decide +kernel
theorem dX7_edgeBetween_1 : decode cX7_edgeBetween 1 = .ok (.iconst 0, 1) := by decide +kernel
theorem dX7_edgeBetween_2 : decode cX7_edgeBetween 2 = .ok (.putfield 44, 3) := by decide +kernel
theorem dX7_edgeBetween_5 : decode cX7_edgeBetween 5 = .ok (.aload_n 0, 1) := by decide +kernel
theorem dX7_edgeBetween_6 : decode cX7_edgeBetween 6 = .ok (.iload_n 1, 1) := by decide +kernel
theorem dX7_edgeBetween_7 : decode cX7_edgeBetween 7 = .ok (.invokevirtual 168, 3) := by decide +kernel
theorem dX7_edgeBetween_10 : decode cX7_edgeBetween 10 = .ok (.ifCond .eq 11, 3) := by decide +kernel
theorem dX7_edgeBetween_13 : decode cX7_edgeBetween 13 = .ok (.aload_n 0, 1) := by decide +kernel
theorem dX7_edgeBetween_14 : decode cX7_edgeBetween 14 = .ok (.iload_n 2, 1) := by decide +kernel
theorem dX7_edgeBetween_15 : decode cX7_edgeBetween 15 = .ok (.invokevirtual 168, 3) := by decide +kernel
theorem dX7_edgeBetween_18 : decode cX7_edgeBetween 18 = .ok (.ifCond .ne 9, 3) := by decide +kernel
theorem dX7_edgeBetween_21 : decode cX7_edgeBetween 21 = .ok (.aload_n 0, 1) := by decide +kernel
theorem dX7_edgeBetween_22 : decode cX7_edgeBetween 22 = .ok (.iconst 1, 1) := by decide +kernel
theorem dX7_edgeBetween_23 : decode cX7_edgeBetween 23 = .ok (.invokevirtual 172, 3) := by decide +kernel
theorem dX7_edgeBetween_26 : decode cX7_edgeBetween 26 = .ok (.ireturn, 1) := by decide +kernel
theorem dX7_edgeBetween_27 : decode cX7_edgeBetween 27 = .ok (.aload_n 0, 1) := by decide +kernel
theorem dX7_edgeBetween_28 : decode cX7_edgeBetween 28 = .ok (.invokevirtual 210, 3) := by decide +kernel
theorem dX7_edgeBetween_31 : decode cX7_edgeBetween 31 = .ok (.aload_n 0, 1) := by decide +kernel
theorem dX7_edgeBetween_32 : decode cX7_edgeBetween 32 = .ok (.iload_n 1, 1) := by decide +kernel
theorem dX7_edgeBetween_33 : decode cX7_edgeBetween 33 = .ok (.iload_n 2, 1) := by decide +kernel
theorem dX7_edgeBetween_34 : decode cX7_edgeBetween 34 = .ok (.invokevirtual 228, 3) := by decide +kernel
theorem dX7_edgeBetween_37 : decode cX7_edgeBetween 37 = .ok (.istore_n 3, 1) := by decide +kernel
theorem dX7_edgeBetween_38 : decode cX7_edgeBetween 38 = .ok (.iload_n 3, 1) := by decide +kernel
theorem dX7_edgeBetween_39 : decode cX7_edgeBetween 39 = .ok (.ifCond .ge 11, 3) := by decide +kernel
theorem dX7_edgeBetween_42 : decode cX7_edgeBetween 42 = .ok (.aload_n 0, 1) := by decide +kernel
theorem dX7_edgeBetween_43 : decode cX7_edgeBetween 43 = .ok (.iconst 2, 1) := by decide +kernel
theorem dX7_edgeBetween_44 : decode cX7_edgeBetween 44 = .ok (.invokevirtual 172, 3) := by decide +kernel
theorem dX7_edgeBetween_47 : decode cX7_edgeBetween 47 = .ok (.goto 4, 3) := by decide +kernel
theorem dX7_edgeBetween_50 : decode cX7_edgeBetween 50 = .ok (.iload_n 3, 1) := by decide +kernel
theorem dX7_edgeBetween_51 : decode cX7_edgeBetween 51 = .ok (.ireturn, 1) := by decide +kernel
theorem dX7_degree_0 : decode cX7_degree 0 = .ok (.aload_n 0, 1) := by decide +kernel
theorem dX7_degree_1 : decode cX7_degree 1 = .ok (.iconst 0, 1) := by decide +kernel
theorem dX7_degree_2 : decode cX7_degree 2 = .ok (.putfield 44, 3) := by decide +kernel
theorem dX7_degree_5 : decode cX7_degree 5 = .ok (.aload_n 0, 1) := by decide +kernel
theorem dX7_degree_6 : decode cX7_degree 6 = .ok (.iload_n 1, 1) := by decide +kernel
theorem dX7_degree_7 : decode cX7_degree 7 = .ok (.invokevirtual 168, 3) := by decide +kernel
theorem dX7_degree_10 : decode cX7_degree 10 = .ok (.ifCond .ne 9, 3) := by decide +kernel
theorem dX7_degree_13 : decode cX7_degree 13 = .ok (.aload_n 0, 1) := by decide +kernel
theorem dX7_degree_14 : decode cX7_degree 14 = .ok (.iconst 1, 1) := by decide +kernel
theorem dX7_degree_15 : decode cX7_degree 15 = .ok (.invokevirtual 172, 3) := by decide +kernel
theorem dX7_degree_18 : decode cX7_degree 18 = .ok (.ireturn, 1) := by decide +kernel
theorem dX7_degree_19 : decode cX7_degree 19 = .ok (.aload_n 0, 1) := by decide +kernel
theorem dX7_degree_20 : decode cX7_degree 20 = .ok (.invokevirtual 210, 3) := by decide +kernel
theorem dX7_degree_23 : decode cX7_degree 23 = .ok (.iconst 0, 1) := by decide +kernel
theorem dX7_degree_24 : decode cX7_degree 24 = .ok (.istore_n 2, 1) := by decide +kernel
theorem dX7_degree_25 : decode cX7_degree 25 = .ok (.iconst 0, 1) := by decide +kernel
theorem dX7_degree_26 : decode cX7_degree 26 = .ok (.istore_n 3, 1) := by decide +kernel
theorem dX7_degree_27 : decode cX7_degree 27 = .ok (.iload_n 3, 1) := by decide +kernel
theorem dX7_degree_28 : decode cX7_degree 28 = .ok (.aload_n 0, 1) := by decide +kernel
theorem dX7_degree_29 : decode cX7_degree 29 = .ok (.invokevirtual 48, 3) := by decide +kernel
theorem dX7_degree_32 : decode cX7_degree 32 = .ok (.if_icmp .ge 21, 3) := by decide +kernel
theorem dX7_degree_35 : decode cX7_degree 35 = .ok (.aload_n 0, 1) := by decide +kernel
theorem dX7_degree_36 : decode cX7_degree 36 = .ok (.iload_n 1, 1) := by decide +kernel
theorem dX7_degree_37 : decode cX7_degree 37 = .ok (.iload_n 3, 1) := by decide +kernel
theorem dX7_degree_38 : decode cX7_degree 38 = .ok (.invokevirtual 104, 3) := by decide +kernel
theorem dX7_degree_41 : decode cX7_degree 41 = .ok (.ifCond .eq 6, 3) := by decide +kernel
theorem dX7_degree_44 : decode cX7_degree 44 = .ok (.iinc 2 1, 3) := by decide +kernel
theorem dX7_degree_47 : decode cX7_degree 47 = .ok (.iinc 3 1, 3) := by decide +kernel
theorem dX7_degree_50 : decode cX7_degree 50 = .ok (.goto (-23), 3) := by decide +kernel
theorem dX7_degree_53 : decode cX7_degree 53 = .ok (.iload_n 2, 1) := by decide +kernel
theorem dX7_degree_54 : decode cX7_degree 54 = .ok (.ireturn, 1) := by decide +kernel
theorem dX7_neighbour_0 : decode cX7_neighbour 0 = .ok (.aload_n 0, 1) := by decide +kernel
theorem dX7_neighbour_1 : decode cX7_neighbour 1 = .ok (.iconst 0, 1) := by decide +kernel
theorem dX7_neighbour_2 : decode cX7_neighbour 2 = .ok (.putfield 44, 3) := by decide +kernel
theorem dX7_neighbour_5 : decode cX7_neighbour 5 = .ok (.aload_n 0, 1) := by decide +kernel
theorem dX7_neighbour_6 : decode cX7_neighbour 6 = .ok (.iload_n 1, 1) := by decide +kernel
theorem dX7_neighbour_7 : decode cX7_neighbour 7 = .ok (.invokevirtual 168, 3) := by decide +kernel
theorem dX7_neighbour_10 : decode cX7_neighbour 10 = .ok (.ifCond .ne 9, 3) := by decide +kernel
theorem dX7_neighbour_13 : decode cX7_neighbour 13 = .ok (.aload_n 0, 1) := by decide +kernel
theorem dX7_neighbour_14 : decode cX7_neighbour 14 = .ok (.iconst 1, 1) := by decide +kernel
theorem dX7_neighbour_15 : decode cX7_neighbour 15 = .ok (.invokevirtual 172, 3) := by decide +kernel
theorem dX7_neighbour_18 : decode cX7_neighbour 18 = .ok (.ireturn, 1) := by decide +kernel
theorem dX7_neighbour_19 : decode cX7_neighbour 19 = .ok (.aload_n 0, 1) := by decide +kernel
theorem dX7_neighbour_20 : decode cX7_neighbour 20 = .ok (.invokevirtual 210, 3) := by decide +kernel
theorem dX7_neighbour_23 : decode cX7_neighbour 23 = .ok (.iload_n 2, 1) := by decide +kernel
theorem dX7_neighbour_24 : decode cX7_neighbour 24 = .ok (.istore_n 3, 1) := by decide +kernel
theorem dX7_neighbour_25 : decode cX7_neighbour 25 = .ok (.iconst 0, 1) := by decide +kernel
theorem dX7_neighbour_26 : decode cX7_neighbour 26 = .ok (.istore 4, 2) := by decide +kernel
theorem dX7_neighbour_28 : decode cX7_neighbour 28 = .ok (.iload 4, 2) := by decide +kernel
theorem dX7_neighbour_30 : decode cX7_neighbour 30 = .ok (.aload_n 0, 1) := by decide +kernel
theorem dX7_neighbour_31 : decode cX7_neighbour 31 = .ok (.invokevirtual 48, 3) := by decide +kernel
theorem dX7_neighbour_34 : decode cX7_neighbour 34 = .ok (.if_icmp .ge 32, 3) := by decide +kernel
theorem dX7_neighbour_37 : decode cX7_neighbour 37 = .ok (.aload_n 0, 1) := by decide +kernel
theorem dX7_neighbour_38 : decode cX7_neighbour 38 = .ok (.iload_n 1, 1) := by decide +kernel
theorem dX7_neighbour_39 : decode cX7_neighbour 39 = .ok (.iload 4, 2) := by decide +kernel
theorem dX7_neighbour_41 : decode cX7_neighbour 41 = .ok (.invokevirtual 104, 3) := by decide +kernel
theorem dX7_neighbour_44 : decode cX7_neighbour 44 = .ok (.ifCond .ne 6, 3) := by decide +kernel
theorem dX7_neighbour_47 : decode cX7_neighbour 47 = .ok (.goto 13, 3) := by decide +kernel
theorem dX7_neighbour_50 : decode cX7_neighbour 50 = .ok (.iload_n 3, 1) := by decide +kernel
theorem dX7_neighbour_51 : decode cX7_neighbour 51 = .ok (.ifCond .ne 6, 3) := by decide +kernel
theorem dX7_neighbour_54 : decode cX7_neighbour 54 = .ok (.iload 4, 2) := by decide +kernel
theorem dX7_neighbour_56 : decode cX7_neighbour 56 = .ok (.ireturn, 1) := by decide +kernel
theorem dX7_neighbour_57 : decode cX7_neighbour 57 = .ok (.iinc 3 (-1), 3) := by decide +kernel
theorem dX7_neighbour_60 : decode cX7_neighbour 60 = .ok (.iinc 4 1, 3) := by decide +kernel
theorem dX7_neighbour_63 : decode cX7_neighbour 63 = .ok (.goto (-35), 3) := by decide +kernel
theorem dX7_neighbour_66 : decode cX7_neighbour 66 = .ok (.aload_n 0, 1) := by decide +kernel
theorem dX7_neighbour_67 : decode cX7_neighbour 67 = .ok (.iconst 2, 1) := by decide +kernel
theorem dX7_neighbour_68 : decode cX7_neighbour 68 = .ok (.invokevirtual 172, 3) := by decide +kernel
theorem dX7_neighbour_71 : decode cX7_neighbour 71 = .ok (.ireturn, 1) := by decide +kernel
theorem dX7_hullNext_0 : decode cX7_hullNext 0 = .ok (.iconst 0, 1) := by decide +kernel
theorem dX7_hullNext_1 : decode cX7_hullNext 1 = .ok (.istore_n 2, 1) := by decide +kernel
theorem dX7_hullNext_2 : decode cX7_hullNext 2 = .ok (.iload_n 2, 1) := by decide +kernel
theorem dX7_hullNext_3 : decode cX7_hullNext 3 = .ok (.aload_n 0, 1) := by decide +kernel
theorem dX7_hullNext_4 : decode cX7_hullNext 4 = .ok (.invokevirtual 48, 3) := by decide +kernel
theorem dX7_hullNext_7 : decode cX7_hullNext 7 = .ok (.if_icmp .ge 38, 3) := by decide +kernel
theorem dX7_hullNext_10 : decode cX7_hullNext 10 = .ok (.aload_n 0, 1) := by decide +kernel
theorem dX7_hullNext_11 : decode cX7_hullNext 11 = .ok (.iload_n 1, 1) := by decide +kernel
theorem dX7_hullNext_12 : decode cX7_hullNext 12 = .ok (.iload_n 2, 1) := by decide +kernel
theorem dX7_hullNext_13 : decode cX7_hullNext 13 = .ok (.invokevirtual 104, 3) := by decide +kernel
theorem dX7_hullNext_16 : decode cX7_hullNext 16 = .ok (.ifCond .eq 23, 3) := by decide +kernel
theorem dX7_hullNext_19 : decode cX7_hullNext 19 = .ok (.aload_n 0, 1) := by decide +kernel
theorem dX7_hullNext_20 : decode cX7_hullNext 20 = .ok (.iload_n 1, 1) := by decide +kernel
theorem dX7_hullNext_21 : decode cX7_hullNext 21 = .ok (.iload_n 2, 1) := by decide +kernel
theorem dX7_hullNext_22 : decode cX7_hullNext 22 = .ok (.invokevirtual 141, 3) := by decide +kernel
theorem dX7_hullNext_25 : decode cX7_hullNext 25 = .ok (.ifCond .lt 14, 3) := by decide +kernel
theorem dX7_hullNext_28 : decode cX7_hullNext 28 = .ok (.aload_n 0, 1) := by decide +kernel
theorem dX7_hullNext_29 : decode cX7_hullNext 29 = .ok (.iload_n 2, 1) := by decide +kernel
theorem dX7_hullNext_30 : decode cX7_hullNext 30 = .ok (.iload_n 1, 1) := by decide +kernel
theorem dX7_hullNext_31 : decode cX7_hullNext 31 = .ok (.invokevirtual 141, 3) := by decide +kernel
theorem dX7_hullNext_34 : decode cX7_hullNext 34 = .ok (.ifCond .ge 5, 3) := by decide +kernel
theorem dX7_hullNext_37 : decode cX7_hullNext 37 = .ok (.iload_n 2, 1) := by decide +kernel
theorem dX7_hullNext_38 : decode cX7_hullNext 38 = .ok (.ireturn, 1) := by decide +kernel
theorem dX7_hullNext_39 : decode cX7_hullNext 39 = .ok (.iinc 2 1, 3) := by decide +kernel
theorem dX7_hullNext_42 : decode cX7_hullNext 42 = .ok (.goto (-40), 3) := by decide +kernel
theorem dX7_hullNext_45 : decode cX7_hullNext 45 = .ok (.iconst (-1), 1) := by decide +kernel
theorem dX7_hullNext_46 : decode cX7_hullNext 46 = .ok (.ireturn, 1) := by decide +kernel
theorem dX7_hullEdges_0 : decode cX7_hullEdges 0 = .ok (.iconst 0, 1) := by decide +kernel
theorem dX7_hullEdges_1 : decode cX7_hullEdges 1 = .ok (.istore_n 1, 1) := by decide +kernel
theorem dX7_hullEdges_2 : decode cX7_hullEdges 2 = .ok (.iconst 0, 1) := by decide +kernel
theorem dX7_hullEdges_3 : decode cX7_hullEdges 3 = .ok (.istore_n 2, 1) := by decide +kernel
theorem dX7_hullEdges_4 : decode cX7_hullEdges 4 = .ok (.iload_n 2, 1) := by decide +kernel
theorem dX7_hullEdges_5 : decode cX7_hullEdges 5 = .ok (.aload_n 0, 1) := by decide +kernel
theorem dX7_hullEdges_6 : decode cX7_hullEdges 6 = .ok (.invokevirtual 48, 3) := by decide +kernel
theorem dX7_hullEdges_9 : decode cX7_hullEdges 9 = .ok (.if_icmp .ge 20, 3) := by decide +kernel
theorem dX7_hullEdges_12 : decode cX7_hullEdges 12 = .ok (.aload_n 0, 1) := by decide +kernel
theorem dX7_hullEdges_13 : decode cX7_hullEdges 13 = .ok (.iload_n 2, 1) := by decide +kernel
theorem dX7_hullEdges_14 : decode cX7_hullEdges 14 = .ok (.invokevirtual 231, 3) := by decide +kernel
theorem dX7_hullEdges_17 : decode cX7_hullEdges 17 = .ok (.ifCond .lt 6, 3) := by decide +kernel
theorem dX7_hullEdges_20 : decode cX7_hullEdges 20 = .ok (.iinc 1 1, 3) := by decide +kernel
theorem dX7_hullEdges_23 : decode cX7_hullEdges 23 = .ok (.iinc 2 1, 3) := by decide +kernel
theorem dX7_hullEdges_26 : decode cX7_hullEdges 26 = .ok (.goto (-22), 3) := by decide +kernel
theorem dX7_hullEdges_29 : decode cX7_hullEdges 29 = .ok (.iload_n 1, 1) := by decide +kernel
theorem dX7_hullEdges_30 : decode cX7_hullEdges 30 = .ok (.ireturn, 1) := by decide +kernel
theorem dX7_hullSize_0 : decode cX7_hullSize 0 = .ok (.aload_n 0, 1) := by decide +kernel
theorem dX7_hullSize_1 : decode cX7_hullSize 1 = .ok (.iconst 0, 1) := by decide +kernel
theorem dX7_hullSize_2 : decode cX7_hullSize 2 = .ok (.putfield 44, 3) := by decide +kernel
theorem dX7_hullSize_5 : decode cX7_hullSize 5 = .ok (.aload_n 0, 1) := by decide +kernel
theorem dX7_hullSize_6 : decode cX7_hullSize 6 = .ok (.invokevirtual 210, 3) := by decide +kernel
theorem dX7_hullSize_9 : decode cX7_hullSize 9 = .ok (.aload_n 0, 1) := by decide +kernel
theorem dX7_hullSize_10 : decode cX7_hullSize 10 = .ok (.invokevirtual 234, 3) := by decide +kernel
theorem dX7_hullSize_13 : decode cX7_hullSize 13 = .ok (.ireturn, 1) := by decide +kernel
theorem dX7_hullPoint_0 : decode cX7_hullPoint 0 = .ok (.aload_n 0, 1) := by decide +kernel
theorem dX7_hullPoint_1 : decode cX7_hullPoint 1 = .ok (.iconst 0, 1) := by decide +kernel
theorem dX7_hullPoint_2 : decode cX7_hullPoint 2 = .ok (.putfield 44, 3) := by decide +kernel
theorem dX7_hullPoint_5 : decode cX7_hullPoint 5 = .ok (.aload_n 0, 1) := by decide +kernel
theorem dX7_hullPoint_6 : decode cX7_hullPoint 6 = .ok (.invokevirtual 210, 3) := by decide +kernel
theorem dX7_hullPoint_9 : decode cX7_hullPoint 9 = .ok (.iload_n 1, 1) := by decide +kernel
theorem dX7_hullPoint_10 : decode cX7_hullPoint 10 = .ok (.iconst 0, 1) := by decide +kernel
theorem dX7_hullPoint_11 : decode cX7_hullPoint 11 = .ok (.aload_n 0, 1) := by decide +kernel
theorem dX7_hullPoint_12 : decode cX7_hullPoint 12 = .ok (.invokevirtual 234, 3) := by decide +kernel
theorem dX7_hullPoint_15 : decode cX7_hullPoint 15 = .ok (.iconst 1, 1) := by decide +kernel
theorem dX7_hullPoint_16 : decode cX7_hullPoint 16 = .ok (.isub, 1) := by decide +kernel
theorem dX7_hullPoint_17 : decode cX7_hullPoint 17 = .ok (.invokestatic 52, 3) := by decide +kernel
theorem dX7_hullPoint_20 : decode cX7_hullPoint 20 = .ok (.ifCond .ne 9, 3) := by decide +kernel
theorem dX7_hullPoint_23 : decode cX7_hullPoint 23 = .ok (.aload_n 0, 1) := by decide +kernel
theorem dX7_hullPoint_24 : decode cX7_hullPoint 24 = .ok (.iconst 1, 1) := by decide +kernel
theorem dX7_hullPoint_25 : decode cX7_hullPoint 25 = .ok (.invokevirtual 172, 3) := by decide +kernel
theorem dX7_hullPoint_28 : decode cX7_hullPoint 28 = .ok (.ireturn, 1) := by decide +kernel
theorem dX7_hullPoint_29 : decode cX7_hullPoint 29 = .ok (.iconst 0, 1) := by decide +kernel
theorem dX7_hullPoint_30 : decode cX7_hullPoint 30 = .ok (.istore_n 2, 1) := by decide +kernel
theorem dX7_hullPoint_31 : decode cX7_hullPoint 31 = .ok (.aload_n 0, 1) := by decide +kernel
theorem dX7_hullPoint_32 : decode cX7_hullPoint 32 = .ok (.iload_n 2, 1) := by decide +kernel
theorem dX7_hullPoint_33 : decode cX7_hullPoint 33 = .ok (.invokevirtual 231, 3) := by decide +kernel
theorem dX7_hullPoint_36 : decode cX7_hullPoint 36 = .ok (.ifCond .ge 9, 3) := by decide +kernel
theorem dX7_hullPoint_39 : decode cX7_hullPoint 39 = .ok (.iinc 2 1, 3) := by decide +kernel
theorem dX7_hullPoint_42 : decode cX7_hullPoint 42 = .ok (.goto (-11), 3) := by decide +kernel
theorem dX7_hullPoint_45 : decode cX7_hullPoint 45 = .ok (.iconst 0, 1) := by decide +kernel
theorem dX7_hullPoint_46 : decode cX7_hullPoint 46 = .ok (.istore_n 3, 1) := by decide +kernel
theorem dX7_hullPoint_47 : decode cX7_hullPoint 47 = .ok (.iload_n 3, 1) := by decide +kernel
theorem dX7_hullPoint_48 : decode cX7_hullPoint 48 = .ok (.iload_n 1, 1) := by decide +kernel
theorem dX7_hullPoint_49 : decode cX7_hullPoint 49 = .ok (.if_icmp .ge 15, 3) := by decide +kernel
theorem dX7_hullPoint_52 : decode cX7_hullPoint 52 = .ok (.aload_n 0, 1) := by decide +kernel
theorem dX7_hullPoint_53 : decode cX7_hullPoint 53 = .ok (.iload_n 2, 1) := by decide +kernel
theorem dX7_hullPoint_54 : decode cX7_hullPoint 54 = .ok (.invokevirtual 231, 3) := by decide +kernel
theorem dX7_hullPoint_57 : decode cX7_hullPoint 57 = .ok (.istore_n 2, 1) := by decide +kernel
theorem dX7_hullPoint_58 : decode cX7_hullPoint 58 = .ok (.iinc 3 1, 3) := by decide +kernel
theorem dX7_hullPoint_61 : decode cX7_hullPoint 61 = .ok (.goto (-14), 3) := by decide +kernel
theorem dX7_hullPoint_64 : decode cX7_hullPoint 64 = .ok (.iload_n 2, 1) := by decide +kernel
theorem dX7_hullPoint_65 : decode cX7_hullPoint 65 = .ok (.ireturn, 1) := by decide +kernel
theorem dX7_twiceArea_0 : decode cX7_twiceArea 0 = .ok (.aload_n 0, 1) := by decide +kernel
theorem dX7_twiceArea_1 : decode cX7_twiceArea 1 = .ok (.iconst 0, 1) := by decide +kernel
theorem dX7_twiceArea_2 : decode cX7_twiceArea 2 = .ok (.putfield 44, 3) := by decide +kernel
theorem dX7_twiceArea_5 : decode cX7_twiceArea 5 = .ok (.aload_n 0, 1) := by decide +kernel
theorem dX7_twiceArea_6 : decode cX7_twiceArea 6 = .ok (.iload_n 1, 1) := by decide +kernel
theorem dX7_twiceArea_7 : decode cX7_twiceArea 7 = .ok (.invokevirtual 213, 3) := by decide +kernel
theorem dX7_twiceArea_10 : decode cX7_twiceArea 10 = .ok (.ifCond .eq 11, 3) := by decide +kernel
theorem dX7_twiceArea_13 : decode cX7_twiceArea 13 = .ok (.aload_n 0, 1) := by decide +kernel
theorem dX7_twiceArea_14 : decode cX7_twiceArea 14 = .ok (.iload_n 1, 1) := by decide +kernel
theorem dX7_twiceArea_15 : decode cX7_twiceArea 15 = .ok (.invokevirtual 237, 3) := by decide +kernel
theorem dX7_twiceArea_18 : decode cX7_twiceArea 18 = .ok (.goto 8, 3) := by decide +kernel
theorem dX7_twiceArea_21 : decode cX7_twiceArea 21 = .ok (.aload_n 0, 1) := by decide +kernel
theorem dX7_twiceArea_22 : decode cX7_twiceArea 22 = .ok (.iconst 1, 1) := by decide +kernel
theorem dX7_twiceArea_23 : decode cX7_twiceArea 23 = .ok (.invokevirtual 172, 3) := by decide +kernel
theorem dX7_twiceArea_26 : decode cX7_twiceArea 26 = .ok (.ireturn, 1) := by decide +kernel
theorem dX7_areaShare_0 : decode cX7_areaShare 0 = .ok (.aload_n 0, 1) := by decide +kernel
theorem dX7_areaShare_1 : decode cX7_areaShare 1 = .ok (.iconst 0, 1) := by decide +kernel
theorem dX7_areaShare_2 : decode cX7_areaShare 2 = .ok (.putfield 44, 3) := by decide +kernel
theorem dX7_areaShare_5 : decode cX7_areaShare 5 = .ok (.aload_n 0, 1) := by decide +kernel
theorem dX7_areaShare_6 : decode cX7_areaShare 6 = .ok (.iload_n 1, 1) := by decide +kernel
theorem dX7_areaShare_7 : decode cX7_areaShare 7 = .ok (.invokevirtual 213, 3) := by decide +kernel
theorem dX7_areaShare_10 : decode cX7_areaShare 10 = .ok (.ifCond .ne 10, 3) := by decide +kernel
theorem dX7_areaShare_13 : decode cX7_areaShare 13 = .ok (.aload_n 0, 1) := by decide +kernel
theorem dX7_areaShare_14 : decode cX7_areaShare 14 = .ok (.iconst 1, 1) := by decide +kernel
theorem dX7_areaShare_15 : decode cX7_areaShare 15 = .ok (.invokevirtual 172, 3) := by decide +kernel
theorem dX7_areaShare_18 : decode cX7_areaShare 18 = .ok (.i2d, 1) := by decide +kernel
theorem dX7_areaShare_19 : decode cX7_areaShare 19 = .ok (.dreturn, 1) := by decide +kernel
theorem dX7_areaShare_20 : decode cX7_areaShare 20 = .ok (.iconst 0, 1) := by decide +kernel
theorem dX7_areaShare_21 : decode cX7_areaShare 21 = .ok (.istore_n 2, 1) := by decide +kernel
theorem dX7_areaShare_22 : decode cX7_areaShare 22 = .ok (.iconst 0, 1) := by decide +kernel
theorem dX7_areaShare_23 : decode cX7_areaShare 23 = .ok (.istore_n 3, 1) := by decide +kernel
theorem dX7_areaShare_24 : decode cX7_areaShare 24 = .ok (.iload_n 3, 1) := by decide +kernel
theorem dX7_areaShare_25 : decode cX7_areaShare 25 = .ok (.aload_n 0, 1) := by decide +kernel
theorem dX7_areaShare_26 : decode cX7_areaShare 26 = .ok (.getfield 114, 3) := by decide +kernel
theorem dX7_areaShare_29 : decode cX7_areaShare 29 = .ok (.if_icmp .ge 17, 3) := by decide +kernel
theorem dX7_areaShare_32 : decode cX7_areaShare 32 = .ok (.iload_n 2, 1) := by decide +kernel
theorem dX7_areaShare_33 : decode cX7_areaShare 33 = .ok (.aload_n 0, 1) := by decide +kernel
theorem dX7_areaShare_34 : decode cX7_areaShare 34 = .ok (.iload_n 3, 1) := by decide +kernel
theorem dX7_areaShare_35 : decode cX7_areaShare 35 = .ok (.invokevirtual 237, 3) := by decide +kernel
theorem dX7_areaShare_38 : decode cX7_areaShare 38 = .ok (.iadd, 1) := by decide +kernel
theorem dX7_areaShare_39 : decode cX7_areaShare 39 = .ok (.istore_n 2, 1) := by decide +kernel
theorem dX7_areaShare_40 : decode cX7_areaShare 40 = .ok (.iinc 3 1, 3) := by decide +kernel
theorem dX7_areaShare_43 : decode cX7_areaShare 43 = .ok (.goto (-19), 3) := by decide +kernel
theorem dX7_areaShare_46 : decode cX7_areaShare 46 = .ok (.aload_n 0, 1) := by decide +kernel
theorem dX7_areaShare_47 : decode cX7_areaShare 47 = .ok (.iload_n 1, 1) := by decide +kernel
theorem dX7_areaShare_48 : decode cX7_areaShare 48 = .ok (.invokevirtual 237, 3) := by decide +kernel
theorem dX7_areaShare_51 : decode cX7_areaShare 51 = .ok (.i2d, 1) := by decide +kernel
theorem dX7_areaShare_52 : decode cX7_areaShare 52 = .ok (.iload_n 2, 1) := by decide +kernel
theorem dX7_areaShare_53 : decode cX7_areaShare 53 = .ok (.i2d, 1) := by decide +kernel
theorem dX7_areaShare_54 : decode cX7_areaShare 54 = .ok (.ddiv, 1) := by decide +kernel
theorem dX7_areaShare_55 : decode cX7_areaShare 55 = .ok (.dreturn, 1) := by decide +kernel
theorem dX7_meanDegree_0 : decode cX7_meanDegree 0 = .ok (.aload_n 0, 1) := by decide +kernel
theorem dX7_meanDegree_1 : decode cX7_meanDegree 1 = .ok (.iconst 0, 1) := by decide +kernel
theorem dX7_meanDegree_2 : decode cX7_meanDegree 2 = .ok (.putfield 44, 3) := by decide +kernel
theorem dX7_meanDegree_5 : decode cX7_meanDegree 5 = .ok (.aload_n 0, 1) := by decide +kernel
theorem dX7_meanDegree_6 : decode cX7_meanDegree 6 = .ok (.invokevirtual 48, 3) := by decide +kernel
theorem dX7_meanDegree_9 : decode cX7_meanDegree 9 = .ok (.ifCond .ne 10, 3) := by decide +kernel
theorem dX7_meanDegree_12 : decode cX7_meanDegree 12 = .ok (.aload_n 0, 1) := by decide +kernel
theorem dX7_meanDegree_13 : decode cX7_meanDegree 13 = .ok (.iconst 1, 1) := by decide +kernel
theorem dX7_meanDegree_14 : decode cX7_meanDegree 14 = .ok (.invokevirtual 172, 3) := by decide +kernel
theorem dX7_meanDegree_17 : decode cX7_meanDegree 17 = .ok (.i2d, 1) := by decide +kernel
theorem dX7_meanDegree_18 : decode cX7_meanDegree 18 = .ok (.dreturn, 1) := by decide +kernel
theorem dX7_meanDegree_19 : decode cX7_meanDegree 19 = .ok (.aload_n 0, 1) := by decide +kernel
theorem dX7_meanDegree_20 : decode cX7_meanDegree 20 = .ok (.invokevirtual 210, 3) := by decide +kernel
theorem dX7_meanDegree_23 : decode cX7_meanDegree 23 = .ok (.iconst 2, 1) := by decide +kernel
theorem dX7_meanDegree_24 : decode cX7_meanDegree 24 = .ok (.aload_n 0, 1) := by decide +kernel
theorem dX7_meanDegree_25 : decode cX7_meanDegree 25 = .ok (.invokevirtual 222, 3) := by decide +kernel
theorem dX7_meanDegree_28 : decode cX7_meanDegree 28 = .ok (.imul, 1) := by decide +kernel
theorem dX7_meanDegree_29 : decode cX7_meanDegree 29 = .ok (.i2d, 1) := by decide +kernel
theorem dX7_meanDegree_30 : decode cX7_meanDegree 30 = .ok (.aload_n 0, 1) := by decide +kernel
theorem dX7_meanDegree_31 : decode cX7_meanDegree 31 = .ok (.invokevirtual 48, 3) := by decide +kernel
theorem dX7_meanDegree_34 : decode cX7_meanDegree 34 = .ok (.i2d, 1) := by decide +kernel
theorem dX7_meanDegree_35 : decode cX7_meanDegree 35 = .ok (.ddiv, 1) := by decide +kernel
theorem dX7_meanDegree_36 : decode cX7_meanDegree 36 = .ok (.dreturn, 1) := by decide +kernel
theorem dX7_square_0 : decode cX7_square 0 = .ok (.aload_n 0, 1) := by decide +kernel
theorem dX7_square_1 : decode cX7_square 1 = .ok (.iload_n 1, 1) := by decide +kernel
theorem dX7_square_2 : decode cX7_square 2 = .ok (.invokevirtual 65, 3) := by decide +kernel
theorem dX7_square_5 : decode cX7_square 5 = .ok (.aload_n 0, 1) := by decide +kernel
theorem dX7_square_6 : decode cX7_square 6 = .ok (.iload_n 2, 1) := by decide +kernel
theorem dX7_square_7 : decode cX7_square 7 = .ok (.invokevirtual 65, 3) := by decide +kernel
theorem dX7_square_10 : decode cX7_square 10 = .ok (.isub, 1) := by decide +kernel
theorem dX7_square_11 : decode cX7_square 11 = .ok (.aload_n 0, 1) := by decide +kernel
theorem dX7_square_12 : decode cX7_square 12 = .ok (.iload_n 1, 1) := by decide +kernel
theorem dX7_square_13 : decode cX7_square 13 = .ok (.invokevirtual 65, 3) := by decide +kernel
theorem dX7_square_16 : decode cX7_square 16 = .ok (.aload_n 0, 1) := by decide +kernel
theorem dX7_square_17 : decode cX7_square 17 = .ok (.iload_n 2, 1) := by decide +kernel
theorem dX7_square_18 : decode cX7_square 18 = .ok (.invokevirtual 65, 3) := by decide +kernel
theorem dX7_square_21 : decode cX7_square 21 = .ok (.isub, 1) := by decide +kernel
theorem dX7_square_22 : decode cX7_square 22 = .ok (.imul, 1) := by decide +kernel
theorem dX7_square_23 : decode cX7_square 23 = .ok (.aload_n 0, 1) := by decide +kernel
theorem dX7_square_24 : decode cX7_square 24 = .ok (.iload_n 1, 1) := by decide +kernel
theorem dX7_square_25 : decode cX7_square 25 = .ok (.invokevirtual 68, 3) := by decide +kernel
theorem dX7_square_28 : decode cX7_square 28 = .ok (.aload_n 0, 1) := by decide +kernel
theorem dX7_square_29 : decode cX7_square 29 = .ok (.iload_n 2, 1) := by decide +kernel
theorem dX7_square_30 : decode cX7_square 30 = .ok (.invokevirtual 68, 3) := by decide +kernel
theorem dX7_square_33 : decode cX7_square 33 = .ok (.isub, 1) := by decide +kernel
theorem dX7_square_34 : decode cX7_square 34 = .ok (.aload_n 0, 1) := by decide +kernel
theorem dX7_square_35 : decode cX7_square 35 = .ok (.iload_n 1, 1) := by decide +kernel
theorem dX7_square_36 : decode cX7_square 36 = .ok (.invokevirtual 68, 3) := by decide +kernel
theorem dX7_square_39 : decode cX7_square 39 = .ok (.aload_n 0, 1) := by decide +kernel
theorem dX7_square_40 : decode cX7_square 40 = .ok (.iload_n 2, 1) := by decide +kernel
theorem dX7_square_41 : decode cX7_square 41 = .ok (.invokevirtual 68, 3) := by decide +kernel
theorem dX7_square_44 : decode cX7_square 44 = .ok (.isub, 1) := by decide +kernel
theorem dX7_square_45 : decode cX7_square 45 = .ok (.imul, 1) := by decide +kernel
theorem dX7_square_46 : decode cX7_square 46 = .ok (.iadd, 1) := by decide +kernel
theorem dX7_square_47 : decode cX7_square 47 = .ok (.ireturn, 1) := by decide +kernel
theorem dX7_connects_0 : decode cX7_connects 0 = .ok (.iconst 0, 1) := by decide +kernel
theorem dX7_connects_1 : decode cX7_connects 1 = .ok (.istore_n 1, 1) := by decide +kernel
theorem dX7_connects_2 : decode cX7_connects 2 = .ok (.iload_n 1, 1) := by decide +kernel
theorem dX7_connects_3 : decode cX7_connects 3 = .ok (.aload_n 0, 1) := by decide +kernel
theorem dX7_connects_4 : decode cX7_connects 4 = .ok (.invokevirtual 48, 3) := by decide +kernel
theorem dX7_connects_7 : decode cX7_connects 7 = .ok (.if_icmp .ge 24, 3) := by decide +kernel
theorem dX7_connects_10 : decode cX7_connects 10 = .ok (.aload_n 0, 1) := by decide +kernel
theorem dX7_connects_11 : decode cX7_connects 11 = .ok (.getfield 41, 3) := by decide +kernel
theorem dX7_connects_14 : decode cX7_connects 14 = .ok (.iload_n 1, 1) := by decide +kernel
theorem dX7_connects_15 : decode cX7_connects 15 = .ok (.iload_n 1, 1) := by decide +kernel
theorem dX7_connects_16 : decode cX7_connects 16 = .ok (.ifCond .ne 7, 3) := by decide +kernel
theorem dX7_connects_19 : decode cX7_connects 19 = .ok (.iconst 1, 1) := by decide +kernel
theorem dX7_connects_20 : decode cX7_connects 20 = .ok (.goto 4, 3) := by decide +kernel
theorem dX7_connects_23 : decode cX7_connects 23 = .ok (.iconst 0, 1) := by decide +kernel
theorem dX7_connects_24 : decode cX7_connects 24 = .ok (.bastore, 1) := by decide +kernel
theorem dX7_connects_25 : decode cX7_connects 25 = .ok (.iinc 1 1, 3) := by decide +kernel
theorem dX7_connects_28 : decode cX7_connects 28 = .ok (.goto (-26), 3) := by decide +kernel
theorem dX7_connects_31 : decode cX7_connects 31 = .ok (.iconst 0, 1) := by decide +kernel
theorem dX7_connects_32 : decode cX7_connects 32 = .ok (.istore_n 1, 1) := by decide +kernel
theorem dX7_connects_33 : decode cX7_connects 33 = .ok (.iconst 1, 1) := by decide +kernel
theorem dX7_connects_34 : decode cX7_connects 34 = .ok (.istore_n 2, 1) := by decide +kernel
theorem dX7_connects_35 : decode cX7_connects 35 = .ok (.iload_n 2, 1) := by decide +kernel
theorem dX7_connects_36 : decode cX7_connects 36 = .ok (.aload_n 0, 1) := by decide +kernel
theorem dX7_connects_37 : decode cX7_connects 37 = .ok (.invokevirtual 48, 3) := by decide +kernel
theorem dX7_connects_40 : decode cX7_connects 40 = .ok (.if_icmp .ge 122, 3) := by decide +kernel
theorem dX7_connects_43 : decode cX7_connects 43 = .ok (.ldc 240, 2) := by decide +kernel
theorem dX7_connects_45 : decode cX7_connects 45 = .ok (.istore_n 3, 1) := by decide +kernel
theorem dX7_connects_46 : decode cX7_connects 46 = .ok (.iconst 0, 1) := by decide +kernel
theorem dX7_connects_47 : decode cX7_connects 47 = .ok (.istore 4, 2) := by decide +kernel
theorem dX7_connects_49 : decode cX7_connects 49 = .ok (.iconst 0, 1) := by decide +kernel
theorem dX7_connects_50 : decode cX7_connects 50 = .ok (.istore 5, 2) := by decide +kernel
theorem dX7_connects_52 : decode cX7_connects 52 = .ok (.iload 5, 2) := by decide +kernel
theorem dX7_connects_54 : decode cX7_connects 54 = .ok (.aload_n 0, 1) := by decide +kernel
theorem dX7_connects_55 : decode cX7_connects 55 = .ok (.invokevirtual 48, 3) := by decide +kernel
theorem dX7_connects_58 : decode cX7_connects 58 = .ok (.if_icmp .ge 86, 3) := by decide +kernel
theorem dX7_connects_61 : decode cX7_connects 61 = .ok (.iconst 0, 1) := by decide +kernel
theorem dX7_connects_62 : decode cX7_connects 62 = .ok (.istore 6, 2) := by decide +kernel
theorem dX7_connects_64 : decode cX7_connects 64 = .ok (.iload 6, 2) := by decide +kernel
theorem dX7_connects_66 : decode cX7_connects 66 = .ok (.aload_n 0, 1) := by decide +kernel
theorem dX7_connects_67 : decode cX7_connects 67 = .ok (.invokevirtual 48, 3) := by decide +kernel
theorem dX7_connects_70 : decode cX7_connects 70 = .ok (.if_icmp .ge 68, 3) := by decide +kernel
theorem dX7_connects_73 : decode cX7_connects 73 = .ok (.aload_n 0, 1) := by decide +kernel
theorem dX7_connects_74 : decode cX7_connects 74 = .ok (.getfield 41, 3) := by decide +kernel
theorem dX7_connects_77 : decode cX7_connects 77 = .ok (.iload 5, 2) := by decide +kernel
theorem dX7_connects_79 : decode cX7_connects 79 = .ok (.baload, 1) := by decide +kernel
theorem dX7_connects_80 : decode cX7_connects 80 = .ok (.ifCond .eq 52, 3) := by decide +kernel
theorem dX7_connects_83 : decode cX7_connects 83 = .ok (.aload_n 0, 1) := by decide +kernel
theorem dX7_connects_84 : decode cX7_connects 84 = .ok (.getfield 41, 3) := by decide +kernel
theorem dX7_connects_87 : decode cX7_connects 87 = .ok (.iload 6, 2) := by decide +kernel
theorem dX7_connects_89 : decode cX7_connects 89 = .ok (.baload, 1) := by decide +kernel
theorem dX7_connects_90 : decode cX7_connects 90 = .ok (.ifCond .ne 42, 3) := by decide +kernel
theorem dX7_connects_93 : decode cX7_connects 93 = .ok (.aload_n 0, 1) := by decide +kernel
theorem dX7_connects_94 : decode cX7_connects 94 = .ok (.iload 5, 2) := by decide +kernel
theorem dX7_connects_96 : decode cX7_connects 96 = .ok (.iload 6, 2) := by decide +kernel
theorem dX7_connects_98 : decode cX7_connects 98 = .ok (.invokevirtual 104, 3) := by decide +kernel
theorem dX7_connects_101 : decode cX7_connects 101 = .ok (.ifCond .eq 31, 3) := by decide +kernel
theorem dX7_connects_104 : decode cX7_connects 104 = .ok (.aload_n 0, 1) := by decide +kernel
theorem dX7_connects_105 : decode cX7_connects 105 = .ok (.iload 5, 2) := by decide +kernel
theorem dX7_connects_107 : decode cX7_connects 107 = .ok (.iload 6, 2) := by decide +kernel
theorem dX7_connects_109 : decode cX7_connects 109 = .ok (.invokevirtual 241, 3) := by decide +kernel
theorem dX7_connects_112 : decode cX7_connects 112 = .ok (.iload_n 3, 1) := by decide +kernel
theorem dX7_connects_113 : decode cX7_connects 113 = .ok (.if_icmp .lt 6, 3) := by decide +kernel
theorem dX7_connects_116 : decode cX7_connects 116 = .ok (.goto 16, 3) := by decide +kernel
theorem dX7_connects_119 : decode cX7_connects 119 = .ok (.aload_n 0, 1) := by decide +kernel
theorem dX7_connects_120 : decode cX7_connects 120 = .ok (.iload 5, 2) := by decide +kernel
theorem dX7_connects_122 : decode cX7_connects 122 = .ok (.iload 6, 2) := by decide +kernel
theorem dX7_connects_124 : decode cX7_connects 124 = .ok (.invokevirtual 241, 3) := by decide +kernel
theorem dX7_connects_127 : decode cX7_connects 127 = .ok (.istore_n 3, 1) := by decide +kernel
theorem dX7_connects_128 : decode cX7_connects 128 = .ok (.iload 6, 2) := by decide +kernel
theorem dX7_connects_130 : decode cX7_connects 130 = .ok (.istore 4, 2) := by decide +kernel
theorem dX7_connects_132 : decode cX7_connects 132 = .ok (.iinc 6 1, 3) := by decide +kernel
theorem dX7_connects_135 : decode cX7_connects 135 = .ok (.goto (-71), 3) := by decide +kernel
theorem dX7_connects_138 : decode cX7_connects 138 = .ok (.iinc 5 1, 3) := by decide +kernel
theorem dX7_connects_141 : decode cX7_connects 141 = .ok (.goto (-89), 3) := by decide +kernel
theorem dX7_connects_144 : decode cX7_connects 144 = .ok (.aload_n 0, 1) := by decide +kernel
theorem dX7_connects_145 : decode cX7_connects 145 = .ok (.getfield 41, 3) := by decide +kernel
theorem dX7_connects_148 : decode cX7_connects 148 = .ok (.iload 4, 2) := by decide +kernel
theorem dX7_connects_150 : decode cX7_connects 150 = .ok (.iconst 1, 1) := by decide +kernel
theorem dX7_connects_151 : decode cX7_connects 151 = .ok (.bastore, 1) := by decide +kernel
theorem dX7_connects_152 : decode cX7_connects 152 = .ok (.iload_n 1, 1) := by decide +kernel
theorem dX7_connects_153 : decode cX7_connects 153 = .ok (.iload_n 3, 1) := by decide +kernel
theorem dX7_connects_154 : decode cX7_connects 154 = .ok (.iadd, 1) := by decide +kernel
theorem dX7_connects_155 : decode cX7_connects 155 = .ok (.istore_n 1, 1) := by decide +kernel
theorem dX7_connects_156 : decode cX7_connects 156 = .ok (.iinc 2 1, 3) := by decide +kernel
theorem dX7_connects_159 : decode cX7_connects 159 = .ok (.goto (-124), 3) := by decide +kernel
theorem dX7_connects_162 : decode cX7_connects 162 = .ok (.iload_n 1, 1) := by decide +kernel
theorem dX7_connects_163 : decode cX7_connects 163 = .ok (.ireturn, 1) := by decide +kernel
theorem dX7_squaredLength_0 : decode cX7_squaredLength 0 = .ok (.aload_n 0, 1) := by decide +kernel
theorem dX7_squaredLength_1 : decode cX7_squaredLength 1 = .ok (.iconst 0, 1) := by decide +kernel
theorem dX7_squaredLength_2 : decode cX7_squaredLength 2 = .ok (.putfield 44, 3) := by decide +kernel
theorem dX7_squaredLength_5 : decode cX7_squaredLength 5 = .ok (.iload_n 1, 1) := by decide +kernel
theorem dX7_squaredLength_6 : decode cX7_squaredLength 6 = .ok (.iconst 0, 1) := by decide +kernel
theorem dX7_squaredLength_7 : decode cX7_squaredLength 7 = .ok (.iconst 2, 1) := by decide +kernel
theorem dX7_squaredLength_8 : decode cX7_squaredLength 8 = .ok (.invokestatic 52, 3) := by decide +kernel
theorem dX7_squaredLength_11 : decode cX7_squaredLength 11 = .ok (.ifCond .ne 9, 3) := by decide +kernel
theorem dX7_squaredLength_14 : decode cX7_squaredLength 14 = .ok (.aload_n 0, 1) := by decide +kernel
theorem dX7_squaredLength_15 : decode cX7_squaredLength 15 = .ok (.iconst 1, 1) := by decide +kernel
theorem dX7_squaredLength_16 : decode cX7_squaredLength 16 = .ok (.invokevirtual 172, 3) := by decide +kernel
theorem dX7_squaredLength_19 : decode cX7_squaredLength 19 = .ok (.ireturn, 1) := by decide +kernel
theorem dX7_squaredLength_20 : decode cX7_squaredLength 20 = .ok (.aload_n 0, 1) := by decide +kernel
theorem dX7_squaredLength_21 : decode cX7_squaredLength 21 = .ok (.invokevirtual 210, 3) := by decide +kernel
theorem dX7_squaredLength_24 : decode cX7_squaredLength 24 = .ok (.aload_n 0, 1) := by decide +kernel
theorem dX7_squaredLength_25 : decode cX7_squaredLength 25 = .ok (.invokevirtual 222, 3) := by decide +kernel
theorem dX7_squaredLength_28 : decode cX7_squaredLength 28 = .ok (.ifCond .ne 9, 3) := by decide +kernel
theorem dX7_squaredLength_31 : decode cX7_squaredLength 31 = .ok (.aload_n 0, 1) := by decide +kernel
theorem dX7_squaredLength_32 : decode cX7_squaredLength 32 = .ok (.iconst 2, 1) := by decide +kernel
theorem dX7_squaredLength_33 : decode cX7_squaredLength 33 = .ok (.invokevirtual 172, 3) := by decide +kernel
theorem dX7_squaredLength_36 : decode cX7_squaredLength 36 = .ok (.ireturn, 1) := by decide +kernel
theorem dX7_squaredLength_37 : decode cX7_squaredLength 37 = .ok (.iload_n 1, 1) := by decide +kernel
theorem dX7_squaredLength_38 : decode cX7_squaredLength 38 = .ok (.iconst 2, 1) := by decide +kernel
theorem dX7_squaredLength_39 : decode cX7_squaredLength 39 = .ok (.if_icmp .ne 8, 3) := by decide +kernel
theorem dX7_squaredLength_42 : decode cX7_squaredLength 42 = .ok (.aload_n 0, 1) := by decide +kernel
theorem dX7_squaredLength_43 : decode cX7_squaredLength 43 = .ok (.invokevirtual 244, 3) := by decide +kernel
theorem dX7_squaredLength_46 : decode cX7_squaredLength 46 = .ok (.ireturn, 1) := by decide +kernel
theorem dX7_squaredLength_47 : decode cX7_squaredLength 47 = .ok (.iload_n 1, 1) := by decide +kernel
theorem dX7_squaredLength_48 : decode cX7_squaredLength 48 = .ok (.ifCond .ne 8, 3) := by decide +kernel
theorem dX7_squaredLength_51 : decode cX7_squaredLength 51 = .ok (.ldc 240, 2) := by decide +kernel
theorem dX7_squaredLength_53 : decode cX7_squaredLength 53 = .ok (.goto 4, 3) := by decide +kernel
theorem dX7_squaredLength_56 : decode cX7_squaredLength 56 = .ok (.iconst 0, 1) := by decide +kernel
theorem dX7_squaredLength_57 : decode cX7_squaredLength 57 = .ok (.istore_n 2, 1) := by decide +kernel
theorem dX7_squaredLength_58 : decode cX7_squaredLength 58 = .ok (.iconst 0, 1) := by decide +kernel
theorem dX7_squaredLength_59 : decode cX7_squaredLength 59 = .ok (.istore_n 3, 1) := by decide +kernel
theorem dX7_squaredLength_60 : decode cX7_squaredLength 60 = .ok (.iload_n 3, 1) := by decide +kernel
theorem dX7_squaredLength_61 : decode cX7_squaredLength 61 = .ok (.aload_n 0, 1) := by decide +kernel
theorem dX7_squaredLength_62 : decode cX7_squaredLength 62 = .ok (.invokevirtual 48, 3) := by decide +kernel
theorem dX7_squaredLength_65 : decode cX7_squaredLength 65 = .ok (.if_icmp .ge 67, 3) := by decide +kernel
theorem dX7_squaredLength_68 : decode cX7_squaredLength 68 = .ok (.iconst 0, 1) := by decide +kernel
theorem dX7_squaredLength_69 : decode cX7_squaredLength 69 = .ok (.istore 4, 2) := by decide +kernel
theorem dX7_squaredLength_71 : decode cX7_squaredLength 71 = .ok (.iload 4, 2) := by decide +kernel
theorem dX7_squaredLength_73 : decode cX7_squaredLength 73 = .ok (.aload_n 0, 1) := by decide +kernel
theorem dX7_squaredLength_74 : decode cX7_squaredLength 74 = .ok (.invokevirtual 48, 3) := by decide +kernel
theorem dX7_squaredLength_77 : decode cX7_squaredLength 77 = .ok (.if_icmp .ge 49, 3) := by decide +kernel
theorem dX7_squaredLength_80 : decode cX7_squaredLength 80 = .ok (.aload_n 0, 1) := by decide +kernel
theorem dX7_squaredLength_81 : decode cX7_squaredLength 81 = .ok (.iload_n 3, 1) := by decide +kernel
theorem dX7_squaredLength_82 : decode cX7_squaredLength 82 = .ok (.iload 4, 2) := by decide +kernel
theorem dX7_squaredLength_84 : decode cX7_squaredLength 84 = .ok (.invokevirtual 104, 3) := by decide +kernel
theorem dX7_squaredLength_87 : decode cX7_squaredLength 87 = .ok (.ifCond .eq 33, 3) := by decide +kernel
theorem dX7_squaredLength_90 : decode cX7_squaredLength 90 = .ok (.iload_n 1, 1) := by decide +kernel
theorem dX7_squaredLength_91 : decode cX7_squaredLength 91 = .ok (.ifCond .ne 17, 3) := by decide +kernel
theorem dX7_squaredLength_94 : decode cX7_squaredLength 94 = .ok (.iload_n 2, 1) := by decide +kernel
theorem dX7_squaredLength_95 : decode cX7_squaredLength 95 = .ok (.aload_n 0, 1) := by decide +kernel
theorem dX7_squaredLength_96 : decode cX7_squaredLength 96 = .ok (.iload_n 3, 1) := by decide +kernel
theorem dX7_squaredLength_97 : decode cX7_squaredLength 97 = .ok (.iload 4, 2) := by decide +kernel
theorem dX7_squaredLength_99 : decode cX7_squaredLength 99 = .ok (.invokevirtual 241, 3) := by decide +kernel
theorem dX7_squaredLength_102 : decode cX7_squaredLength 102 = .ok (.invokestatic 83, 3) := by decide +kernel
theorem dX7_squaredLength_105 : decode cX7_squaredLength 105 = .ok (.goto 14, 3) := by decide +kernel
theorem dX7_squaredLength_108 : decode cX7_squaredLength 108 = .ok (.iload_n 2, 1) := by decide +kernel
theorem dX7_squaredLength_109 : decode cX7_squaredLength 109 = .ok (.aload_n 0, 1) := by decide +kernel
theorem dX7_squaredLength_110 : decode cX7_squaredLength 110 = .ok (.iload_n 3, 1) := by decide +kernel
theorem dX7_squaredLength_111 : decode cX7_squaredLength 111 = .ok (.iload 4, 2) := by decide +kernel
theorem dX7_squaredLength_113 : decode cX7_squaredLength 113 = .ok (.invokevirtual 241, 3) := by decide +kernel
theorem dX7_squaredLength_116 : decode cX7_squaredLength 116 = .ok (.invokestatic 89, 3) := by decide +kernel
theorem dX7_squaredLength_119 : decode cX7_squaredLength 119 = .ok (.istore_n 2, 1) := by decide +kernel
theorem dX7_squaredLength_120 : decode cX7_squaredLength 120 = .ok (.iinc 4 1, 3) := by decide +kernel
theorem dX7_squaredLength_123 : decode cX7_squaredLength 123 = .ok (.goto (-52), 3) := by decide +kernel
theorem dX7_squaredLength_126 : decode cX7_squaredLength 126 = .ok (.iinc 3 1, 3) := by decide +kernel
theorem dX7_squaredLength_129 : decode cX7_squaredLength 129 = .ok (.goto (-69), 3) := by decide +kernel
theorem dX7_squaredLength_132 : decode cX7_squaredLength 132 = .ok (.iload_n 2, 1) := by decide +kernel
theorem dX7_squaredLength_133 : decode cX7_squaredLength 133 = .ok (.ireturn, 1) := by decide +kernel
theorem dX7_turn_0 : decode cX7_turn 0 = .ok (.aload_n 0, 1) := by decide +kernel
theorem dX7_turn_1 : decode cX7_turn 1 = .ok (.iconst 0, 1) := by decide +kernel
theorem dX7_turn_2 : decode cX7_turn 2 = .ok (.putfield 44, 3) := by decide +kernel
theorem dX7_turn_5 : decode cX7_turn 5 = .ok (.aload_n 0, 1) := by decide +kernel
theorem dX7_turn_6 : decode cX7_turn 6 = .ok (.iload_n 1, 1) := by decide +kernel
theorem dX7_turn_7 : decode cX7_turn 7 = .ok (.invokevirtual 168, 3) := by decide +kernel
theorem dX7_turn_10 : decode cX7_turn 10 = .ok (.ifCond .eq 29, 3) := by decide +kernel
theorem dX7_turn_13 : decode cX7_turn 13 = .ok (.aload_n 0, 1) := by decide +kernel
theorem dX7_turn_14 : decode cX7_turn 14 = .ok (.iload_n 2, 1) := by decide +kernel
theorem dX7_turn_15 : decode cX7_turn 15 = .ok (.invokevirtual 168, 3) := by decide +kernel
theorem dX7_turn_18 : decode cX7_turn 18 = .ok (.ifCond .eq 21, 3) := by decide +kernel
theorem dX7_turn_21 : decode cX7_turn 21 = .ok (.aload_n 0, 1) := by decide +kernel
theorem dX7_turn_22 : decode cX7_turn 22 = .ok (.iload_n 3, 1) := by decide +kernel
theorem dX7_turn_23 : decode cX7_turn 23 = .ok (.invokevirtual 168, 3) := by decide +kernel
theorem dX7_turn_26 : decode cX7_turn 26 = .ok (.ifCond .eq 13, 3) := by decide +kernel
theorem dX7_turn_29 : decode cX7_turn 29 = .ok (.aload_n 0, 1) := by decide +kernel
theorem dX7_turn_30 : decode cX7_turn 30 = .ok (.iload_n 1, 1) := by decide +kernel
theorem dX7_turn_31 : decode cX7_turn 31 = .ok (.iload_n 2, 1) := by decide +kernel
theorem dX7_turn_32 : decode cX7_turn 32 = .ok (.iload_n 3, 1) := by decide +kernel
theorem dX7_turn_33 : decode cX7_turn 33 = .ok (.invokevirtual 79, 3) := by decide +kernel
theorem dX7_turn_36 : decode cX7_turn 36 = .ok (.goto 8, 3) := by decide +kernel
theorem dX7_turn_39 : decode cX7_turn 39 = .ok (.aload_n 0, 1) := by decide +kernel
theorem dX7_turn_40 : decode cX7_turn 40 = .ok (.iconst 1, 1) := by decide +kernel
theorem dX7_turn_41 : decode cX7_turn 41 = .ok (.invokevirtual 172, 3) := by decide +kernel
theorem dX7_turn_44 : decode cX7_turn 44 = .ok (.ireturn, 1) := by decide +kernel
theorem dX7_inCircle_0 : decode cX7_inCircle 0 = .ok (.aload_n 0, 1) := by decide +kernel
theorem dX7_inCircle_1 : decode cX7_inCircle 1 = .ok (.iconst 0, 1) := by decide +kernel
theorem dX7_inCircle_2 : decode cX7_inCircle 2 = .ok (.putfield 44, 3) := by decide +kernel
theorem dX7_inCircle_5 : decode cX7_inCircle 5 = .ok (.aload_n 0, 1) := by decide +kernel
theorem dX7_inCircle_6 : decode cX7_inCircle 6 = .ok (.iload_n 1, 1) := by decide +kernel
theorem dX7_inCircle_7 : decode cX7_inCircle 7 = .ok (.invokevirtual 168, 3) := by decide +kernel
theorem dX7_inCircle_10 : decode cX7_inCircle 10 = .ok (.ifCond .eq 28, 3) := by decide +kernel
theorem dX7_inCircle_13 : decode cX7_inCircle 13 = .ok (.aload_n 0, 1) := by decide +kernel
theorem dX7_inCircle_14 : decode cX7_inCircle 14 = .ok (.iload_n 2, 1) := by decide +kernel
theorem dX7_inCircle_15 : decode cX7_inCircle 15 = .ok (.invokevirtual 168, 3) := by decide +kernel
theorem dX7_inCircle_18 : decode cX7_inCircle 18 = .ok (.ifCond .eq 20, 3) := by decide +kernel
theorem dX7_inCircle_21 : decode cX7_inCircle 21 = .ok (.aload_n 0, 1) := by decide +kernel
theorem dX7_inCircle_22 : decode cX7_inCircle 22 = .ok (.iload_n 3, 1) := by decide +kernel
theorem dX7_inCircle_23 : decode cX7_inCircle 23 = .ok (.invokevirtual 168, 3) := by decide +kernel
theorem dX7_inCircle_26 : decode cX7_inCircle 26 = .ok (.ifCond .eq 12, 3) := by decide +kernel
theorem dX7_inCircle_29 : decode cX7_inCircle 29 = .ok (.aload_n 0, 1) := by decide +kernel
theorem dX7_inCircle_30 : decode cX7_inCircle 30 = .ok (.iload 4, 2) := by decide +kernel
theorem dX7_inCircle_32 : decode cX7_inCircle 32 = .ok (.invokevirtual 168, 3) := by decide +kernel
theorem dX7_inCircle_35 : decode cX7_inCircle 35 = .ok (.ifCond .ne 9, 3) := by decide +kernel
theorem dX7_inCircle_38 : decode cX7_inCircle 38 = .ok (.aload_n 0, 1) := by decide +kernel
theorem dX7_inCircle_39 : decode cX7_inCircle 39 = .ok (.iconst 1, 1) := by decide +kernel
theorem dX7_inCircle_40 : decode cX7_inCircle 40 = .ok (.invokevirtual 172, 3) := by decide +kernel
theorem dX7_inCircle_43 : decode cX7_inCircle 43 = .ok (.ireturn, 1) := by decide +kernel
theorem dX7_inCircle_44 : decode cX7_inCircle 44 = .ok (.aload_n 0, 1) := by decide +kernel
theorem dX7_inCircle_45 : decode cX7_inCircle 45 = .ok (.iload_n 1, 1) := by decide +kernel
theorem dX7_inCircle_46 : decode cX7_inCircle 46 = .ok (.iload_n 2, 1) := by decide +kernel
theorem dX7_inCircle_47 : decode cX7_inCircle 47 = .ok (.iload_n 3, 1) := by decide +kernel
theorem dX7_inCircle_48 : decode cX7_inCircle 48 = .ok (.invokevirtual 79, 3) := by decide +kernel
theorem dX7_inCircle_51 : decode cX7_inCircle 51 = .ok (.ifCond .ne 11, 3) := by decide +kernel
theorem dX7_inCircle_54 : decode cX7_inCircle 54 = .ok (.aload_n 0, 1) := by decide +kernel
theorem dX7_inCircle_55 : decode cX7_inCircle 55 = .ok (.iconst 2, 1) := by decide +kernel
theorem dX7_inCircle_56 : decode cX7_inCircle 56 = .ok (.invokevirtual 172, 3) := by decide +kernel
theorem dX7_inCircle_59 : decode cX7_inCircle 59 = .ok (.goto 12, 3) := by decide +kernel
theorem dX7_inCircle_62 : decode cX7_inCircle 62 = .ok (.aload_n 0, 1) := by decide +kernel
theorem dX7_inCircle_63 : decode cX7_inCircle 63 = .ok (.iload_n 1, 1) := by decide +kernel
theorem dX7_inCircle_64 : decode cX7_inCircle 64 = .ok (.iload_n 2, 1) := by decide +kernel
theorem dX7_inCircle_65 : decode cX7_inCircle 65 = .ok (.iload_n 3, 1) := by decide +kernel
theorem dX7_inCircle_66 : decode cX7_inCircle 66 = .ok (.iload 4, 2) := by decide +kernel
theorem dX7_inCircle_68 : decode cX7_inCircle 68 = .ok (.invokevirtual 97, 3) := by decide +kernel
theorem dX7_inCircle_71 : decode cX7_inCircle 71 = .ok (.ireturn, 1) := by decide +kernel
theorem dX7_goodOf_0 : decode cX7_goodOf 0 = .ok (.aload_n 0, 1) := by decide +kernel
theorem dX7_goodOf_1 : decode cX7_goodOf 1 = .ok (.iload_n 1, 1) := by decide +kernel
theorem dX7_goodOf_2 : decode cX7_goodOf 2 = .ok (.iload_n 2, 1) := by decide +kernel
theorem dX7_goodOf_3 : decode cX7_goodOf 3 = .ok (.invokevirtual 141, 3) := by decide +kernel
theorem dX7_goodOf_6 : decode cX7_goodOf 6 = .ok (.istore_n 3, 1) := by decide +kernel
theorem dX7_goodOf_7 : decode cX7_goodOf 7 = .ok (.aload_n 0, 1) := by decide +kernel
theorem dX7_goodOf_8 : decode cX7_goodOf 8 = .ok (.iload_n 2, 1) := by decide +kernel
theorem dX7_goodOf_9 : decode cX7_goodOf 9 = .ok (.iload_n 1, 1) := by decide +kernel
theorem dX7_goodOf_10 : decode cX7_goodOf 10 = .ok (.invokevirtual 141, 3) := by decide +kernel
theorem dX7_goodOf_13 : decode cX7_goodOf 13 = .ok (.istore 4, 2) := by decide +kernel
theorem dX7_goodOf_15 : decode cX7_goodOf 15 = .ok (.iload_n 3, 1) := by decide +kernel
theorem dX7_goodOf_16 : decode cX7_goodOf 16 = .ok (.ifCond .lt 8, 3) := by decide +kernel
theorem dX7_goodOf_19 : decode cX7_goodOf 19 = .ok (.iload 4, 2) := by decide +kernel
theorem dX7_goodOf_21 : decode cX7_goodOf 21 = .ok (.ifCond .ge 7, 3) := by decide +kernel
theorem dX7_goodOf_24 : decode cX7_goodOf 24 = .ok (.iconst (-1), 1) := by decide +kernel
theorem dX7_goodOf_25 : decode cX7_goodOf 25 = .ok (.goto 20, 3) := by decide +kernel
theorem dX7_goodOf_28 : decode cX7_goodOf 28 = .ok (.aload_n 0, 1) := by decide +kernel
theorem dX7_goodOf_29 : decode cX7_goodOf 29 = .ok (.iload_n 1, 1) := by decide +kernel
theorem dX7_goodOf_30 : decode cX7_goodOf 30 = .ok (.iload_n 2, 1) := by decide +kernel
theorem dX7_goodOf_31 : decode cX7_goodOf 31 = .ok (.iload_n 3, 1) := by decide +kernel
theorem dX7_goodOf_32 : decode cX7_goodOf 32 = .ok (.iload 4, 2) := by decide +kernel
theorem dX7_goodOf_34 : decode cX7_goodOf 34 = .ok (.invokevirtual 144, 3) := by decide +kernel
theorem dX7_goodOf_37 : decode cX7_goodOf 37 = .ok (.ifCond .eq 7, 3) := by decide +kernel
theorem dX7_goodOf_40 : decode cX7_goodOf 40 = .ok (.iconst 1, 1) := by decide +kernel
theorem dX7_goodOf_41 : decode cX7_goodOf 41 = .ok (.goto 4, 3) := by decide +kernel
theorem dX7_goodOf_44 : decode cX7_goodOf 44 = .ok (.iconst 0, 1) := by decide +kernel
theorem dX7_goodOf_45 : decode cX7_goodOf 45 = .ok (.ireturn, 1) := by decide +kernel
theorem dX7_isGood_0 : decode cX7_isGood 0 = .ok (.aload_n 0, 1) := by decide +kernel
theorem dX7_isGood_1 : decode cX7_isGood 1 = .ok (.iconst 0, 1) := by decide +kernel
theorem dX7_isGood_2 : decode cX7_isGood 2 = .ok (.putfield 44, 3) := by decide +kernel
theorem dX7_isGood_5 : decode cX7_isGood 5 = .ok (.aload_n 0, 1) := by decide +kernel
theorem dX7_isGood_6 : decode cX7_isGood 6 = .ok (.invokevirtual 210, 3) := by decide +kernel
theorem dX7_isGood_9 : decode cX7_isGood 9 = .ok (.aload_n 0, 1) := by decide +kernel
theorem dX7_isGood_10 : decode cX7_isGood 10 = .ok (.iload_n 1, 1) := by decide +kernel
theorem dX7_isGood_11 : decode cX7_isGood 11 = .ok (.invokevirtual 225, 3) := by decide +kernel
theorem dX7_isGood_14 : decode cX7_isGood 14 = .ok (.ifCond .ne 10, 3) := by decide +kernel
theorem dX7_isGood_17 : decode cX7_isGood 17 = .ok (.aload_n 0, 1) := by decide +kernel
theorem dX7_isGood_18 : decode cX7_isGood 18 = .ok (.iconst 1, 1) := by decide +kernel
theorem dX7_isGood_19 : decode cX7_isGood 19 = .ok (.putfield 44, 3) := by decide +kernel
theorem dX7_isGood_22 : decode cX7_isGood 22 = .ok (.iconst 0, 1) := by decide +kernel
theorem dX7_isGood_23 : decode cX7_isGood 23 = .ok (.ireturn, 1) := by decide +kernel
theorem dX7_isGood_24 : decode cX7_isGood 24 = .ok (.aload_n 0, 1) := by decide +kernel
theorem dX7_isGood_25 : decode cX7_isGood 25 = .ok (.aload_n 0, 1) := by decide +kernel
theorem dX7_isGood_26 : decode cX7_isGood 26 = .ok (.getfield 38, 3) := by decide +kernel
theorem dX7_isGood_29 : decode cX7_isGood 29 = .ok (.iconst 0, 1) := by decide +kernel
theorem dX7_isGood_30 : decode cX7_isGood 30 = .ok (.iaload, 1) := by decide +kernel
theorem dX7_isGood_31 : decode cX7_isGood 31 = .ok (.aload_n 0, 1) := by decide +kernel
theorem dX7_isGood_32 : decode cX7_isGood 32 = .ok (.getfield 38, 3) := by decide +kernel
theorem dX7_isGood_35 : decode cX7_isGood 35 = .ok (.iconst 1, 1) := by decide +kernel
theorem dX7_isGood_36 : decode cX7_isGood 36 = .ok (.iaload, 1) := by decide +kernel
theorem dX7_isGood_37 : decode cX7_isGood 37 = .ok (.invokevirtual 247, 3) := by decide +kernel
theorem dX7_isGood_40 : decode cX7_isGood 40 = .ok (.istore_n 2, 1) := by decide +kernel
theorem dX7_isGood_41 : decode cX7_isGood 41 = .ok (.iload_n 2, 1) := by decide +kernel
theorem dX7_isGood_42 : decode cX7_isGood 42 = .ok (.ifCond .ge 8, 3) := by decide +kernel
theorem dX7_isGood_45 : decode cX7_isGood 45 = .ok (.aload_n 0, 1) := by decide +kernel
theorem dX7_isGood_46 : decode cX7_isGood 46 = .ok (.iconst 2, 1) := by decide +kernel
theorem dX7_isGood_47 : decode cX7_isGood 47 = .ok (.putfield 44, 3) := by decide +kernel
theorem dX7_isGood_50 : decode cX7_isGood 50 = .ok (.iload_n 2, 1) := by decide +kernel
theorem dX7_isGood_51 : decode cX7_isGood 51 = .ok (.iconst 1, 1) := by decide +kernel
theorem dX7_isGood_52 : decode cX7_isGood 52 = .ok (.if_icmp .ne 7, 3) := by decide +kernel
theorem dX7_isGood_55 : decode cX7_isGood 55 = .ok (.iconst 1, 1) := by decide +kernel
theorem dX7_isGood_56 : decode cX7_isGood 56 = .ok (.goto 4, 3) := by decide +kernel
theorem dX7_isGood_59 : decode cX7_isGood 59 = .ok (.iconst 0, 1) := by decide +kernel
theorem dX7_isGood_60 : decode cX7_isGood 60 = .ok (.ireturn, 1) := by decide +kernel
theorem dX7_forcedConstraints_0 : decode cX7_forcedConstraints 0 = .ok (.aload_n 0, 1) := by decide +kernel
theorem dX7_forcedConstraints_1 : decode cX7_forcedConstraints 1 = .ok (.iconst 0, 1) := by decide +kernel
theorem dX7_forcedConstraints_2 : decode cX7_forcedConstraints 2 = .ok (.putfield 44, 3) := by decide +kernel
theorem dX7_forcedConstraints_5 : decode cX7_forcedConstraints 5 = .ok (.aload_n 0, 1) := by decide +kernel
theorem dX7_forcedConstraints_6 : decode cX7_forcedConstraints 6 = .ok (.invokevirtual 210, 3) := by decide +kernel
theorem dX7_forcedConstraints_9 : decode cX7_forcedConstraints 9 = .ok (.iconst 0, 1) := by decide +kernel
theorem dX7_forcedConstraints_10 : decode cX7_forcedConstraints 10 = .ok (.istore_n 1, 1) := by decide +kernel
theorem dX7_forcedConstraints_11 : decode cX7_forcedConstraints 11 = .ok (.iconst 0, 1) := by decide +kernel
theorem dX7_forcedConstraints_12 : decode cX7_forcedConstraints 12 = .ok (.istore_n 2, 1) := by decide +kernel
theorem dX7_forcedConstraints_13 : decode cX7_forcedConstraints 13 = .ok (.iload_n 2, 1) := by decide +kernel
theorem dX7_forcedConstraints_14 : decode cX7_forcedConstraints 14 = .ok (.aload_n 0, 1) := by decide +kernel
theorem dX7_forcedConstraints_15 : decode cX7_forcedConstraints 15 = .ok (.invokevirtual 56, 3) := by decide +kernel
theorem dX7_forcedConstraints_18 : decode cX7_forcedConstraints 18 = .ok (.if_icmp .ge 31, 3) := by decide +kernel
theorem dX7_forcedConstraints_21 : decode cX7_forcedConstraints 21 = .ok (.aload_n 0, 1) := by decide +kernel
theorem dX7_forcedConstraints_22 : decode cX7_forcedConstraints 22 = .ok (.aload_n 0, 1) := by decide +kernel
theorem dX7_forcedConstraints_23 : decode cX7_forcedConstraints 23 = .ok (.iload_n 2, 1) := by decide +kernel
theorem dX7_forcedConstraints_24 : decode cX7_forcedConstraints 24 = .ok (.iconst 0, 1) := by decide +kernel
theorem dX7_forcedConstraints_25 : decode cX7_forcedConstraints 25 = .ok (.invokevirtual 101, 3) := by decide +kernel
theorem dX7_forcedConstraints_28 : decode cX7_forcedConstraints 28 = .ok (.aload_n 0, 1) := by decide +kernel
theorem dX7_forcedConstraints_29 : decode cX7_forcedConstraints 29 = .ok (.iload_n 2, 1) := by decide +kernel
theorem dX7_forcedConstraints_30 : decode cX7_forcedConstraints 30 = .ok (.iconst 1, 1) := by decide +kernel
theorem dX7_forcedConstraints_31 : decode cX7_forcedConstraints 31 = .ok (.invokevirtual 101, 3) := by decide +kernel
theorem dX7_forcedConstraints_34 : decode cX7_forcedConstraints 34 = .ok (.invokevirtual 247, 3) := by decide +kernel
theorem dX7_forcedConstraints_37 : decode cX7_forcedConstraints 37 = .ok (.ifCond .ne 6, 3) := by decide +kernel
theorem dX7_forcedConstraints_40 : decode cX7_forcedConstraints 40 = .ok (.iinc 1 1, 3) := by decide +kernel
theorem dX7_forcedConstraints_43 : decode cX7_forcedConstraints 43 = .ok (.iinc 2 1, 3) := by decide +kernel
theorem dX7_forcedConstraints_46 : decode cX7_forcedConstraints 46 = .ok (.goto (-33), 3) := by decide +kernel
theorem dX7_forcedConstraints_49 : decode cX7_forcedConstraints 49 = .ok (.iload_n 1, 1) := by decide +kernel
theorem dX7_forcedConstraints_50 : decode cX7_forcedConstraints 50 = .ok (.ireturn, 1) := by decide +kernel
theorem dX7_thingAt_0 : decode cX7_thingAt 0 = .ok (.aload_n 0, 1) := by decide +kernel
theorem dX7_thingAt_1 : decode cX7_thingAt 1 = .ok (.invokevirtual 210, 3) := by decide +kernel
theorem dX7_thingAt_4 : decode cX7_thingAt 4 = .ok (.iconst 0, 1) := by decide +kernel
theorem dX7_thingAt_5 : decode cX7_thingAt 5 = .ok (.istore_n 3, 1) := by decide +kernel
theorem dX7_thingAt_6 : decode cX7_thingAt 6 = .ok (.iload_n 3, 1) := by decide +kernel
theorem dX7_thingAt_7 : decode cX7_thingAt 7 = .ok (.aload_n 0, 1) := by decide +kernel
theorem dX7_thingAt_8 : decode cX7_thingAt 8 = .ok (.invokevirtual 48, 3) := by decide +kernel
theorem dX7_thingAt_11 : decode cX7_thingAt 11 = .ok (.if_icmp .ge 33, 3) := by decide +kernel
theorem dX7_thingAt_14 : decode cX7_thingAt 14 = .ok (.aload_n 0, 1) := by decide +kernel
theorem dX7_thingAt_15 : decode cX7_thingAt 15 = .ok (.iload_n 3, 1) := by decide +kernel
theorem dX7_thingAt_16 : decode cX7_thingAt 16 = .ok (.invokevirtual 65, 3) := by decide +kernel
theorem dX7_thingAt_19 : decode cX7_thingAt 19 = .ok (.iload_n 1, 1) := by decide +kernel
theorem dX7_thingAt_20 : decode cX7_thingAt 20 = .ok (.if_icmp .ne 18, 3) := by decide +kernel
theorem dX7_thingAt_23 : decode cX7_thingAt 23 = .ok (.aload_n 0, 1) := by decide +kernel
theorem dX7_thingAt_24 : decode cX7_thingAt 24 = .ok (.iload_n 3, 1) := by decide +kernel
theorem dX7_thingAt_25 : decode cX7_thingAt 25 = .ok (.invokevirtual 68, 3) := by decide +kernel
theorem dX7_thingAt_28 : decode cX7_thingAt 28 = .ok (.iload_n 2, 1) := by decide +kernel
theorem dX7_thingAt_29 : decode cX7_thingAt 29 = .ok (.if_icmp .ne 9, 3) := by decide +kernel
theorem dX7_thingAt_32 : decode cX7_thingAt 32 = .ok (.sipush 10000, 3) := by decide +kernel
theorem dX7_thingAt_35 : decode cX7_thingAt 35 = .ok (.iload_n 3, 1) := by decide +kernel
theorem dX7_thingAt_36 : decode cX7_thingAt 36 = .ok (.iadd, 1) := by decide +kernel
theorem dX7_thingAt_37 : decode cX7_thingAt 37 = .ok (.ireturn, 1) := by decide +kernel
theorem dX7_thingAt_38 : decode cX7_thingAt 38 = .ok (.iinc 3 1, 3) := by decide +kernel
theorem dX7_thingAt_41 : decode cX7_thingAt 41 = .ok (.goto (-35), 3) := by decide +kernel
theorem dX7_thingAt_44 : decode cX7_thingAt 44 = .ok (.iconst 0, 1) := by decide +kernel
theorem dX7_thingAt_45 : decode cX7_thingAt 45 = .ok (.istore_n 3, 1) := by decide +kernel
theorem dX7_thingAt_46 : decode cX7_thingAt 46 = .ok (.iload_n 3, 1) := by decide +kernel
theorem dX7_thingAt_47 : decode cX7_thingAt 47 = .ok (.aload_n 0, 1) := by decide +kernel
theorem dX7_thingAt_48 : decode cX7_thingAt 48 = .ok (.invokevirtual 48, 3) := by decide +kernel
theorem dX7_thingAt_51 : decode cX7_thingAt 51 = .ok (.if_icmp .ge 63, 3) := by decide +kernel
theorem dX7_thingAt_54 : decode cX7_thingAt 54 = .ok (.iload_n 3, 1) := by decide +kernel
theorem dX7_thingAt_55 : decode cX7_thingAt 55 = .ok (.iconst 1, 1) := by decide +kernel
theorem dX7_thingAt_56 : decode cX7_thingAt 56 = .ok (.iadd, 1) := by decide +kernel
theorem dX7_thingAt_57 : decode cX7_thingAt 57 = .ok (.istore 4, 2) := by decide +kernel
theorem dX7_thingAt_59 : decode cX7_thingAt 59 = .ok (.iload 4, 2) := by decide +kernel
theorem dX7_thingAt_61 : decode cX7_thingAt 61 = .ok (.aload_n 0, 1) := by decide +kernel
theorem dX7_thingAt_62 : decode cX7_thingAt 62 = .ok (.invokevirtual 48, 3) := by decide +kernel
theorem dX7_thingAt_65 : decode cX7_thingAt 65 = .ok (.if_icmp .ge 43, 3) := by decide +kernel
theorem dX7_thingAt_68 : decode cX7_thingAt 68 = .ok (.aload_n 0, 1) := by decide +kernel
theorem dX7_thingAt_69 : decode cX7_thingAt 69 = .ok (.iload_n 3, 1) := by decide +kernel
theorem dX7_thingAt_70 : decode cX7_thingAt 70 = .ok (.iload 4, 2) := by decide +kernel
theorem dX7_thingAt_72 : decode cX7_thingAt 72 = .ok (.invokevirtual 104, 3) := by decide +kernel
theorem dX7_thingAt_75 : decode cX7_thingAt 75 = .ok (.ifCond .eq 27, 3) := by decide +kernel
theorem dX7_thingAt_78 : decode cX7_thingAt 78 = .ok (.aload_n 0, 1) := by decide +kernel
theorem dX7_thingAt_79 : decode cX7_thingAt 79 = .ok (.iload_n 3, 1) := by decide +kernel
theorem dX7_thingAt_80 : decode cX7_thingAt 80 = .ok (.iload 4, 2) := by decide +kernel
theorem dX7_thingAt_82 : decode cX7_thingAt 82 = .ok (.iload_n 1, 1) := by decide +kernel
theorem dX7_thingAt_83 : decode cX7_thingAt 83 = .ok (.iload_n 2, 1) := by decide +kernel
theorem dX7_thingAt_84 : decode cX7_thingAt 84 = .ok (.invokevirtual 75, 3) := by decide +kernel
theorem dX7_thingAt_87 : decode cX7_thingAt 87 = .ok (.ifCond .eq 15, 3) := by decide +kernel
theorem dX7_thingAt_90 : decode cX7_thingAt 90 = .ok (.sipush 20000, 3) := by decide +kernel
theorem dX7_thingAt_93 : decode cX7_thingAt 93 = .ok (.aload_n 0, 1) := by decide +kernel
theorem dX7_thingAt_94 : decode cX7_thingAt 94 = .ok (.iload_n 3, 1) := by decide +kernel
theorem dX7_thingAt_95 : decode cX7_thingAt 95 = .ok (.iload 4, 2) := by decide +kernel
theorem dX7_thingAt_97 : decode cX7_thingAt 97 = .ok (.invokevirtual 228, 3) := by decide +kernel
theorem dX7_thingAt_100 : decode cX7_thingAt 100 = .ok (.iadd, 1) := by decide +kernel
theorem dX7_thingAt_101 : decode cX7_thingAt 101 = .ok (.ireturn, 1) := by decide +kernel
theorem dX7_thingAt_102 : decode cX7_thingAt 102 = .ok (.iinc 4 1, 3) := by decide +kernel
theorem dX7_thingAt_105 : decode cX7_thingAt 105 = .ok (.goto (-46), 3) := by decide +kernel
theorem dX7_thingAt_108 : decode cX7_thingAt 108 = .ok (.iinc 3 1, 3) := by decide +kernel
theorem dX7_thingAt_111 : decode cX7_thingAt 111 = .ok (.goto (-65), 3) := by decide +kernel
theorem dX7_thingAt_114 : decode cX7_thingAt 114 = .ok (.iconst 0, 1) := by decide +kernel
theorem dX7_thingAt_115 : decode cX7_thingAt 115 = .ok (.istore_n 3, 1) := by decide +kernel
theorem dX7_thingAt_116 : decode cX7_thingAt 116 = .ok (.iload_n 3, 1) := by decide +kernel
theorem dX7_thingAt_117 : decode cX7_thingAt 117 = .ok (.aload_n 0, 1) := by decide +kernel
theorem dX7_thingAt_118 : decode cX7_thingAt 118 = .ok (.getfield 114, 3) := by decide +kernel
theorem dX7_thingAt_121 : decode cX7_thingAt 121 = .ok (.if_icmp .ge 25, 3) := by decide +kernel
theorem dX7_thingAt_124 : decode cX7_thingAt 124 = .ok (.aload_n 0, 1) := by decide +kernel
theorem dX7_thingAt_125 : decode cX7_thingAt 125 = .ok (.iload_n 3, 1) := by decide +kernel
theorem dX7_thingAt_126 : decode cX7_thingAt 126 = .ok (.iload_n 1, 1) := by decide +kernel
theorem dX7_thingAt_127 : decode cX7_thingAt 127 = .ok (.iload_n 2, 1) := by decide +kernel
theorem dX7_thingAt_128 : decode cX7_thingAt 128 = .ok (.invokevirtual 250, 3) := by decide +kernel
theorem dX7_thingAt_131 : decode cX7_thingAt 131 = .ok (.ifCond .ge 9, 3) := by decide +kernel
theorem dX7_thingAt_134 : decode cX7_thingAt 134 = .ok (.sipush 30000, 3) := by decide +kernel
theorem dX7_thingAt_137 : decode cX7_thingAt 137 = .ok (.iload_n 3, 1) := by decide +kernel
theorem dX7_thingAt_138 : decode cX7_thingAt 138 = .ok (.iadd, 1) := by decide +kernel
theorem dX7_thingAt_139 : decode cX7_thingAt 139 = .ok (.ireturn, 1) := by decide +kernel
theorem dX7_thingAt_140 : decode cX7_thingAt 140 = .ok (.iinc 3 1, 3) := by decide +kernel
theorem dX7_thingAt_143 : decode cX7_thingAt 143 = .ok (.goto (-27), 3) := by decide +kernel
theorem dX7_thingAt_146 : decode cX7_thingAt 146 = .ok (.iconst 0, 1) := by decide +kernel
theorem dX7_thingAt_147 : decode cX7_thingAt 147 = .ok (.ireturn, 1) := by decide +kernel
theorem dX7_away_0 : decode cX7_away 0 = .ok (.iconst 0, 1) := by decide +kernel
theorem dX7_away_1 : decode cX7_away 1 = .ok (.istore 4, 2) := by decide +kernel
theorem dX7_away_3 : decode cX7_away 3 = .ok (.iload 4, 2) := by decide +kernel
theorem dX7_away_5 : decode cX7_away 5 = .ok (.iconst 3, 1) := by decide +kernel
theorem dX7_away_6 : decode cX7_away 6 = .ok (.if_icmp .ge 64, 3) := by decide +kernel
theorem dX7_away_9 : decode cX7_away 9 = .ok (.aload_n 0, 1) := by decide +kernel
theorem dX7_away_10 : decode cX7_away 10 = .ok (.iload_n 1, 1) := by decide +kernel
theorem dX7_away_11 : decode cX7_away 11 = .ok (.iload 4, 2) := by decide +kernel
theorem dX7_away_13 : decode cX7_away 13 = .ok (.invokevirtual 147, 3) := by decide +kernel
theorem dX7_away_16 : decode cX7_away 16 = .ok (.istore 5, 2) := by decide +kernel
theorem dX7_away_18 : decode cX7_away 18 = .ok (.aload_n 0, 1) := by decide +kernel
theorem dX7_away_19 : decode cX7_away 19 = .ok (.iload_n 1, 1) := by decide +kernel
theorem dX7_away_20 : decode cX7_away 20 = .ok (.iload 4, 2) := by decide +kernel
theorem dX7_away_22 : decode cX7_away 22 = .ok (.iconst 1, 1) := by decide +kernel
theorem dX7_away_23 : decode cX7_away 23 = .ok (.iadd, 1) := by decide +kernel
theorem dX7_away_24 : decode cX7_away 24 = .ok (.invokevirtual 147, 3) := by decide +kernel
theorem dX7_away_27 : decode cX7_away 27 = .ok (.istore 6, 2) := by decide +kernel
theorem dX7_away_29 : decode cX7_away 29 = .ok (.aload_n 0, 1) := by decide +kernel
theorem dX7_away_30 : decode cX7_away 30 = .ok (.iload 5, 2) := by decide +kernel
theorem dX7_away_32 : decode cX7_away 32 = .ok (.invokevirtual 65, 3) := by decide +kernel
theorem dX7_away_35 : decode cX7_away 35 = .ok (.aload_n 0, 1) := by decide +kernel
theorem dX7_away_36 : decode cX7_away 36 = .ok (.iload 5, 2) := by decide +kernel
theorem dX7_away_38 : decode cX7_away 38 = .ok (.invokevirtual 68, 3) := by decide +kernel
theorem dX7_away_41 : decode cX7_away 41 = .ok (.aload_n 0, 1) := by decide +kernel
theorem dX7_away_42 : decode cX7_away 42 = .ok (.iload 6, 2) := by decide +kernel
theorem dX7_away_44 : decode cX7_away 44 = .ok (.invokevirtual 65, 3) := by decide +kernel
theorem dX7_away_47 : decode cX7_away 47 = .ok (.aload_n 0, 1) := by decide +kernel
theorem dX7_away_48 : decode cX7_away 48 = .ok (.iload 6, 2) := by decide +kernel
theorem dX7_away_50 : decode cX7_away 50 = .ok (.invokevirtual 68, 3) := by decide +kernel
theorem dX7_away_53 : decode cX7_away 53 = .ok (.iload_n 2, 1) := by decide +kernel
theorem dX7_away_54 : decode cX7_away 54 = .ok (.iload_n 3, 1) := by decide +kernel
theorem dX7_away_55 : decode cX7_away 55 = .ok (.invokestatic 71, 3) := by decide +kernel
theorem dX7_away_58 : decode cX7_away 58 = .ok (.ifCond .ge 6, 3) := by decide +kernel
theorem dX7_away_61 : decode cX7_away 61 = .ok (.iload 4, 2) := by decide +kernel
theorem dX7_away_63 : decode cX7_away 63 = .ok (.ireturn, 1) := by decide +kernel
theorem dX7_away_64 : decode cX7_away 64 = .ok (.iinc 4 1, 3) := by decide +kernel
theorem dX7_away_67 : decode cX7_away 67 = .ok (.goto (-64), 3) := by decide +kernel
theorem dX7_away_70 : decode cX7_away 70 = .ok (.iconst (-1), 1) := by decide +kernel
theorem dX7_away_71 : decode cX7_away 71 = .ok (.ireturn, 1) := by decide +kernel
theorem dX7_kindAt_0 : decode cX7_kindAt 0 = .ok (.aload_n 0, 1) := by decide +kernel
theorem dX7_kindAt_1 : decode cX7_kindAt 1 = .ok (.iconst 0, 1) := by decide +kernel
theorem dX7_kindAt_2 : decode cX7_kindAt 2 = .ok (.putfield 44, 3) := by decide +kernel
theorem dX7_kindAt_5 : decode cX7_kindAt 5 = .ok (.iload_n 1, 1) := by decide +kernel
theorem dX7_kindAt_6 : decode cX7_kindAt 6 = .ok (.iload_n 2, 1) := by decide +kernel
theorem dX7_kindAt_7 : decode cX7_kindAt 7 = .ok (.invokestatic 153, 3) := by decide +kernel
theorem dX7_kindAt_10 : decode cX7_kindAt 10 = .ok (.ifCond .eq 16, 3) := by decide +kernel
theorem dX7_kindAt_13 : decode cX7_kindAt 13 = .ok (.aload_n 0, 1) := by decide +kernel
theorem dX7_kindAt_14 : decode cX7_kindAt 14 = .ok (.iload_n 1, 1) := by decide +kernel
theorem dX7_kindAt_15 : decode cX7_kindAt 15 = .ok (.iload_n 2, 1) := by decide +kernel
theorem dX7_kindAt_16 : decode cX7_kindAt 16 = .ok (.invokevirtual 253, 3) := by decide +kernel
theorem dX7_kindAt_19 : decode cX7_kindAt 19 = .ok (.sipush 10000, 3) := by decide +kernel
theorem dX7_kindAt_22 : decode cX7_kindAt 22 = .ok (.idiv, 1) := by decide +kernel
theorem dX7_kindAt_23 : decode cX7_kindAt 23 = .ok (.goto 8, 3) := by decide +kernel
theorem dX7_kindAt_26 : decode cX7_kindAt 26 = .ok (.aload_n 0, 1) := by decide +kernel
theorem dX7_kindAt_27 : decode cX7_kindAt 27 = .ok (.iconst 1, 1) := by decide +kernel
theorem dX7_kindAt_28 : decode cX7_kindAt 28 = .ok (.invokevirtual 172, 3) := by decide +kernel
theorem dX7_kindAt_31 : decode cX7_kindAt 31 = .ok (.ireturn, 1) := by decide +kernel
theorem dX7_numberAt_0 : decode cX7_numberAt 0 = .ok (.aload_n 0, 1) := by decide +kernel
theorem dX7_numberAt_1 : decode cX7_numberAt 1 = .ok (.iconst 0, 1) := by decide +kernel
theorem dX7_numberAt_2 : decode cX7_numberAt 2 = .ok (.putfield 44, 3) := by decide +kernel
theorem dX7_numberAt_5 : decode cX7_numberAt 5 = .ok (.iload_n 1, 1) := by decide +kernel
theorem dX7_numberAt_6 : decode cX7_numberAt 6 = .ok (.iload_n 2, 1) := by decide +kernel
theorem dX7_numberAt_7 : decode cX7_numberAt 7 = .ok (.invokestatic 153, 3) := by decide +kernel
theorem dX7_numberAt_10 : decode cX7_numberAt 10 = .ok (.ifCond .ne 9, 3) := by decide +kernel
theorem dX7_numberAt_13 : decode cX7_numberAt 13 = .ok (.aload_n 0, 1) := by decide +kernel
theorem dX7_numberAt_14 : decode cX7_numberAt 14 = .ok (.iconst 1, 1) := by decide +kernel
theorem dX7_numberAt_15 : decode cX7_numberAt 15 = .ok (.invokevirtual 172, 3) := by decide +kernel
theorem dX7_numberAt_18 : decode cX7_numberAt 18 = .ok (.ireturn, 1) := by decide +kernel
theorem dX7_numberAt_19 : decode cX7_numberAt 19 = .ok (.aload_n 0, 1) := by decide +kernel
theorem dX7_numberAt_20 : decode cX7_numberAt 20 = .ok (.iload_n 1, 1) := by decide +kernel
theorem dX7_numberAt_21 : decode cX7_numberAt 21 = .ok (.iload_n 2, 1) := by decide +kernel
theorem dX7_numberAt_22 : decode cX7_numberAt 22 = .ok (.invokevirtual 253, 3) := by decide +kernel
theorem dX7_numberAt_25 : decode cX7_numberAt 25 = .ok (.istore_n 3, 1) := by decide +kernel
theorem dX7_numberAt_26 : decode cX7_numberAt 26 = .ok (.iload_n 3, 1) := by decide +kernel
theorem dX7_numberAt_27 : decode cX7_numberAt 27 = .ok (.ifCond .ne 11, 3) := by decide +kernel
theorem dX7_numberAt_30 : decode cX7_numberAt 30 = .ok (.aload_n 0, 1) := by decide +kernel
theorem dX7_numberAt_31 : decode cX7_numberAt 31 = .ok (.iconst 2, 1) := by decide +kernel
theorem dX7_numberAt_32 : decode cX7_numberAt 32 = .ok (.invokevirtual 172, 3) := by decide +kernel
theorem dX7_numberAt_35 : decode cX7_numberAt 35 = .ok (.goto 8, 3) := by decide +kernel
theorem dX7_numberAt_38 : decode cX7_numberAt 38 = .ok (.iload_n 3, 1) := by decide +kernel
theorem dX7_numberAt_39 : decode cX7_numberAt 39 = .ok (.sipush 10000, 3) := by decide +kernel
theorem dX7_numberAt_42 : decode cX7_numberAt 42 = .ok (.irem, 1) := by decide +kernel
theorem dX7_numberAt_43 : decode cX7_numberAt 43 = .ok (.ireturn, 1) := by decide +kernel
theorem dX7_walk_0 : decode cX7_walk 0 = .ok (.aload_n 0, 1) := by decide +kernel
theorem dX7_walk_1 : decode cX7_walk 1 = .ok (.iconst 0, 1) := by decide +kernel
theorem dX7_walk_2 : decode cX7_walk 2 = .ok (.putfield 44, 3) := by decide +kernel
theorem dX7_walk_5 : decode cX7_walk 5 = .ok (.aload_n 0, 1) := by decide +kernel
theorem dX7_walk_6 : decode cX7_walk 6 = .ok (.iload_n 1, 1) := by decide +kernel
theorem dX7_walk_7 : decode cX7_walk 7 = .ok (.invokevirtual 213, 3) := by decide +kernel
theorem dX7_walk_10 : decode cX7_walk 10 = .ok (.ifCond .ne 9, 3) := by decide +kernel
theorem dX7_walk_13 : decode cX7_walk 13 = .ok (.aload_n 0, 1) := by decide +kernel
theorem dX7_walk_14 : decode cX7_walk 14 = .ok (.iconst 1, 1) := by decide +kernel
theorem dX7_walk_15 : decode cX7_walk 15 = .ok (.invokevirtual 172, 3) := by decide +kernel
theorem dX7_walk_18 : decode cX7_walk 18 = .ok (.ireturn, 1) := by decide +kernel
theorem dX7_walk_19 : decode cX7_walk 19 = .ok (.iload_n 2, 1) := by decide +kernel
theorem dX7_walk_20 : decode cX7_walk 20 = .ok (.iload_n 3, 1) := by decide +kernel
theorem dX7_walk_21 : decode cX7_walk 21 = .ok (.invokestatic 153, 3) := by decide +kernel
theorem dX7_walk_24 : decode cX7_walk 24 = .ok (.ifCond .ne 9, 3) := by decide +kernel
theorem dX7_walk_27 : decode cX7_walk 27 = .ok (.aload_n 0, 1) := by decide +kernel
theorem dX7_walk_28 : decode cX7_walk 28 = .ok (.iconst 2, 1) := by decide +kernel
theorem dX7_walk_29 : decode cX7_walk 29 = .ok (.invokevirtual 172, 3) := by decide +kernel
theorem dX7_walk_32 : decode cX7_walk 32 = .ok (.ireturn, 1) := by decide +kernel
theorem dX7_walk_33 : decode cX7_walk 33 = .ok (.iload_n 1, 1) := by decide +kernel
theorem dX7_walk_34 : decode cX7_walk 34 = .ok (.istore 5, 2) := by decide +kernel
theorem dX7_walk_36 : decode cX7_walk 36 = .ok (.iconst 0, 1) := by decide +kernel
theorem dX7_walk_37 : decode cX7_walk 37 = .ok (.istore 6, 2) := by decide +kernel
theorem dX7_walk_39 : decode cX7_walk 39 = .ok (.aload_n 0, 1) := by decide +kernel
theorem dX7_walk_40 : decode cX7_walk 40 = .ok (.iload 5, 2) := by decide +kernel
theorem dX7_walk_42 : decode cX7_walk 42 = .ok (.iload_n 2, 1) := by decide +kernel
theorem dX7_walk_43 : decode cX7_walk 43 = .ok (.iload_n 3, 1) := by decide +kernel
theorem dX7_walk_44 : decode cX7_walk 44 = .ok (.invokevirtual 250, 3) := by decide +kernel
theorem dX7_walk_47 : decode cX7_walk 47 = .ok (.istore 7, 2) := by decide +kernel
theorem dX7_walk_49 : decode cX7_walk 49 = .ok (.iload 7, 2) := by decide +kernel
theorem dX7_walk_51 : decode cX7_walk 51 = .ok (.ifCond .ge 16, 3) := by decide +kernel
theorem dX7_walk_54 : decode cX7_walk 54 = .ok (.iload 4, 2) := by decide +kernel
theorem dX7_walk_56 : decode cX7_walk 56 = .ok (.ifCond .eq 8, 3) := by decide +kernel
theorem dX7_walk_59 : decode cX7_walk 59 = .ok (.iload 5, 2) := by decide +kernel
theorem dX7_walk_61 : decode cX7_walk 61 = .ok (.goto 5, 3) := by decide +kernel
theorem dX7_walk_64 : decode cX7_walk 64 = .ok (.iload 6, 2) := by decide +kernel
theorem dX7_walk_66 : decode cX7_walk 66 = .ok (.ireturn, 1) := by decide +kernel
theorem dX7_walk_67 : decode cX7_walk 67 = .ok (.aload_n 0, 1) := by decide +kernel
theorem dX7_walk_68 : decode cX7_walk 68 = .ok (.iload 5, 2) := by decide +kernel
theorem dX7_walk_70 : decode cX7_walk 70 = .ok (.iload 7, 2) := by decide +kernel
theorem dX7_walk_72 : decode cX7_walk 72 = .ok (.invokevirtual 219, 3) := by decide +kernel
theorem dX7_walk_75 : decode cX7_walk 75 = .ok (.istore 8, 2) := by decide +kernel
theorem dX7_walk_77 : decode cX7_walk 77 = .ok (.iload 8, 2) := by decide +kernel
theorem dX7_walk_79 : decode cX7_walk 79 = .ok (.ifCond .lt 10, 3) := by decide +kernel
theorem dX7_walk_82 : decode cX7_walk 82 = .ok (.iload 6, 2) := by decide +kernel
theorem dX7_walk_84 : decode cX7_walk 84 = .ok (.bipush 50, 2) := by decide +kernel
theorem dX7_walk_86 : decode cX7_walk 86 = .ok (.if_icmp .ne 15, 3) := by decide +kernel
theorem dX7_walk_89 : decode cX7_walk 89 = .ok (.iload 4, 2) := by decide +kernel
theorem dX7_walk_91 : decode cX7_walk 91 = .ok (.ifCond .eq 7, 3) := by decide +kernel
theorem dX7_walk_94 : decode cX7_walk 94 = .ok (.iconst (-1), 1) := by decide +kernel
theorem dX7_walk_95 : decode cX7_walk 95 = .ok (.goto 5, 3) := by decide +kernel
theorem dX7_walk_98 : decode cX7_walk 98 = .ok (.iload 6, 2) := by decide +kernel
theorem dX7_walk_100 : decode cX7_walk 100 = .ok (.ireturn, 1) := by decide +kernel
theorem dX7_walk_101 : decode cX7_walk 101 = .ok (.iload 8, 2) := by decide +kernel
theorem dX7_walk_103 : decode cX7_walk 103 = .ok (.istore 5, 2) := by decide +kernel
theorem dX7_walk_105 : decode cX7_walk 105 = .ok (.iinc 6 1, 3) := by decide +kernel
theorem dX7_walk_108 : decode cX7_walk 108 = .ok (.goto (-69), 3) := by decide +kernel
theorem dX7_keeps_0 : decode cX7_keeps 0 = .ok (.iconst 0, 1) := by decide +kernel
theorem dX7_keeps_1 : decode cX7_keeps 1 = .ok (.istore_n 1, 1) := by decide +kernel
theorem dX7_keeps_2 : decode cX7_keeps 2 = .ok (.iload_n 1, 1) := by decide +kernel
theorem dX7_keeps_3 : decode cX7_keeps 3 = .ok (.bipush 56, 2) := by decide +kernel
theorem dX7_keeps_5 : decode cX7_keeps 5 = .ok (.if_icmp .ge 21, 3) := by decide +kernel
theorem dX7_keeps_8 : decode cX7_keeps 8 = .ok (.aload_n 0, 1) := by decide +kernel
theorem dX7_keeps_9 : decode cX7_keeps 9 = .ok (.getfield 35, 3) := by decide +kernel
theorem dX7_keeps_12 : decode cX7_keeps 12 = .ok (.iload_n 1, 1) := by decide +kernel
theorem dX7_keeps_13 : decode cX7_keeps 13 = .ok (.aload_n 0, 1) := by decide +kernel
theorem dX7_keeps_14 : decode cX7_keeps 14 = .ok (.getfield 9, 3) := by decide +kernel
theorem dX7_keeps_17 : decode cX7_keeps 17 = .ok (.iload_n 1, 1) := by decide +kernel
theorem dX7_keeps_18 : decode cX7_keeps 18 = .ok (.iaload, 1) := by decide +kernel
theorem dX7_keeps_19 : decode cX7_keeps 19 = .ok (.iastore, 1) := by decide +kernel
theorem dX7_keeps_20 : decode cX7_keeps 20 = .ok (.iinc 1 1, 3) := by decide +kernel
theorem dX7_keeps_23 : decode cX7_keeps 23 = .ok (.goto (-21), 3) := by decide +kernel
theorem dX7_keeps_26 : decode cX7_keeps 26 = .ok (.iconst 0, 1) := by decide +kernel
theorem dX7_keeps_27 : decode cX7_keeps 27 = .ok (.istore_n 1, 1) := by decide +kernel
theorem dX7_keeps_28 : decode cX7_keeps 28 = .ok (.iload_n 1, 1) := by decide +kernel
theorem dX7_keeps_29 : decode cX7_keeps 29 = .ok (.iconst 3, 1) := by decide +kernel
theorem dX7_keeps_30 : decode cX7_keeps 30 = .ok (.aload_n 0, 1) := by decide +kernel
theorem dX7_keeps_31 : decode cX7_keeps 31 = .ok (.getfield 114, 3) := by decide +kernel
theorem dX7_keeps_34 : decode cX7_keeps 34 = .ok (.imul, 1) := by decide +kernel
theorem dX7_keeps_35 : decode cX7_keeps 35 = .ok (.if_icmp .ge 21, 3) := by decide +kernel
theorem dX7_keeps_38 : decode cX7_keeps 38 = .ok (.aload_n 0, 1) := by decide +kernel
theorem dX7_keeps_39 : decode cX7_keeps 39 = .ok (.getfield 29, 3) := by decide +kernel
theorem dX7_keeps_42 : decode cX7_keeps 42 = .ok (.iload_n 1, 1) := by decide +kernel
theorem dX7_keeps_43 : decode cX7_keeps 43 = .ok (.aload_n 0, 1) := by decide +kernel
theorem dX7_keeps_44 : decode cX7_keeps 44 = .ok (.getfield 26, 3) := by decide +kernel
theorem dX7_keeps_47 : decode cX7_keeps 47 = .ok (.iload_n 1, 1) := by decide +kernel
theorem dX7_keeps_48 : decode cX7_keeps 48 = .ok (.iaload, 1) := by decide +kernel
theorem dX7_keeps_49 : decode cX7_keeps 49 = .ok (.iastore, 1) := by decide +kernel
theorem dX7_keeps_50 : decode cX7_keeps 50 = .ok (.iinc 1 1, 3) := by decide +kernel
theorem dX7_keeps_53 : decode cX7_keeps 53 = .ok (.goto (-25), 3) := by decide +kernel
theorem dX7_keeps_56 : decode cX7_keeps 56 = .ok (.iconst 0, 1) := by decide +kernel
theorem dX7_keeps_57 : decode cX7_keeps 57 = .ok (.istore_n 1, 1) := by decide +kernel
theorem dX7_keeps_58 : decode cX7_keeps 58 = .ok (.iload_n 1, 1) := by decide +kernel
theorem dX7_keeps_59 : decode cX7_keeps 59 = .ok (.sipush 289, 3) := by decide +kernel
theorem dX7_keeps_62 : decode cX7_keeps 62 = .ok (.if_icmp .ge 21, 3) := by decide +kernel
theorem dX7_keeps_65 : decode cX7_keeps 65 = .ok (.aload_n 0, 1) := by decide +kernel
theorem dX7_keeps_66 : decode cX7_keeps 66 = .ok (.getfield 32, 3) := by decide +kernel
theorem dX7_keeps_69 : decode cX7_keeps 69 = .ok (.iload_n 1, 1) := by decide +kernel
theorem dX7_keeps_70 : decode cX7_keeps 70 = .ok (.aload_n 0, 1) := by decide +kernel
theorem dX7_keeps_71 : decode cX7_keeps 71 = .ok (.getfield 22, 3) := by decide +kernel
theorem dX7_keeps_74 : decode cX7_keeps 74 = .ok (.iload_n 1, 1) := by decide +kernel
theorem dX7_keeps_75 : decode cX7_keeps 75 = .ok (.baload, 1) := by decide +kernel
theorem dX7_keeps_76 : decode cX7_keeps 76 = .ok (.bastore, 1) := by decide +kernel
theorem dX7_keeps_77 : decode cX7_keeps 77 = .ok (.iinc 1 1, 3) := by decide +kernel
theorem dX7_keeps_80 : decode cX7_keeps 80 = .ok (.goto (-22), 3) := by decide +kernel
theorem dX7_keeps_83 : decode cX7_keeps 83 = .ok (.return_, 1) := by decide +kernel
theorem dX7_goesBack_0 : decode cX7_goesBack 0 = .ok (.iconst 0, 1) := by decide +kernel
theorem dX7_goesBack_1 : decode cX7_goesBack 1 = .ok (.istore_n 1, 1) := by decide +kernel
theorem dX7_goesBack_2 : decode cX7_goesBack 2 = .ok (.iload_n 1, 1) := by decide +kernel
theorem dX7_goesBack_3 : decode cX7_goesBack 3 = .ok (.bipush 56, 2) := by decide +kernel
theorem dX7_goesBack_5 : decode cX7_goesBack 5 = .ok (.if_icmp .ge 21, 3) := by decide +kernel
theorem dX7_goesBack_8 : decode cX7_goesBack 8 = .ok (.aload_n 0, 1) := by decide +kernel
theorem dX7_goesBack_9 : decode cX7_goesBack 9 = .ok (.getfield 9, 3) := by decide +kernel
theorem dX7_goesBack_12 : decode cX7_goesBack 12 = .ok (.iload_n 1, 1) := by decide +kernel
theorem dX7_goesBack_13 : decode cX7_goesBack 13 = .ok (.aload_n 0, 1) := by decide +kernel
theorem dX7_goesBack_14 : decode cX7_goesBack 14 = .ok (.getfield 35, 3) := by decide +kernel
theorem dX7_goesBack_17 : decode cX7_goesBack 17 = .ok (.iload_n 1, 1) := by decide +kernel
theorem dX7_goesBack_18 : decode cX7_goesBack 18 = .ok (.iaload, 1) := by decide +kernel
theorem dX7_goesBack_19 : decode cX7_goesBack 19 = .ok (.iastore, 1) := by decide +kernel
theorem dX7_goesBack_20 : decode cX7_goesBack 20 = .ok (.iinc 1 1, 3) := by decide +kernel
theorem dX7_goesBack_23 : decode cX7_goesBack 23 = .ok (.goto (-21), 3) := by decide +kernel
theorem dX7_goesBack_26 : decode cX7_goesBack 26 = .ok (.return_, 1) := by decide +kernel
theorem dX7_cavity_0 : decode cX7_cavity 0 = .ok (.aload_n 0, 1) := by decide +kernel
theorem dX7_cavity_1 : decode cX7_cavity 1 = .ok (.aload_n 0, 1) := by decide +kernel
theorem dX7_cavity_2 : decode cX7_cavity 2 = .ok (.iload_n 1, 1) := by decide +kernel
theorem dX7_cavity_3 : decode cX7_cavity 3 = .ok (.iload_n 2, 1) := by decide +kernel
theorem dX7_cavity_4 : decode cX7_cavity 4 = .ok (.invokevirtual 159, 3) := by decide +kernel
theorem dX7_cavity_7 : decode cX7_cavity 7 = .ok (.putfield 44, 3) := by decide +kernel
theorem dX7_cavity_10 : decode cX7_cavity 10 = .ok (.aload_n 0, 1) := by decide +kernel
theorem dX7_cavity_11 : decode cX7_cavity 11 = .ok (.getfield 44, 3) := by decide +kernel
theorem dX7_cavity_14 : decode cX7_cavity 14 = .ok (.ifCond .le 5, 3) := by decide +kernel
theorem dX7_cavity_17 : decode cX7_cavity 17 = .ok (.iconst 0, 1) := by decide +kernel
theorem dX7_cavity_18 : decode cX7_cavity 18 = .ok (.ireturn, 1) := by decide +kernel
theorem dX7_cavity_19 : decode cX7_cavity 19 = .ok (.aload_n 0, 1) := by decide +kernel
theorem dX7_cavity_20 : decode cX7_cavity 20 = .ok (.invokevirtual 210, 3) := by decide +kernel
theorem dX7_cavity_23 : decode cX7_cavity 23 = .ok (.aload_n 0, 1) := by decide +kernel
theorem dX7_cavity_24 : decode cX7_cavity 24 = .ok (.invokevirtual 256, 3) := by decide +kernel
theorem dX7_cavity_27 : decode cX7_cavity 27 = .ok (.aload_n 0, 1) := by decide +kernel
theorem dX7_cavity_28 : decode cX7_cavity 28 = .ok (.getfield 114, 3) := by decide +kernel
theorem dX7_cavity_31 : decode cX7_cavity 31 = .ok (.istore_n 3, 1) := by decide +kernel
theorem dX7_cavity_32 : decode cX7_cavity 32 = .ok (.aload_n 0, 1) := by decide +kernel
theorem dX7_cavity_33 : decode cX7_cavity 33 = .ok (.aload_n 0, 1) := by decide +kernel
theorem dX7_cavity_34 : decode cX7_cavity 34 = .ok (.invokevirtual 48, 3) := by decide +kernel
theorem dX7_cavity_37 : decode cX7_cavity 37 = .ok (.iload_n 1, 1) := by decide +kernel
theorem dX7_cavity_38 : decode cX7_cavity 38 = .ok (.iload_n 2, 1) := by decide +kernel
theorem dX7_cavity_39 : decode cX7_cavity 39 = .ok (.invokevirtual 165, 3) := by decide +kernel
theorem dX7_cavity_42 : decode cX7_cavity 42 = .ok (.aload_n 0, 1) := by decide +kernel
theorem dX7_cavity_43 : decode cX7_cavity 43 = .ok (.getfield 9, 3) := by decide +kernel
theorem dX7_cavity_46 : decode cX7_cavity 46 = .ok (.iconst 0, 1) := by decide +kernel
theorem dX7_cavity_47 : decode cX7_cavity 47 = .ok (.dup2, 1) := by decide +kernel
theorem dX7_cavity_48 : decode cX7_cavity 48 = .ok (.iaload, 1) := by decide +kernel
theorem dX7_cavity_49 : decode cX7_cavity 49 = .ok (.iconst 1, 1) := by decide +kernel
theorem dX7_cavity_50 : decode cX7_cavity 50 = .ok (.iadd, 1) := by decide +kernel
theorem dX7_cavity_51 : decode cX7_cavity 51 = .ok (.iastore, 1) := by decide +kernel
theorem dX7_cavity_52 : decode cX7_cavity 52 = .ok (.aload_n 0, 1) := by decide +kernel
theorem dX7_cavity_53 : decode cX7_cavity 53 = .ok (.invokevirtual 210, 3) := by decide +kernel
theorem dX7_cavity_56 : decode cX7_cavity 56 = .ok (.iconst 0, 1) := by decide +kernel
theorem dX7_cavity_57 : decode cX7_cavity 57 = .ok (.istore 4, 2) := by decide +kernel
theorem dX7_cavity_59 : decode cX7_cavity 59 = .ok (.iconst 0, 1) := by decide +kernel
theorem dX7_cavity_60 : decode cX7_cavity 60 = .ok (.istore 5, 2) := by decide +kernel
theorem dX7_cavity_62 : decode cX7_cavity 62 = .ok (.iload 5, 2) := by decide +kernel
theorem dX7_cavity_64 : decode cX7_cavity 64 = .ok (.iload_n 3, 1) := by decide +kernel
theorem dX7_cavity_65 : decode cX7_cavity 65 = .ok (.if_icmp .ge 50, 3) := by decide +kernel
theorem dX7_cavity_68 : decode cX7_cavity 68 = .ok (.aload_n 0, 1) := by decide +kernel
theorem dX7_cavity_69 : decode cX7_cavity 69 = .ok (.aload_n 0, 1) := by decide +kernel
theorem dX7_cavity_70 : decode cX7_cavity 70 = .ok (.getfield 29, 3) := by decide +kernel
theorem dX7_cavity_73 : decode cX7_cavity 73 = .ok (.iconst 3, 1) := by decide +kernel
theorem dX7_cavity_74 : decode cX7_cavity 74 = .ok (.iload 5, 2) := by decide +kernel
theorem dX7_cavity_76 : decode cX7_cavity 76 = .ok (.imul, 1) := by decide +kernel
theorem dX7_cavity_77 : decode cX7_cavity 77 = .ok (.iaload, 1) := by decide +kernel
theorem dX7_cavity_78 : decode cX7_cavity 78 = .ok (.aload_n 0, 1) := by decide +kernel
theorem dX7_cavity_79 : decode cX7_cavity 79 = .ok (.getfield 29, 3) := by decide +kernel
theorem dX7_cavity_82 : decode cX7_cavity 82 = .ok (.iconst 3, 1) := by decide +kernel
theorem dX7_cavity_83 : decode cX7_cavity 83 = .ok (.iload 5, 2) := by decide +kernel
theorem dX7_cavity_85 : decode cX7_cavity 85 = .ok (.imul, 1) := by decide +kernel
theorem dX7_cavity_86 : decode cX7_cavity 86 = .ok (.iconst 1, 1) := by decide +kernel
theorem dX7_cavity_87 : decode cX7_cavity 87 = .ok (.iadd, 1) := by decide +kernel
theorem dX7_cavity_88 : decode cX7_cavity 88 = .ok (.iaload, 1) := by decide +kernel
theorem dX7_cavity_89 : decode cX7_cavity 89 = .ok (.aload_n 0, 1) := by decide +kernel
theorem dX7_cavity_90 : decode cX7_cavity 90 = .ok (.getfield 29, 3) := by decide +kernel
theorem dX7_cavity_93 : decode cX7_cavity 93 = .ok (.iconst 3, 1) := by decide +kernel
theorem dX7_cavity_94 : decode cX7_cavity 94 = .ok (.iload 5, 2) := by decide +kernel
theorem dX7_cavity_96 : decode cX7_cavity 96 = .ok (.imul, 1) := by decide +kernel
theorem dX7_cavity_97 : decode cX7_cavity 97 = .ok (.iconst 2, 1) := by decide +kernel
theorem dX7_cavity_98 : decode cX7_cavity 98 = .ok (.iadd, 1) := by decide +kernel
theorem dX7_cavity_99 : decode cX7_cavity 99 = .ok (.iaload, 1) := by decide +kernel
theorem dX7_cavity_100 : decode cX7_cavity 100 = .ok (.invokevirtual 216, 3) := by decide +kernel
theorem dX7_cavity_103 : decode cX7_cavity 103 = .ok (.ifCond .ge 6, 3) := by decide +kernel
theorem dX7_cavity_106 : decode cX7_cavity 106 = .ok (.iinc 4 1, 3) := by decide +kernel
theorem dX7_cavity_109 : decode cX7_cavity 109 = .ok (.iinc 5 1, 3) := by decide +kernel
theorem dX7_cavity_112 : decode cX7_cavity 112 = .ok (.goto (-50), 3) := by decide +kernel
theorem dX7_cavity_115 : decode cX7_cavity 115 = .ok (.aload_n 0, 1) := by decide +kernel
theorem dX7_cavity_116 : decode cX7_cavity 116 = .ok (.invokevirtual 259, 3) := by decide +kernel
theorem dX7_cavity_119 : decode cX7_cavity 119 = .ok (.iload 4, 2) := by decide +kernel
theorem dX7_cavity_121 : decode cX7_cavity 121 = .ok (.ireturn, 1) := by decide +kernel
theorem dX7_hole_0 : decode cX7_hole 0 = .ok (.aload_n 0, 1) := by decide +kernel
theorem dX7_hole_1 : decode cX7_hole 1 = .ok (.iconst 0, 1) := by decide +kernel
theorem dX7_hole_2 : decode cX7_hole 2 = .ok (.putfield 44, 3) := by decide +kernel
theorem dX7_hole_5 : decode cX7_hole 5 = .ok (.aload_n 0, 1) := by decide +kernel
theorem dX7_hole_6 : decode cX7_hole 6 = .ok (.iload_n 1, 1) := by decide +kernel
theorem dX7_hole_7 : decode cX7_hole 7 = .ok (.invokevirtual 168, 3) := by decide +kernel
theorem dX7_hole_10 : decode cX7_hole 10 = .ok (.ifCond .ne 9, 3) := by decide +kernel
theorem dX7_hole_13 : decode cX7_hole 13 = .ok (.aload_n 0, 1) := by decide +kernel
theorem dX7_hole_14 : decode cX7_hole 14 = .ok (.iconst 1, 1) := by decide +kernel
theorem dX7_hole_15 : decode cX7_hole 15 = .ok (.invokevirtual 172, 3) := by decide +kernel
theorem dX7_hole_18 : decode cX7_hole 18 = .ok (.ireturn, 1) := by decide +kernel
theorem dX7_hole_19 : decode cX7_hole 19 = .ok (.aload_n 0, 1) := by decide +kernel
theorem dX7_hole_20 : decode cX7_hole 20 = .ok (.iload_n 1, 1) := by decide +kernel
theorem dX7_hole_21 : decode cX7_hole 21 = .ok (.invokevirtual 175, 3) := by decide +kernel
theorem dX7_hole_24 : decode cX7_hole 24 = .ok (.ifCond .eq 9, 3) := by decide +kernel
theorem dX7_hole_27 : decode cX7_hole 27 = .ok (.aload_n 0, 1) := by decide +kernel
theorem dX7_hole_28 : decode cX7_hole 28 = .ok (.iconst 2, 1) := by decide +kernel
theorem dX7_hole_29 : decode cX7_hole 29 = .ok (.invokevirtual 172, 3) := by decide +kernel
theorem dX7_hole_32 : decode cX7_hole 32 = .ok (.ireturn, 1) := by decide +kernel
theorem dX7_hole_33 : decode cX7_hole 33 = .ok (.aload_n 0, 1) := by decide +kernel
theorem dX7_hole_34 : decode cX7_hole 34 = .ok (.invokevirtual 210, 3) := by decide +kernel
theorem dX7_hole_37 : decode cX7_hole 37 = .ok (.aload_n 0, 1) := by decide +kernel
theorem dX7_hole_38 : decode cX7_hole 38 = .ok (.invokevirtual 256, 3) := by decide +kernel
theorem dX7_hole_41 : decode cX7_hole 41 = .ok (.aload_n 0, 1) := by decide +kernel
theorem dX7_hole_42 : decode cX7_hole 42 = .ok (.getfield 114, 3) := by decide +kernel
theorem dX7_hole_45 : decode cX7_hole 45 = .ok (.istore_n 2, 1) := by decide +kernel
theorem dX7_hole_46 : decode cX7_hole 46 = .ok (.aload_n 0, 1) := by decide +kernel
theorem dX7_hole_47 : decode cX7_hole 47 = .ok (.iload_n 1, 1) := by decide +kernel
theorem dX7_hole_48 : decode cX7_hole 48 = .ok (.invokevirtual 178, 3) := by decide +kernel
theorem dX7_hole_51 : decode cX7_hole 51 = .ok (.aload_n 0, 1) := by decide +kernel
theorem dX7_hole_52 : decode cX7_hole 52 = .ok (.invokevirtual 210, 3) := by decide +kernel
theorem dX7_hole_55 : decode cX7_hole 55 = .ok (.iconst 0, 1) := by decide +kernel
theorem dX7_hole_56 : decode cX7_hole 56 = .ok (.istore_n 3, 1) := by decide +kernel
theorem dX7_hole_57 : decode cX7_hole 57 = .ok (.iconst 0, 1) := by decide +kernel
theorem dX7_hole_58 : decode cX7_hole 58 = .ok (.istore 4, 2) := by decide +kernel
theorem dX7_hole_60 : decode cX7_hole 60 = .ok (.iload 4, 2) := by decide +kernel
theorem dX7_hole_62 : decode cX7_hole 62 = .ok (.iload_n 2, 1) := by decide +kernel
theorem dX7_hole_63 : decode cX7_hole 63 = .ok (.if_icmp .ge 122, 3) := by decide +kernel
theorem dX7_hole_66 : decode cX7_hole 66 = .ok (.aload_n 0, 1) := by decide +kernel
theorem dX7_hole_67 : decode cX7_hole 67 = .ok (.getfield 29, 3) := by decide +kernel
theorem dX7_hole_70 : decode cX7_hole 70 = .ok (.iconst 3, 1) := by decide +kernel
theorem dX7_hole_71 : decode cX7_hole 71 = .ok (.iload 4, 2) := by decide +kernel
theorem dX7_hole_73 : decode cX7_hole 73 = .ok (.imul, 1) := by decide +kernel
theorem dX7_hole_74 : decode cX7_hole 74 = .ok (.iaload, 1) := by decide +kernel
theorem dX7_hole_75 : decode cX7_hole 75 = .ok (.istore 5, 2) := by decide +kernel
theorem dX7_hole_77 : decode cX7_hole 77 = .ok (.aload_n 0, 1) := by decide +kernel
theorem dX7_hole_78 : decode cX7_hole 78 = .ok (.getfield 29, 3) := by decide +kernel
theorem dX7_hole_81 : decode cX7_hole 81 = .ok (.iconst 3, 1) := by decide +kernel
theorem dX7_hole_82 : decode cX7_hole 82 = .ok (.iload 4, 2) := by decide +kernel
theorem dX7_hole_84 : decode cX7_hole 84 = .ok (.imul, 1) := by decide +kernel
theorem dX7_hole_85 : decode cX7_hole 85 = .ok (.iconst 1, 1) := by decide +kernel
theorem dX7_hole_86 : decode cX7_hole 86 = .ok (.iadd, 1) := by decide +kernel
theorem dX7_hole_87 : decode cX7_hole 87 = .ok (.iaload, 1) := by decide +kernel
theorem dX7_hole_88 : decode cX7_hole 88 = .ok (.istore 6, 2) := by decide +kernel
theorem dX7_hole_90 : decode cX7_hole 90 = .ok (.aload_n 0, 1) := by decide +kernel
theorem dX7_hole_91 : decode cX7_hole 91 = .ok (.getfield 29, 3) := by decide +kernel
theorem dX7_hole_94 : decode cX7_hole 94 = .ok (.iconst 3, 1) := by decide +kernel
theorem dX7_hole_95 : decode cX7_hole 95 = .ok (.iload 4, 2) := by decide +kernel
theorem dX7_hole_97 : decode cX7_hole 97 = .ok (.imul, 1) := by decide +kernel
theorem dX7_hole_98 : decode cX7_hole 98 = .ok (.iconst 2, 1) := by decide +kernel
theorem dX7_hole_99 : decode cX7_hole 99 = .ok (.iadd, 1) := by decide +kernel
theorem dX7_hole_100 : decode cX7_hole 100 = .ok (.iaload, 1) := by decide +kernel
theorem dX7_hole_101 : decode cX7_hole 101 = .ok (.istore 7, 2) := by decide +kernel
theorem dX7_hole_103 : decode cX7_hole 103 = .ok (.iload 5, 2) := by decide +kernel
theorem dX7_hole_105 : decode cX7_hole 105 = .ok (.iload_n 1, 1) := by decide +kernel
theorem dX7_hole_106 : decode cX7_hole 106 = .ok (.if_icmp .eq 73, 3) := by decide +kernel
theorem dX7_hole_109 : decode cX7_hole 109 = .ok (.iload 6, 2) := by decide +kernel
theorem dX7_hole_111 : decode cX7_hole 111 = .ok (.iload_n 1, 1) := by decide +kernel
theorem dX7_hole_112 : decode cX7_hole 112 = .ok (.if_icmp .eq 67, 3) := by decide +kernel
theorem dX7_hole_115 : decode cX7_hole 115 = .ok (.iload 7, 2) := by decide +kernel
theorem dX7_hole_117 : decode cX7_hole 117 = .ok (.iload_n 1, 1) := by decide +kernel
theorem dX7_hole_118 : decode cX7_hole 118 = .ok (.if_icmp .ne 6, 3) := by decide +kernel
theorem dX7_hole_121 : decode cX7_hole 121 = .ok (.goto 58, 3) := by decide +kernel
theorem dX7_hole_124 : decode cX7_hole 124 = .ok (.aload_n 0, 1) := by decide +kernel
theorem dX7_hole_125 : decode cX7_hole 125 = .ok (.iload 5, 2) := by decide +kernel
theorem dX7_hole_127 : decode cX7_hole 127 = .ok (.iload_n 1, 1) := by decide +kernel
theorem dX7_hole_128 : decode cX7_hole 128 = .ok (.if_icmp .le 10, 3) := by decide +kernel
theorem dX7_hole_131 : decode cX7_hole 131 = .ok (.iload 5, 2) := by decide +kernel
theorem dX7_hole_133 : decode cX7_hole 133 = .ok (.iconst 1, 1) := by decide +kernel
theorem dX7_hole_134 : decode cX7_hole 134 = .ok (.isub, 1) := by decide +kernel
theorem dX7_hole_135 : decode cX7_hole 135 = .ok (.goto 5, 3) := by decide +kernel
theorem dX7_hole_138 : decode cX7_hole 138 = .ok (.iload 5, 2) := by decide +kernel
theorem dX7_hole_140 : decode cX7_hole 140 = .ok (.iload 6, 2) := by decide +kernel
theorem dX7_hole_142 : decode cX7_hole 142 = .ok (.iload_n 1, 1) := by decide +kernel
theorem dX7_hole_143 : decode cX7_hole 143 = .ok (.if_icmp .le 10, 3) := by decide +kernel
theorem dX7_hole_146 : decode cX7_hole 146 = .ok (.iload 6, 2) := by decide +kernel
theorem dX7_hole_148 : decode cX7_hole 148 = .ok (.iconst 1, 1) := by decide +kernel
theorem dX7_hole_149 : decode cX7_hole 149 = .ok (.isub, 1) := by decide +kernel
theorem dX7_hole_150 : decode cX7_hole 150 = .ok (.goto 5, 3) := by decide +kernel
theorem dX7_hole_153 : decode cX7_hole 153 = .ok (.iload 6, 2) := by decide +kernel
theorem dX7_hole_155 : decode cX7_hole 155 = .ok (.iload 7, 2) := by decide +kernel
theorem dX7_hole_157 : decode cX7_hole 157 = .ok (.iload_n 1, 1) := by decide +kernel
theorem dX7_hole_158 : decode cX7_hole 158 = .ok (.if_icmp .le 10, 3) := by decide +kernel
theorem dX7_hole_161 : decode cX7_hole 161 = .ok (.iload 7, 2) := by decide +kernel
theorem dX7_hole_163 : decode cX7_hole 163 = .ok (.iconst 1, 1) := by decide +kernel
theorem dX7_hole_164 : decode cX7_hole 164 = .ok (.isub, 1) := by decide +kernel
theorem dX7_hole_165 : decode cX7_hole 165 = .ok (.goto 5, 3) := by decide +kernel
theorem dX7_hole_168 : decode cX7_hole 168 = .ok (.iload 7, 2) := by decide +kernel
theorem dX7_hole_170 : decode cX7_hole 170 = .ok (.invokevirtual 216, 3) := by decide +kernel
theorem dX7_hole_173 : decode cX7_hole 173 = .ok (.ifCond .lt 6, 3) := by decide +kernel
theorem dX7_hole_176 : decode cX7_hole 176 = .ok (.iinc 3 1, 3) := by decide +kernel
theorem dX7_hole_179 : decode cX7_hole 179 = .ok (.iinc 4 1, 3) := by decide +kernel
theorem dX7_hole_182 : decode cX7_hole 182 = .ok (.goto (-122), 3) := by decide +kernel
theorem dX7_hole_185 : decode cX7_hole 185 = .ok (.aload_n 0, 1) := by decide +kernel
theorem dX7_hole_186 : decode cX7_hole 186 = .ok (.getfield 114, 3) := by decide +kernel
theorem dX7_hole_189 : decode cX7_hole 189 = .ok (.istore 4, 2) := by decide +kernel
theorem dX7_hole_191 : decode cX7_hole 191 = .ok (.aload_n 0, 1) := by decide +kernel
theorem dX7_hole_192 : decode cX7_hole 192 = .ok (.invokevirtual 259, 3) := by decide +kernel
theorem dX7_hole_195 : decode cX7_hole 195 = .ok (.iload 4, 2) := by decide +kernel
theorem dX7_hole_197 : decode cX7_hole 197 = .ok (.iload_n 3, 1) := by decide +kernel
theorem dX7_hole_198 : decode cX7_hole 198 = .ok (.isub, 1) := by decide +kernel
theorem dX7_hole_199 : decode cX7_hole 199 = .ok (.ireturn, 1) := by decide +kernel
theorem dX7_crossings_0 : decode cX7_crossings 0 = .ok (.aload_n 0, 1) := by decide +kernel
theorem dX7_crossings_1 : decode cX7_crossings 1 = .ok (.iconst 0, 1) := by decide +kernel
theorem dX7_crossings_2 : decode cX7_crossings 2 = .ok (.putfield 44, 3) := by decide +kernel
theorem dX7_crossings_5 : decode cX7_crossings 5 = .ok (.aload_n 0, 1) := by decide +kernel
theorem dX7_crossings_6 : decode cX7_crossings 6 = .ok (.iload_n 1, 1) := by decide +kernel
theorem dX7_crossings_7 : decode cX7_crossings 7 = .ok (.invokevirtual 168, 3) := by decide +kernel
theorem dX7_crossings_10 : decode cX7_crossings 10 = .ok (.ifCond .eq 11, 3) := by decide +kernel
theorem dX7_crossings_13 : decode cX7_crossings 13 = .ok (.aload_n 0, 1) := by decide +kernel
theorem dX7_crossings_14 : decode cX7_crossings 14 = .ok (.iload_n 2, 1) := by decide +kernel
theorem dX7_crossings_15 : decode cX7_crossings 15 = .ok (.invokevirtual 168, 3) := by decide +kernel
theorem dX7_crossings_18 : decode cX7_crossings 18 = .ok (.ifCond .ne 9, 3) := by decide +kernel
theorem dX7_crossings_21 : decode cX7_crossings 21 = .ok (.aload_n 0, 1) := by decide +kernel
theorem dX7_crossings_22 : decode cX7_crossings 22 = .ok (.iconst 1, 1) := by decide +kernel
theorem dX7_crossings_23 : decode cX7_crossings 23 = .ok (.invokevirtual 172, 3) := by decide +kernel
theorem dX7_crossings_26 : decode cX7_crossings 26 = .ok (.ireturn, 1) := by decide +kernel
theorem dX7_crossings_27 : decode cX7_crossings 27 = .ok (.iload_n 1, 1) := by decide +kernel
theorem dX7_crossings_28 : decode cX7_crossings 28 = .ok (.iload_n 2, 1) := by decide +kernel
theorem dX7_crossings_29 : decode cX7_crossings 29 = .ok (.if_icmp .ne 9, 3) := by decide +kernel
theorem dX7_crossings_32 : decode cX7_crossings 32 = .ok (.aload_n 0, 1) := by decide +kernel
theorem dX7_crossings_33 : decode cX7_crossings 33 = .ok (.iconst 2, 1) := by decide +kernel
theorem dX7_crossings_34 : decode cX7_crossings 34 = .ok (.invokevirtual 172, 3) := by decide +kernel
theorem dX7_crossings_37 : decode cX7_crossings 37 = .ok (.ireturn, 1) := by decide +kernel
theorem dX7_crossings_38 : decode cX7_crossings 38 = .ok (.aload_n 0, 1) := by decide +kernel
theorem dX7_crossings_39 : decode cX7_crossings 39 = .ok (.invokevirtual 210, 3) := by decide +kernel
theorem dX7_crossings_42 : decode cX7_crossings 42 = .ok (.iconst 0, 1) := by decide +kernel
theorem dX7_crossings_43 : decode cX7_crossings 43 = .ok (.istore_n 3, 1) := by decide +kernel
theorem dX7_crossings_44 : decode cX7_crossings 44 = .ok (.iconst 0, 1) := by decide +kernel
theorem dX7_crossings_45 : decode cX7_crossings 45 = .ok (.istore 4, 2) := by decide +kernel
theorem dX7_crossings_47 : decode cX7_crossings 47 = .ok (.iload 4, 2) := by decide +kernel
theorem dX7_crossings_49 : decode cX7_crossings 49 = .ok (.aload_n 0, 1) := by decide +kernel
theorem dX7_crossings_50 : decode cX7_crossings 50 = .ok (.invokevirtual 48, 3) := by decide +kernel
theorem dX7_crossings_53 : decode cX7_crossings 53 = .ok (.if_icmp .ge 57, 3) := by decide +kernel
theorem dX7_crossings_56 : decode cX7_crossings 56 = .ok (.iload 4, 2) := by decide +kernel
theorem dX7_crossings_58 : decode cX7_crossings 58 = .ok (.iconst 1, 1) := by decide +kernel
theorem dX7_crossings_59 : decode cX7_crossings 59 = .ok (.iadd, 1) := by decide +kernel
theorem dX7_crossings_60 : decode cX7_crossings 60 = .ok (.istore 5, 2) := by decide +kernel
theorem dX7_crossings_62 : decode cX7_crossings 62 = .ok (.iload 5, 2) := by decide +kernel
theorem dX7_crossings_64 : decode cX7_crossings 64 = .ok (.aload_n 0, 1) := by decide +kernel
theorem dX7_crossings_65 : decode cX7_crossings 65 = .ok (.invokevirtual 48, 3) := by decide +kernel
theorem dX7_crossings_68 : decode cX7_crossings 68 = .ok (.if_icmp .ge 36, 3) := by decide +kernel
theorem dX7_crossings_71 : decode cX7_crossings 71 = .ok (.aload_n 0, 1) := by decide +kernel
theorem dX7_crossings_72 : decode cX7_crossings 72 = .ok (.iload 4, 2) := by decide +kernel
theorem dX7_crossings_74 : decode cX7_crossings 74 = .ok (.iload 5, 2) := by decide +kernel
theorem dX7_crossings_76 : decode cX7_crossings 76 = .ok (.invokevirtual 104, 3) := by decide +kernel
theorem dX7_crossings_79 : decode cX7_crossings 79 = .ok (.ifCond .eq 19, 3) := by decide +kernel
theorem dX7_crossings_82 : decode cX7_crossings 82 = .ok (.aload_n 0, 1) := by decide +kernel
theorem dX7_crossings_83 : decode cX7_crossings 83 = .ok (.iload_n 1, 1) := by decide +kernel
theorem dX7_crossings_84 : decode cX7_crossings 84 = .ok (.iload_n 2, 1) := by decide +kernel
theorem dX7_crossings_85 : decode cX7_crossings 85 = .ok (.iload 4, 2) := by decide +kernel
theorem dX7_crossings_87 : decode cX7_crossings 87 = .ok (.iload 5, 2) := by decide +kernel
theorem dX7_crossings_89 : decode cX7_crossings 89 = .ok (.invokevirtual 111, 3) := by decide +kernel
theorem dX7_crossings_92 : decode cX7_crossings 92 = .ok (.ifCond .eq 6, 3) := by decide +kernel
theorem dX7_crossings_95 : decode cX7_crossings 95 = .ok (.iinc 3 1, 3) := by decide +kernel
theorem dX7_crossings_98 : decode cX7_crossings 98 = .ok (.iinc 5 1, 3) := by decide +kernel
theorem dX7_crossings_101 : decode cX7_crossings 101 = .ok (.goto (-39), 3) := by decide +kernel
theorem dX7_crossings_104 : decode cX7_crossings 104 = .ok (.iinc 4 1, 3) := by decide +kernel
theorem dX7_crossings_107 : decode cX7_crossings 107 = .ok (.goto (-60), 3) := by decide +kernel
theorem dX7_crossings_110 : decode cX7_crossings 110 = .ok (.iload_n 3, 1) := by decide +kernel
theorem dX7_crossings_111 : decode cX7_crossings 111 = .ok (.ireturn, 1) := by decide +kernel
theorem dX7_effect_0 : decode cX7_effect 0 = .ok (.aload_n 0, 1) := by decide +kernel
theorem dX7_effect_1 : decode cX7_effect 1 = .ok (.iconst 0, 1) := by decide +kernel
theorem dX7_effect_2 : decode cX7_effect 2 = .ok (.putfield 44, 3) := by decide +kernel
theorem dX7_effect_5 : decode cX7_effect 5 = .ok (.aload_n 0, 1) := by decide +kernel
theorem dX7_effect_6 : decode cX7_effect 6 = .ok (.iload_n 1, 1) := by decide +kernel
theorem dX7_effect_7 : decode cX7_effect 7 = .ok (.invokevirtual 182, 3) := by decide +kernel
theorem dX7_effect_10 : decode cX7_effect 10 = .ok (.ifCond .ne 9, 3) := by decide +kernel
theorem dX7_effect_13 : decode cX7_effect 13 = .ok (.aload_n 0, 1) := by decide +kernel
theorem dX7_effect_14 : decode cX7_effect 14 = .ok (.iconst 1, 1) := by decide +kernel
theorem dX7_effect_15 : decode cX7_effect 15 = .ok (.invokevirtual 172, 3) := by decide +kernel
theorem dX7_effect_18 : decode cX7_effect 18 = .ok (.ireturn, 1) := by decide +kernel
theorem dX7_effect_19 : decode cX7_effect 19 = .ok (.aload_n 0, 1) := by decide +kernel
theorem dX7_effect_20 : decode cX7_effect 20 = .ok (.invokevirtual 210, 3) := by decide +kernel
theorem dX7_effect_23 : decode cX7_effect 23 = .ok (.aload_n 0, 1) := by decide +kernel
theorem dX7_effect_24 : decode cX7_effect 24 = .ok (.invokevirtual 256, 3) := by decide +kernel
theorem dX7_effect_27 : decode cX7_effect 27 = .ok (.aload_n 0, 1) := by decide +kernel
theorem dX7_effect_28 : decode cX7_effect 28 = .ok (.iload_n 1, 1) := by decide +kernel
theorem dX7_effect_29 : decode cX7_effect 29 = .ok (.invokevirtual 185, 3) := by decide +kernel
theorem dX7_effect_32 : decode cX7_effect 32 = .ok (.aload_n 0, 1) := by decide +kernel
theorem dX7_effect_33 : decode cX7_effect 33 = .ok (.invokevirtual 210, 3) := by decide +kernel
theorem dX7_effect_36 : decode cX7_effect 36 = .ok (.iconst 0, 1) := by decide +kernel
theorem dX7_effect_37 : decode cX7_effect 37 = .ok (.istore_n 2, 1) := by decide +kernel
theorem dX7_effect_38 : decode cX7_effect 38 = .ok (.iconst 0, 1) := by decide +kernel
theorem dX7_effect_39 : decode cX7_effect 39 = .ok (.istore_n 3, 1) := by decide +kernel
theorem dX7_effect_40 : decode cX7_effect 40 = .ok (.iload_n 3, 1) := by decide +kernel
theorem dX7_effect_41 : decode cX7_effect 41 = .ok (.aload_n 0, 1) := by decide +kernel
theorem dX7_effect_42 : decode cX7_effect 42 = .ok (.invokevirtual 48, 3) := by decide +kernel
theorem dX7_effect_45 : decode cX7_effect 45 = .ok (.if_icmp .ge 57, 3) := by decide +kernel
theorem dX7_effect_48 : decode cX7_effect 48 = .ok (.iload_n 3, 1) := by decide +kernel
theorem dX7_effect_49 : decode cX7_effect 49 = .ok (.iconst 1, 1) := by decide +kernel
theorem dX7_effect_50 : decode cX7_effect 50 = .ok (.iadd, 1) := by decide +kernel
theorem dX7_effect_51 : decode cX7_effect 51 = .ok (.istore 4, 2) := by decide +kernel
theorem dX7_effect_53 : decode cX7_effect 53 = .ok (.iload 4, 2) := by decide +kernel
theorem dX7_effect_55 : decode cX7_effect 55 = .ok (.aload_n 0, 1) := by decide +kernel
theorem dX7_effect_56 : decode cX7_effect 56 = .ok (.invokevirtual 48, 3) := by decide +kernel
theorem dX7_effect_59 : decode cX7_effect 59 = .ok (.if_icmp .ge 37, 3) := by decide +kernel
theorem dX7_effect_62 : decode cX7_effect 62 = .ok (.aload_n 0, 1) := by decide +kernel
theorem dX7_effect_63 : decode cX7_effect 63 = .ok (.getfield 32, 3) := by decide +kernel
theorem dX7_effect_66 : decode cX7_effect 66 = .ok (.bipush 17, 2) := by decide +kernel
theorem dX7_effect_68 : decode cX7_effect 68 = .ok (.iload_n 3, 1) := by decide +kernel
theorem dX7_effect_69 : decode cX7_effect 69 = .ok (.imul, 1) := by decide +kernel
theorem dX7_effect_70 : decode cX7_effect 70 = .ok (.iload 4, 2) := by decide +kernel
theorem dX7_effect_72 : decode cX7_effect 72 = .ok (.iadd, 1) := by decide +kernel
theorem dX7_effect_73 : decode cX7_effect 73 = .ok (.baload, 1) := by decide +kernel
theorem dX7_effect_74 : decode cX7_effect 74 = .ok (.ifCond .eq 16, 3) := by decide +kernel
theorem dX7_effect_77 : decode cX7_effect 77 = .ok (.aload_n 0, 1) := by decide +kernel
theorem dX7_effect_78 : decode cX7_effect 78 = .ok (.iload_n 3, 1) := by decide +kernel
theorem dX7_effect_79 : decode cX7_effect 79 = .ok (.iload 4, 2) := by decide +kernel
theorem dX7_effect_81 : decode cX7_effect 81 = .ok (.invokevirtual 104, 3) := by decide +kernel
theorem dX7_effect_84 : decode cX7_effect 84 = .ok (.ifCond .ne 6, 3) := by decide +kernel
theorem dX7_effect_87 : decode cX7_effect 87 = .ok (.iinc 2 1, 3) := by decide +kernel
theorem dX7_effect_90 : decode cX7_effect 90 = .ok (.iinc 4 1, 3) := by decide +kernel
theorem dX7_effect_93 : decode cX7_effect 93 = .ok (.goto (-40), 3) := by decide +kernel
theorem dX7_effect_96 : decode cX7_effect 96 = .ok (.iinc 3 1, 3) := by decide +kernel
theorem dX7_effect_99 : decode cX7_effect 99 = .ok (.goto (-59), 3) := by decide +kernel
theorem dX7_effect_102 : decode cX7_effect 102 = .ok (.aload_n 0, 1) := by decide +kernel
theorem dX7_effect_103 : decode cX7_effect 103 = .ok (.invokevirtual 259, 3) := by decide +kernel
theorem dX7_effect_106 : decode cX7_effect 106 = .ok (.iload_n 2, 1) := by decide +kernel
theorem dX7_effect_107 : decode cX7_effect 107 = .ok (.ireturn, 1) := by decide +kernel
theorem dX7_undo_0 : decode cX7_undo 0 = .ok (.aload_n 0, 1) := by decide +kernel
theorem dX7_undo_1 : decode cX7_undo 1 = .ok (.iconst 0, 1) := by decide +kernel
theorem dX7_undo_2 : decode cX7_undo 2 = .ok (.putfield 44, 3) := by decide +kernel
theorem dX7_undo_5 : decode cX7_undo 5 = .ok (.aload_n 0, 1) := by decide +kernel
theorem dX7_undo_6 : decode cX7_undo 6 = .ok (.getfield 150, 3) := by decide +kernel
theorem dX7_undo_9 : decode cX7_undo 9 = .ok (.ifCond .ne 9, 3) := by decide +kernel
theorem dX7_undo_12 : decode cX7_undo 12 = .ok (.aload_n 0, 1) := by decide +kernel
theorem dX7_undo_13 : decode cX7_undo 13 = .ok (.iconst 1, 1) := by decide +kernel
theorem dX7_undo_14 : decode cX7_undo 14 = .ok (.invokevirtual 172, 3) := by decide +kernel
theorem dX7_undo_17 : decode cX7_undo 17 = .ok (.ireturn, 1) := by decide +kernel
theorem dX7_undo_18 : decode cX7_undo 18 = .ok (.aload_n 0, 1) := by decide +kernel
theorem dX7_undo_19 : decode cX7_undo 19 = .ok (.dup, 1) := by decide +kernel
theorem dX7_undo_20 : decode cX7_undo 20 = .ok (.getfield 150, 3) := by decide +kernel
theorem dX7_undo_23 : decode cX7_undo 23 = .ok (.iconst 1, 1) := by decide +kernel
theorem dX7_undo_24 : decode cX7_undo 24 = .ok (.isub, 1) := by decide +kernel
theorem dX7_undo_25 : decode cX7_undo 25 = .ok (.putfield 150, 3) := by decide +kernel
theorem dX7_undo_28 : decode cX7_undo 28 = .ok (.iconst 0, 1) := by decide +kernel
theorem dX7_undo_29 : decode cX7_undo 29 = .ok (.istore_n 1, 1) := by decide +kernel
theorem dX7_undo_30 : decode cX7_undo 30 = .ok (.iload_n 1, 1) := by decide +kernel
theorem dX7_undo_31 : decode cX7_undo 31 = .ok (.bipush 56, 2) := by decide +kernel
theorem dX7_undo_33 : decode cX7_undo 33 = .ok (.if_icmp .ge 29, 3) := by decide +kernel
theorem dX7_undo_36 : decode cX7_undo 36 = .ok (.aload_n 0, 1) := by decide +kernel
theorem dX7_undo_37 : decode cX7_undo 37 = .ok (.getfield 9, 3) := by decide +kernel
theorem dX7_undo_40 : decode cX7_undo 40 = .ok (.iload_n 1, 1) := by decide +kernel
theorem dX7_undo_41 : decode cX7_undo 41 = .ok (.aload_n 0, 1) := by decide +kernel
theorem dX7_undo_42 : decode cX7_undo 42 = .ok (.getfield 13, 3) := by decide +kernel
theorem dX7_undo_45 : decode cX7_undo 45 = .ok (.bipush 56, 2) := by decide +kernel
theorem dX7_undo_47 : decode cX7_undo 47 = .ok (.aload_n 0, 1) := by decide +kernel
theorem dX7_undo_48 : decode cX7_undo 48 = .ok (.getfield 150, 3) := by decide +kernel
theorem dX7_undo_51 : decode cX7_undo 51 = .ok (.imul, 1) := by decide +kernel
theorem dX7_undo_52 : decode cX7_undo 52 = .ok (.iload_n 1, 1) := by decide +kernel
theorem dX7_undo_53 : decode cX7_undo 53 = .ok (.iadd, 1) := by decide +kernel
theorem dX7_undo_54 : decode cX7_undo 54 = .ok (.iaload, 1) := by decide +kernel
theorem dX7_undo_55 : decode cX7_undo 55 = .ok (.iastore, 1) := by decide +kernel
theorem dX7_undo_56 : decode cX7_undo 56 = .ok (.iinc 1 1, 3) := by decide +kernel
theorem dX7_undo_59 : decode cX7_undo 59 = .ok (.goto (-29), 3) := by decide +kernel
theorem dX7_undo_62 : decode cX7_undo 62 = .ok (.aload_n 0, 1) := by decide +kernel
theorem dX7_undo_63 : decode cX7_undo 63 = .ok (.getfield 150, 3) := by decide +kernel
theorem dX7_undo_66 : decode cX7_undo 66 = .ok (.ireturn, 1) := by decide +kernel
theorem dX7_save_0 : decode cX7_save 0 = .ok (.aload_n 0, 1) := by decide +kernel
theorem dX7_save_1 : decode cX7_save 1 = .ok (.iconst 0, 1) := by decide +kernel
theorem dX7_save_2 : decode cX7_save 2 = .ok (.putfield 44, 3) := by decide +kernel
theorem dX7_save_5 : decode cX7_save 5 = .ok (.aload_n 0, 1) := by decide +kernel
theorem dX7_save_6 : decode cX7_save 6 = .ok (.iconst 1, 1) := by decide +kernel
theorem dX7_save_7 : decode cX7_save 7 = .ok (.putfield 262, 3) := by decide +kernel
theorem dX7_save_10 : decode cX7_save 10 = .ok (.iconst 0, 1) := by decide +kernel
theorem dX7_save_11 : decode cX7_save 11 = .ok (.istore_n 1, 1) := by decide +kernel
theorem dX7_save_12 : decode cX7_save 12 = .ok (.iload_n 1, 1) := by decide +kernel
theorem dX7_save_13 : decode cX7_save 13 = .ok (.bipush 56, 2) := by decide +kernel
theorem dX7_save_15 : decode cX7_save 15 = .ok (.if_icmp .ge 21, 3) := by decide +kernel
theorem dX7_save_18 : decode cX7_save 18 = .ok (.aload_n 0, 1) := by decide +kernel
theorem dX7_save_19 : decode cX7_save 19 = .ok (.getfield 16, 3) := by decide +kernel
theorem dX7_save_22 : decode cX7_save 22 = .ok (.iload_n 1, 1) := by decide +kernel
theorem dX7_save_23 : decode cX7_save 23 = .ok (.aload_n 0, 1) := by decide +kernel
theorem dX7_save_24 : decode cX7_save 24 = .ok (.getfield 9, 3) := by decide +kernel
theorem dX7_save_27 : decode cX7_save 27 = .ok (.iload_n 1, 1) := by decide +kernel
theorem dX7_save_28 : decode cX7_save 28 = .ok (.iaload, 1) := by decide +kernel
theorem dX7_save_29 : decode cX7_save 29 = .ok (.iastore, 1) := by decide +kernel
theorem dX7_save_30 : decode cX7_save 30 = .ok (.iinc 1 1, 3) := by decide +kernel
theorem dX7_save_33 : decode cX7_save 33 = .ok (.goto (-21), 3) := by decide +kernel
theorem dX7_save_36 : decode cX7_save 36 = .ok (.aload_n 0, 1) := by decide +kernel
theorem dX7_save_37 : decode cX7_save 37 = .ok (.invokevirtual 48, 3) := by decide +kernel
theorem dX7_save_40 : decode cX7_save 40 = .ok (.ireturn, 1) := by decide +kernel
theorem dX7_restore_0 : decode cX7_restore 0 = .ok (.aload_n 0, 1) := by decide +kernel
theorem dX7_restore_1 : decode cX7_restore 1 = .ok (.iconst 0, 1) := by decide +kernel
theorem dX7_restore_2 : decode cX7_restore 2 = .ok (.putfield 44, 3) := by decide +kernel
theorem dX7_restore_5 : decode cX7_restore 5 = .ok (.aload_n 0, 1) := by decide +kernel
theorem dX7_restore_6 : decode cX7_restore 6 = .ok (.getfield 262, 3) := by decide +kernel
theorem dX7_restore_9 : decode cX7_restore 9 = .ok (.ifCond .ne 9, 3) := by decide +kernel
theorem dX7_restore_12 : decode cX7_restore 12 = .ok (.aload_n 0, 1) := by decide +kernel
theorem dX7_restore_13 : decode cX7_restore 13 = .ok (.iconst 1, 1) := by decide +kernel
theorem dX7_restore_14 : decode cX7_restore 14 = .ok (.invokevirtual 172, 3) := by decide +kernel
theorem dX7_restore_17 : decode cX7_restore 17 = .ok (.ireturn, 1) := by decide +kernel
theorem dX7_restore_18 : decode cX7_restore 18 = .ok (.iconst 0, 1) := by decide +kernel
theorem dX7_restore_19 : decode cX7_restore 19 = .ok (.istore_n 1, 1) := by decide +kernel
theorem dX7_restore_20 : decode cX7_restore 20 = .ok (.iload_n 1, 1) := by decide +kernel
theorem dX7_restore_21 : decode cX7_restore 21 = .ok (.bipush 56, 2) := by decide +kernel
theorem dX7_restore_23 : decode cX7_restore 23 = .ok (.if_icmp .ge 21, 3) := by decide +kernel
theorem dX7_restore_26 : decode cX7_restore 26 = .ok (.aload_n 0, 1) := by decide +kernel
theorem dX7_restore_27 : decode cX7_restore 27 = .ok (.getfield 9, 3) := by decide +kernel
theorem dX7_restore_30 : decode cX7_restore 30 = .ok (.iload_n 1, 1) := by decide +kernel
theorem dX7_restore_31 : decode cX7_restore 31 = .ok (.aload_n 0, 1) := by decide +kernel
theorem dX7_restore_32 : decode cX7_restore 32 = .ok (.getfield 16, 3) := by decide +kernel
theorem dX7_restore_35 : decode cX7_restore 35 = .ok (.iload_n 1, 1) := by decide +kernel
theorem dX7_restore_36 : decode cX7_restore 36 = .ok (.iaload, 1) := by decide +kernel
theorem dX7_restore_37 : decode cX7_restore 37 = .ok (.iastore, 1) := by decide +kernel
theorem dX7_restore_38 : decode cX7_restore 38 = .ok (.iinc 1 1, 3) := by decide +kernel
theorem dX7_restore_41 : decode cX7_restore 41 = .ok (.goto (-21), 3) := by decide +kernel
theorem dX7_restore_44 : decode cX7_restore 44 = .ok (.aload_n 0, 1) := by decide +kernel
theorem dX7_restore_45 : decode cX7_restore 45 = .ok (.iconst 0, 1) := by decide +kernel
theorem dX7_restore_46 : decode cX7_restore 46 = .ok (.putfield 150, 3) := by decide +kernel
theorem dX7_restore_49 : decode cX7_restore 49 = .ok (.aload_n 0, 1) := by decide +kernel
theorem dX7_restore_50 : decode cX7_restore 50 = .ok (.invokevirtual 48, 3) := by decide +kernel
theorem dX7_restore_53 : decode cX7_restore 53 = .ok (.ireturn, 1) := by decide +kernel
