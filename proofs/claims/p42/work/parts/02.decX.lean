theorem dJx00060_init_a7421_0 : decode cJx00060_init_a7421 0 = .ok (.aload_n 0, 1) := by decide +kernel
theorem dJx00060_init_a7421_1 : decode cJx00060_init_a7421 1 = .ok (.aload_n 1, 1) := by decide +kernel
theorem dJx00060_init_a7421_2 : decode cJx00060_init_a7421 2 = .ok (.invokespecial 7, 3) := by decide +kernel
theorem dJx00060_init_a7421_5 : decode cJx00060_init_a7421 5 = .ok (.return_, 1) := by decide +kernel
theorem dJ6_bitCount_0f7a4_0 : decode cJ6_bitCount_0f7a4 0 = .ok (.iload_n 0, 1) := by decide +kernel
theorem dJ6_bitCount_0f7a4_1 : decode cJ6_bitCount_0f7a4 1 = .ok (.iload_n 0, 1) := by decide +kernel
theorem dJ6_bitCount_0f7a4_2 : decode cJ6_bitCount_0f7a4 2 = .ok (.iconst 1, 1) := by decide +kernel
theorem dJ6_bitCount_0f7a4_3 : decode cJ6_bitCount_0f7a4 3 = .ok (.iushr, 1) := by decide +kernel
theorem dJ6_bitCount_0f7a4_4 : decode cJ6_bitCount_0f7a4 4 = .ok (.ldc_w 265, 3) := by decide +kernel
theorem dJ6_bitCount_0f7a4_7 : decode cJ6_bitCount_0f7a4 7 = .ok (.iand, 1) := by decide +kernel
theorem dJ6_bitCount_0f7a4_8 : decode cJ6_bitCount_0f7a4 8 = .ok (.isub, 1) := by decide +kernel
theorem dJ6_bitCount_0f7a4_9 : decode cJ6_bitCount_0f7a4 9 = .ok (.istore_n 0, 1) := by decide +kernel
theorem dJ6_bitCount_0f7a4_10 : decode cJ6_bitCount_0f7a4 10 = .ok (.iload_n 0, 1) := by decide +kernel
theorem dJ6_bitCount_0f7a4_11 : decode cJ6_bitCount_0f7a4 11 = .ok (.ldc_w 266, 3) := by decide +kernel
theorem dJ6_bitCount_0f7a4_14 : decode cJ6_bitCount_0f7a4 14 = .ok (.iand, 1) := by decide +kernel
theorem dJ6_bitCount_0f7a4_15 : decode cJ6_bitCount_0f7a4 15 = .ok (.iload_n 0, 1) := by decide +kernel
theorem dJ6_bitCount_0f7a4_16 : decode cJ6_bitCount_0f7a4 16 = .ok (.iconst 2, 1) := by decide +kernel
theorem dJ6_bitCount_0f7a4_17 : decode cJ6_bitCount_0f7a4 17 = .ok (.iushr, 1) := by decide +kernel
theorem dJ6_bitCount_0f7a4_18 : decode cJ6_bitCount_0f7a4 18 = .ok (.ldc_w 266, 3) := by decide +kernel
theorem dJ6_bitCount_0f7a4_21 : decode cJ6_bitCount_0f7a4 21 = .ok (.iand, 1) := by decide +kernel
theorem dJ6_bitCount_0f7a4_22 : decode cJ6_bitCount_0f7a4 22 = .ok (.iadd, 1) := by decide +kernel
theorem dJ6_bitCount_0f7a4_23 : decode cJ6_bitCount_0f7a4 23 = .ok (.istore_n 0, 1) := by decide +kernel
theorem dJ6_bitCount_0f7a4_24 : decode cJ6_bitCount_0f7a4 24 = .ok (.iload_n 0, 1) := by decide +kernel
theorem dJ6_bitCount_0f7a4_25 : decode cJ6_bitCount_0f7a4 25 = .ok (.iload_n 0, 1) := by decide +kernel
theorem dJ6_bitCount_0f7a4_26 : decode cJ6_bitCount_0f7a4 26 = .ok (.iconst 4, 1) := by decide +kernel
theorem dJ6_bitCount_0f7a4_27 : decode cJ6_bitCount_0f7a4 27 = .ok (.iushr, 1) := by decide +kernel
theorem dJ6_bitCount_0f7a4_28 : decode cJ6_bitCount_0f7a4 28 = .ok (.iadd, 1) := by decide +kernel
theorem dJ6_bitCount_0f7a4_29 : decode cJ6_bitCount_0f7a4 29 = .ok (.ldc_w 267, 3) := by decide +kernel
theorem dJ6_bitCount_0f7a4_32 : decode cJ6_bitCount_0f7a4 32 = .ok (.iand, 1) := by decide +kernel
theorem dJ6_bitCount_0f7a4_33 : decode cJ6_bitCount_0f7a4 33 = .ok (.istore_n 0, 1) := by decide +kernel
theorem dJ6_bitCount_0f7a4_34 : decode cJ6_bitCount_0f7a4 34 = .ok (.iload_n 0, 1) := by decide +kernel
theorem dJ6_bitCount_0f7a4_35 : decode cJ6_bitCount_0f7a4 35 = .ok (.iload_n 0, 1) := by decide +kernel
theorem dJ6_bitCount_0f7a4_36 : decode cJ6_bitCount_0f7a4 36 = .ok (.bipush 8, 2) := by decide +kernel
theorem dJ6_bitCount_0f7a4_38 : decode cJ6_bitCount_0f7a4 38 = .ok (.iushr, 1) := by decide +kernel
theorem dJ6_bitCount_0f7a4_39 : decode cJ6_bitCount_0f7a4 39 = .ok (.iadd, 1) := by decide +kernel
theorem dJ6_bitCount_0f7a4_40 : decode cJ6_bitCount_0f7a4 40 = .ok (.istore_n 0, 1) := by decide +kernel
theorem dJ6_bitCount_0f7a4_41 : decode cJ6_bitCount_0f7a4 41 = .ok (.iload_n 0, 1) := by decide +kernel
theorem dJ6_bitCount_0f7a4_42 : decode cJ6_bitCount_0f7a4 42 = .ok (.iload_n 0, 1) := by decide +kernel
theorem dJ6_bitCount_0f7a4_43 : decode cJ6_bitCount_0f7a4 43 = .ok (.bipush 16, 2) := by decide +kernel
theorem dJ6_bitCount_0f7a4_45 : decode cJ6_bitCount_0f7a4 45 = .ok (.iushr, 1) := by decide +kernel
theorem dJ6_bitCount_0f7a4_46 : decode cJ6_bitCount_0f7a4 46 = .ok (.iadd, 1) := by decide +kernel
theorem dJ6_bitCount_0f7a4_47 : decode cJ6_bitCount_0f7a4 47 = .ok (.istore_n 0, 1) := by decide +kernel
theorem dJ6_bitCount_0f7a4_48 : decode cJ6_bitCount_0f7a4 48 = .ok (.iload_n 0, 1) := by decide +kernel
theorem dJ6_bitCount_0f7a4_49 : decode cJ6_bitCount_0f7a4 49 = .ok (.bipush 63, 2) := by decide +kernel
theorem dJ6_bitCount_0f7a4_51 : decode cJ6_bitCount_0f7a4 51 = .ok (.iand, 1) := by decide +kernel
theorem dJ6_bitCount_0f7a4_52 : decode cJ6_bitCount_0f7a4 52 = .ok (.ireturn, 1) := by decide +kernel
theorem dJ9_max_7cf53_0 : decode cJ9_max_7cf53 0 = .ok (.iload_n 0, 1) := by decide +kernel
theorem dJ9_max_7cf53_1 : decode cJ9_max_7cf53 1 = .ok (.iload_n 1, 1) := by decide +kernel
theorem dJ9_max_7cf53_2 : decode cJ9_max_7cf53 2 = .ok (.if_icmp .lt 7, 3) := by decide +kernel
theorem dJ9_max_7cf53_5 : decode cJ9_max_7cf53 5 = .ok (.iload_n 0, 1) := by decide +kernel
theorem dJ9_max_7cf53_6 : decode cJ9_max_7cf53 6 = .ok (.goto 4, 3) := by decide +kernel
theorem dJ9_max_7cf53_9 : decode cJ9_max_7cf53 9 = .ok (.iload_n 1, 1) := by decide +kernel
theorem dJ9_max_7cf53_10 : decode cJ9_max_7cf53 10 = .ok (.ireturn, 1) := by decide +kernel
theorem dJ9_min_7cf53_0 : decode cJ9_min_7cf53 0 = .ok (.iload_n 0, 1) := by decide +kernel
theorem dJ9_min_7cf53_1 : decode cJ9_min_7cf53 1 = .ok (.iload_n 1, 1) := by decide +kernel
theorem dJ9_min_7cf53_2 : decode cJ9_min_7cf53 2 = .ok (.if_icmp .gt 7, 3) := by decide +kernel
theorem dJ9_min_7cf53_5 : decode cJ9_min_7cf53 5 = .ok (.iload_n 0, 1) := by decide +kernel
theorem dJ9_min_7cf53_6 : decode cJ9_min_7cf53 6 = .ok (.goto 4, 3) := by decide +kernel
theorem dJ9_min_7cf53_9 : decode cJ9_min_7cf53 9 = .ok (.iload_n 1, 1) := by decide +kernel
theorem dJ9_min_7cf53_10 : decode cJ9_min_7cf53 10 = .ok (.ireturn, 1) := by decide +kernel
theorem dX0_init_0 : decode cX0_init 0 = .ok (.aload_n 0, 1) := by decide +kernel
theorem dX0_init_1 : decode cX0_init 1 = .ok (.invokespecial 3, 3) := by decide +kernel
theorem dX0_init_4 : decode cX0_init 4 = .ok (.aload_n 0, 1) := by decide +kernel
theorem dX0_init_5 : decode cX0_init 5 = .ok (.bipush 12, 2) := by decide +kernel
theorem dX0_init_7 : decode cX0_init 7 = .ok (.anewarray 9, 3) := by decide +kernel
theorem dX0_init_10 : decode cX0_init 10 = .ok (.putfield 11, 3) := by decide +kernel
theorem dX0_init_13 : decode cX0_init 13 = .ok (.iconst 0, 1) := by decide +kernel
theorem dX0_init_14 : decode cX0_init 14 = .ok (.istore_n 1, 1) := by decide +kernel
theorem dX0_init_15 : decode cX0_init 15 = .ok (.iload_n 1, 1) := by decide +kernel
theorem dX0_init_16 : decode cX0_init 16 = .ok (.aload_n 0, 1) := by decide +kernel
theorem dX0_init_17 : decode cX0_init 17 = .ok (.getfield 11, 3) := by decide +kernel
theorem dX0_init_20 : decode cX0_init 20 = .ok (.arraylength, 1) := by decide +kernel
theorem dX0_init_21 : decode cX0_init 21 = .ok (.if_icmp .ge 22, 3) := by decide +kernel
theorem dX0_init_24 : decode cX0_init 24 = .ok (.aload_n 0, 1) := by decide +kernel
theorem dX0_init_25 : decode cX0_init 25 = .ok (.getfield 11, 3) := by decide +kernel
theorem dX0_init_28 : decode cX0_init 28 = .ok (.iload_n 1, 1) := by decide +kernel
theorem dX0_init_29 : decode cX0_init 29 = .ok (.new 9, 3) := by decide +kernel
theorem dX0_init_32 : decode cX0_init 32 = .ok (.dup, 1) := by decide +kernel
theorem dX0_init_33 : decode cX0_init 33 = .ok (.invokespecial 17, 3) := by decide +kernel
theorem dX0_init_36 : decode cX0_init 36 = .ok (.aastore, 1) := by decide +kernel
theorem dX0_init_37 : decode cX0_init 37 = .ok (.iinc 1 1, 3) := by decide +kernel
theorem dX0_init_40 : decode cX0_init 40 = .ok (.goto (-25), 3) := by decide +kernel
theorem dX0_init_43 : decode cX0_init 43 = .ok (.aload_n 0, 1) := by decide +kernel
theorem dX0_init_44 : decode cX0_init 44 = .ok (.iconst 0, 1) := by decide +kernel
theorem dX0_init_45 : decode cX0_init 45 = .ok (.putfield 18, 3) := by decide +kernel
theorem dX0_init_48 : decode cX0_init 48 = .ok (.aload_n 0, 1) := by decide +kernel
theorem dX0_init_49 : decode cX0_init 49 = .ok (.iconst 0, 1) := by decide +kernel
theorem dX0_init_50 : decode cX0_init 50 = .ok (.putfield 22, 3) := by decide +kernel
theorem dX0_init_53 : decode cX0_init 53 = .ok (.return_, 1) := by decide +kernel
theorem dX0_kept_0 : decode cX0_kept 0 = .ok (.aload_n 0, 1) := by decide +kernel
theorem dX0_kept_1 : decode cX0_kept 1 = .ok (.getfield 22, 3) := by decide +kernel
theorem dX0_kept_4 : decode cX0_kept 4 = .ok (.ireturn, 1) := by decide +kernel
theorem dX0_clear_0 : decode cX0_clear 0 = .ok (.aload_n 0, 1) := by decide +kernel
theorem dX0_clear_1 : decode cX0_clear 1 = .ok (.iconst 0, 1) := by decide +kernel
theorem dX0_clear_2 : decode cX0_clear 2 = .ok (.putfield 22, 3) := by decide +kernel
theorem dX0_clear_5 : decode cX0_clear 5 = .ok (.return_, 1) := by decide +kernel
theorem dX0_remember_0 : decode cX0_remember 0 = .ok (.aload_n 0, 1) := by decide +kernel
theorem dX0_remember_1 : decode cX0_remember 1 = .ok (.getfield 18, 3) := by decide +kernel
theorem dX0_remember_4 : decode cX0_remember 4 = .ok (.ifCond .lt 40, 3) := by decide +kernel
theorem dX0_remember_7 : decode cX0_remember 7 = .ok (.aload_n 0, 1) := by decide +kernel
theorem dX0_remember_8 : decode cX0_remember 8 = .ok (.getfield 18, 3) := by decide +kernel
theorem dX0_remember_11 : decode cX0_remember 11 = .ok (.aload_n 0, 1) := by decide +kernel
theorem dX0_remember_12 : decode cX0_remember 12 = .ok (.getfield 11, 3) := by decide +kernel
theorem dX0_remember_15 : decode cX0_remember 15 = .ok (.arraylength, 1) := by decide +kernel
theorem dX0_remember_16 : decode cX0_remember 16 = .ok (.if_icmp .ge 28, 3) := by decide +kernel
theorem dX0_remember_19 : decode cX0_remember 19 = .ok (.aload_n 0, 1) := by decide +kernel
theorem dX0_remember_20 : decode cX0_remember 20 = .ok (.getfield 11, 3) := by decide +kernel
theorem dX0_remember_23 : decode cX0_remember 23 = .ok (.aload_n 0, 1) := by decide +kernel
theorem dX0_remember_24 : decode cX0_remember 24 = .ok (.getfield 18, 3) := by decide +kernel
theorem dX0_remember_27 : decode cX0_remember 27 = .ok (.aaload, 1) := by decide +kernel
theorem dX0_remember_28 : decode cX0_remember 28 = .ok (.ifnull 16, 3) := by decide +kernel
theorem dX0_remember_31 : decode cX0_remember 31 = .ok (.aload_n 0, 1) := by decide +kernel
theorem dX0_remember_32 : decode cX0_remember 32 = .ok (.getfield 11, 3) := by decide +kernel
theorem dX0_remember_35 : decode cX0_remember 35 = .ok (.aload_n 0, 1) := by decide +kernel
theorem dX0_remember_36 : decode cX0_remember 36 = .ok (.getfield 18, 3) := by decide +kernel
theorem dX0_remember_39 : decode cX0_remember 39 = .ok (.aaload, 1) := by decide +kernel
theorem dX0_remember_40 : decode cX0_remember 40 = .ok (.aload_n 1, 1) := by decide +kernel
theorem dX0_remember_41 : decode cX0_remember 41 = .ok (.invokevirtual 25, 3) := by decide +kernel
theorem dX0_remember_44 : decode cX0_remember 44 = .ok (.aload_n 0, 1) := by decide +kernel
theorem dX0_remember_45 : decode cX0_remember 45 = .ok (.aload_n 0, 1) := by decide +kernel
theorem dX0_remember_46 : decode cX0_remember 46 = .ok (.getfield 18, 3) := by decide +kernel
theorem dX0_remember_49 : decode cX0_remember 49 = .ok (.iconst 1, 1) := by decide +kernel
theorem dX0_remember_50 : decode cX0_remember 50 = .ok (.iadd, 1) := by decide +kernel
theorem dX0_remember_51 : decode cX0_remember 51 = .ok (.bipush 12, 2) := by decide +kernel
theorem dX0_remember_53 : decode cX0_remember 53 = .ok (.if_icmp .ge 12, 3) := by decide +kernel
theorem dX0_remember_56 : decode cX0_remember 56 = .ok (.aload_n 0, 1) := by decide +kernel
theorem dX0_remember_57 : decode cX0_remember 57 = .ok (.getfield 18, 3) := by decide +kernel
theorem dX0_remember_60 : decode cX0_remember 60 = .ok (.iconst 1, 1) := by decide +kernel
theorem dX0_remember_61 : decode cX0_remember 61 = .ok (.iadd, 1) := by decide +kernel
theorem dX0_remember_62 : decode cX0_remember 62 = .ok (.goto 4, 3) := by decide +kernel
theorem dX0_remember_65 : decode cX0_remember 65 = .ok (.iconst 0, 1) := by decide +kernel
theorem dX0_remember_66 : decode cX0_remember 66 = .ok (.putfield 18, 3) := by decide +kernel
theorem dX0_remember_69 : decode cX0_remember 69 = .ok (.aload_n 0, 1) := by decide +kernel
theorem dX0_remember_70 : decode cX0_remember 70 = .ok (.aload_n 0, 1) := by decide +kernel
theorem dX0_remember_71 : decode cX0_remember 71 = .ok (.getfield 22, 3) := by decide +kernel
theorem dX0_remember_74 : decode cX0_remember 74 = .ok (.iconst 1, 1) := by decide +kernel
theorem dX0_remember_75 : decode cX0_remember 75 = .ok (.iadd, 1) := by decide +kernel
theorem dX0_remember_76 : decode cX0_remember 76 = .ok (.bipush 12, 2) := by decide +kernel
theorem dX0_remember_78 : decode cX0_remember 78 = .ok (.invokestatic 29, 3) := by decide +kernel
theorem dX0_remember_81 : decode cX0_remember 81 = .ok (.putfield 22, 3) := by decide +kernel
theorem dX0_remember_84 : decode cX0_remember 84 = .ok (.return_, 1) := by decide +kernel
theorem dX0_recallInto_0 : decode cX0_recallInto 0 = .ok (.aload_n 0, 1) := by decide +kernel
theorem dX0_recallInto_1 : decode cX0_recallInto 1 = .ok (.aload_n 0, 1) := by decide +kernel
theorem dX0_recallInto_2 : decode cX0_recallInto 2 = .ok (.getfield 18, 3) := by decide +kernel
theorem dX0_recallInto_5 : decode cX0_recallInto 5 = .ok (.ifCond .le 12, 3) := by decide +kernel
theorem dX0_recallInto_8 : decode cX0_recallInto 8 = .ok (.aload_n 0, 1) := by decide +kernel
theorem dX0_recallInto_9 : decode cX0_recallInto 9 = .ok (.getfield 18, 3) := by decide +kernel
theorem dX0_recallInto_12 : decode cX0_recallInto 12 = .ok (.iconst 1, 1) := by decide +kernel
theorem dX0_recallInto_13 : decode cX0_recallInto 13 = .ok (.isub, 1) := by decide +kernel
theorem dX0_recallInto_14 : decode cX0_recallInto 14 = .ok (.goto 5, 3) := by decide +kernel
theorem dX0_recallInto_17 : decode cX0_recallInto 17 = .ok (.bipush 11, 2) := by decide +kernel
theorem dX0_recallInto_19 : decode cX0_recallInto 19 = .ok (.putfield 18, 3) := by decide +kernel
theorem dX0_recallInto_22 : decode cX0_recallInto 22 = .ok (.aload_n 0, 1) := by decide +kernel
theorem dX0_recallInto_23 : decode cX0_recallInto 23 = .ok (.aload_n 0, 1) := by decide +kernel
theorem dX0_recallInto_24 : decode cX0_recallInto 24 = .ok (.getfield 22, 3) := by decide +kernel
theorem dX0_recallInto_27 : decode cX0_recallInto 27 = .ok (.iconst 1, 1) := by decide +kernel
theorem dX0_recallInto_28 : decode cX0_recallInto 28 = .ok (.isub, 1) := by decide +kernel
theorem dX0_recallInto_29 : decode cX0_recallInto 29 = .ok (.iconst 0, 1) := by decide +kernel
theorem dX0_recallInto_30 : decode cX0_recallInto 30 = .ok (.invokestatic 35, 3) := by decide +kernel
theorem dX0_recallInto_33 : decode cX0_recallInto 33 = .ok (.putfield 22, 3) := by decide +kernel
theorem dX0_recallInto_36 : decode cX0_recallInto 36 = .ok (.aload_n 0, 1) := by decide +kernel
theorem dX0_recallInto_37 : decode cX0_recallInto 37 = .ok (.getfield 18, 3) := by decide +kernel
theorem dX0_recallInto_40 : decode cX0_recallInto 40 = .ok (.ifCond .lt 40, 3) := by decide +kernel
theorem dX0_recallInto_43 : decode cX0_recallInto 43 = .ok (.aload_n 0, 1) := by decide +kernel
theorem dX0_recallInto_44 : decode cX0_recallInto 44 = .ok (.getfield 18, 3) := by decide +kernel
theorem dX0_recallInto_47 : decode cX0_recallInto 47 = .ok (.aload_n 0, 1) := by decide +kernel
theorem dX0_recallInto_48 : decode cX0_recallInto 48 = .ok (.getfield 11, 3) := by decide +kernel
theorem dX0_recallInto_51 : decode cX0_recallInto 51 = .ok (.arraylength, 1) := by decide +kernel
theorem dX0_recallInto_52 : decode cX0_recallInto 52 = .ok (.if_icmp .ge 28, 3) := by decide +kernel
theorem dX0_recallInto_55 : decode cX0_recallInto 55 = .ok (.aload_n 0, 1) := by decide +kernel
theorem dX0_recallInto_56 : decode cX0_recallInto 56 = .ok (.getfield 11, 3) := by decide +kernel
theorem dX0_recallInto_59 : decode cX0_recallInto 59 = .ok (.aload_n 0, 1) := by decide +kernel
theorem dX0_recallInto_60 : decode cX0_recallInto 60 = .ok (.getfield 18, 3) := by decide +kernel
theorem dX0_recallInto_63 : decode cX0_recallInto 63 = .ok (.aaload, 1) := by decide +kernel
theorem dX0_recallInto_64 : decode cX0_recallInto 64 = .ok (.ifnull 16, 3) := by decide +kernel
theorem dX0_recallInto_67 : decode cX0_recallInto 67 = .ok (.aload_n 1, 1) := by decide +kernel
theorem dX0_recallInto_68 : decode cX0_recallInto 68 = .ok (.aload_n 0, 1) := by decide +kernel
theorem dX0_recallInto_69 : decode cX0_recallInto 69 = .ok (.getfield 11, 3) := by decide +kernel
theorem dX0_recallInto_72 : decode cX0_recallInto 72 = .ok (.aload_n 0, 1) := by decide +kernel
theorem dX0_recallInto_73 : decode cX0_recallInto 73 = .ok (.getfield 18, 3) := by decide +kernel
theorem dX0_recallInto_76 : decode cX0_recallInto 76 = .ok (.aaload, 1) := by decide +kernel
theorem dX0_recallInto_77 : decode cX0_recallInto 77 = .ok (.invokevirtual 25, 3) := by decide +kernel
theorem dX0_recallInto_80 : decode cX0_recallInto 80 = .ok (.return_, 1) := by decide +kernel
theorem dX1_init_0 : decode cX1_init 0 = .ok (.aload_n 0, 1) := by decide +kernel
theorem dX1_init_1 : decode cX1_init 1 = .ok (.invokespecial 3, 3) := by decide +kernel
theorem dX1_init_4 : decode cX1_init 4 = .ok (.aload_n 0, 1) := by decide +kernel
theorem dX1_init_5 : decode cX1_init 5 = .ok (.new 9, 3) := by decide +kernel
theorem dX1_init_8 : decode cX1_init 8 = .ok (.dup, 1) := by decide +kernel
theorem dX1_init_9 : decode cX1_init 9 = .ok (.bipush 60, 2) := by decide +kernel
theorem dX1_init_11 : decode cX1_init 11 = .ok (.invokespecial 11, 3) := by decide +kernel
theorem dX1_init_14 : decode cX1_init 14 = .ok (.putfield 14, 3) := by decide +kernel
theorem dX1_init_17 : decode cX1_init 17 = .ok (.aload_n 0, 1) := by decide +kernel
theorem dX1_init_18 : decode cX1_init 18 = .ok (.new 9, 3) := by decide +kernel
theorem dX1_init_21 : decode cX1_init 21 = .ok (.dup, 1) := by decide +kernel
theorem dX1_init_22 : decode cX1_init 22 = .ok (.bipush 15, 2) := by decide +kernel
theorem dX1_init_24 : decode cX1_init 24 = .ok (.invokespecial 11, 3) := by decide +kernel
theorem dX1_init_27 : decode cX1_init 27 = .ok (.putfield 20, 3) := by decide +kernel
theorem dX1_init_30 : decode cX1_init 30 = .ok (.aload_n 0, 1) := by decide +kernel
theorem dX1_init_31 : decode cX1_init 31 = .ok (.new 9, 3) := by decide +kernel
theorem dX1_init_34 : decode cX1_init 34 = .ok (.dup, 1) := by decide +kernel
theorem dX1_init_35 : decode cX1_init 35 = .ok (.bipush 15, 2) := by decide +kernel
theorem dX1_init_37 : decode cX1_init 37 = .ok (.invokespecial 11, 3) := by decide +kernel
theorem dX1_init_40 : decode cX1_init 40 = .ok (.putfield 23, 3) := by decide +kernel
theorem dX1_init_43 : decode cX1_init 43 = .ok (.aload_n 0, 1) := by decide +kernel
theorem dX1_init_44 : decode cX1_init 44 = .ok (.new 9, 3) := by decide +kernel
theorem dX1_init_47 : decode cX1_init 47 = .ok (.dup, 1) := by decide +kernel
theorem dX1_init_48 : decode cX1_init 48 = .ok (.bipush 15, 2) := by decide +kernel
theorem dX1_init_50 : decode cX1_init 50 = .ok (.invokespecial 11, 3) := by decide +kernel
theorem dX1_init_53 : decode cX1_init 53 = .ok (.putfield 26, 3) := by decide +kernel
theorem dX1_init_56 : decode cX1_init 56 = .ok (.aload_n 0, 1) := by decide +kernel
theorem dX1_init_57 : decode cX1_init 57 = .ok (.iconst 0, 1) := by decide +kernel
theorem dX1_init_58 : decode cX1_init 58 = .ok (.putfield 29, 3) := by decide +kernel
theorem dX1_init_61 : decode cX1_init 61 = .ok (.aload_n 0, 1) := by decide +kernel
theorem dX1_init_62 : decode cX1_init 62 = .ok (.iconst 0, 1) := by decide +kernel
theorem dX1_init_63 : decode cX1_init 63 = .ok (.putfield 33, 3) := by decide +kernel
theorem dX1_init_66 : decode cX1_init 66 = .ok (.aload_n 0, 1) := by decide +kernel
theorem dX1_init_67 : decode cX1_init 67 = .ok (.iconst 0, 1) := by decide +kernel
theorem dX1_init_68 : decode cX1_init 68 = .ok (.putfield 36, 3) := by decide +kernel
theorem dX1_init_71 : decode cX1_init 71 = .ok (.aload_n 0, 1) := by decide +kernel
theorem dX1_init_72 : decode cX1_init 72 = .ok (.iconst 0, 1) := by decide +kernel
theorem dX1_init_73 : decode cX1_init 73 = .ok (.putfield 40, 3) := by decide +kernel
theorem dX1_init_76 : decode cX1_init 76 = .ok (.aload_n 0, 1) := by decide +kernel
theorem dX1_init_77 : decode cX1_init 77 = .ok (.iconst 0, 1) := by decide +kernel
theorem dX1_init_78 : decode cX1_init 78 = .ok (.putfield 43, 3) := by decide +kernel
theorem dX1_init_81 : decode cX1_init 81 = .ok (.return_, 1) := by decide +kernel
theorem dX1_clear_0 : decode cX1_clear 0 = .ok (.aload_n 0, 1) := by decide +kernel
theorem dX1_clear_1 : decode cX1_clear 1 = .ok (.iconst 0, 1) := by decide +kernel
theorem dX1_clear_2 : decode cX1_clear 2 = .ok (.putfield 29, 3) := by decide +kernel
theorem dX1_clear_5 : decode cX1_clear 5 = .ok (.aload_n 0, 1) := by decide +kernel
theorem dX1_clear_6 : decode cX1_clear 6 = .ok (.iconst 0, 1) := by decide +kernel
theorem dX1_clear_7 : decode cX1_clear 7 = .ok (.putfield 33, 3) := by decide +kernel
theorem dX1_clear_10 : decode cX1_clear 10 = .ok (.return_, 1) := by decide +kernel
theorem dX1_entries_0 : decode cX1_entries 0 = .ok (.aload_n 0, 1) := by decide +kernel
theorem dX1_entries_1 : decode cX1_entries 1 = .ok (.getfield 33, 3) := by decide +kernel
theorem dX1_entries_4 : decode cX1_entries 4 = .ok (.ireturn, 1) := by decide +kernel
theorem dX1_firstOf_0 : decode cX1_firstOf 0 = .ok (.aload_n 0, 1) := by decide +kernel
theorem dX1_firstOf_1 : decode cX1_firstOf 1 = .ok (.getfield 20, 3) := by decide +kernel
theorem dX1_firstOf_4 : decode cX1_firstOf 4 = .ok (.iload_n 1, 1) := by decide +kernel
theorem dX1_firstOf_5 : decode cX1_firstOf 5 = .ok (.invokevirtual 50, 3) := by decide +kernel
theorem dX1_firstOf_8 : decode cX1_firstOf 8 = .ok (.ireturn, 1) := by decide +kernel
theorem dX1_secondOf_0 : decode cX1_secondOf 0 = .ok (.aload_n 0, 1) := by decide +kernel
theorem dX1_secondOf_1 : decode cX1_secondOf 1 = .ok (.getfield 23, 3) := by decide +kernel
theorem dX1_secondOf_4 : decode cX1_secondOf 4 = .ok (.iload_n 1, 1) := by decide +kernel
theorem dX1_secondOf_5 : decode cX1_secondOf 5 = .ok (.invokevirtual 50, 3) := by decide +kernel
theorem dX1_secondOf_8 : decode cX1_secondOf 8 = .ok (.ireturn, 1) := by decide +kernel
theorem dX1_isSegment_0 : decode cX1_isSegment 0 = .ok (.aload_n 0, 1) := by decide +kernel
theorem dX1_isSegment_1 : decode cX1_isSegment 1 = .ok (.getfield 26, 3) := by decide +kernel
theorem dX1_isSegment_4 : decode cX1_isSegment 4 = .ok (.iload_n 1, 1) := by decide +kernel
theorem dX1_isSegment_5 : decode cX1_isSegment 5 = .ok (.invokevirtual 50, 3) := by decide +kernel
theorem dX1_isSegment_8 : decode cX1_isSegment 8 = .ok (.ifCond .eq 7, 3) := by decide +kernel
theorem dX1_isSegment_11 : decode cX1_isSegment 11 = .ok (.iconst 1, 1) := by decide +kernel
theorem dX1_isSegment_12 : decode cX1_isSegment 12 = .ok (.goto 4, 3) := by decide +kernel
theorem dX1_isSegment_15 : decode cX1_isSegment 15 = .ok (.iconst 0, 1) := by decide +kernel
theorem dX1_isSegment_16 : decode cX1_isSegment 16 = .ok (.ireturn, 1) := by decide +kernel
theorem dX1_parse_0 : decode cX1_parse 0 = .ok (.aload_n 0, 1) := by decide +kernel
theorem dX1_parse_1 : decode cX1_parse 1 = .ok (.iconst 0, 1) := by decide +kernel
theorem dX1_parse_2 : decode cX1_parse 2 = .ok (.putfield 33, 3) := by decide +kernel
theorem dX1_parse_5 : decode cX1_parse 5 = .ok (.aload_n 0, 1) := by decide +kernel
theorem dX1_parse_6 : decode cX1_parse 6 = .ok (.iconst 0, 1) := by decide +kernel
theorem dX1_parse_7 : decode cX1_parse 7 = .ok (.putfield 36, 3) := by decide +kernel
theorem dX1_parse_10 : decode cX1_parse 10 = .ok (.aload_n 0, 1) := by decide +kernel
theorem dX1_parse_11 : decode cX1_parse 11 = .ok (.invokevirtual 54, 3) := by decide +kernel
theorem dX1_parse_14 : decode cX1_parse 14 = .ok (.iconst 0, 1) := by decide +kernel
theorem dX1_parse_15 : decode cX1_parse 15 = .ok (.istore_n 1, 1) := by decide +kernel
theorem dX1_parse_16 : decode cX1_parse 16 = .ok (.iload_n 1, 1) := by decide +kernel
theorem dX1_parse_17 : decode cX1_parse 17 = .ok (.aload_n 0, 1) := by decide +kernel
theorem dX1_parse_18 : decode cX1_parse 18 = .ok (.getfield 29, 3) := by decide +kernel
theorem dX1_parse_21 : decode cX1_parse 21 = .ok (.if_icmp .ge 26, 3) := by decide +kernel
theorem dX1_parse_24 : decode cX1_parse 24 = .ok (.aload_n 0, 1) := by decide +kernel
theorem dX1_parse_25 : decode cX1_parse 25 = .ok (.aload_n 0, 1) := by decide +kernel
theorem dX1_parse_26 : decode cX1_parse 26 = .ok (.getfield 14, 3) := by decide +kernel
theorem dX1_parse_29 : decode cX1_parse 29 = .ok (.iload_n 1, 1) := by decide +kernel
theorem dX1_parse_30 : decode cX1_parse 30 = .ok (.invokevirtual 50, 3) := by decide +kernel
theorem dX1_parse_33 : decode cX1_parse 33 = .ok (.invokevirtual 57, 3) := by decide +kernel
theorem dX1_parse_36 : decode cX1_parse 36 = .ok (.ifCond .ne 5, 3) := by decide +kernel
theorem dX1_parse_39 : decode cX1_parse 39 = .ok (.iload_n 1, 1) := by decide +kernel
theorem dX1_parse_40 : decode cX1_parse 40 = .ok (.ireturn, 1) := by decide +kernel
theorem dX1_parse_41 : decode cX1_parse 41 = .ok (.iinc 1 1, 3) := by decide +kernel
theorem dX1_parse_44 : decode cX1_parse 44 = .ok (.goto (-28), 3) := by decide +kernel
theorem dX1_parse_47 : decode cX1_parse 47 = .ok (.aload_n 0, 1) := by decide +kernel
theorem dX1_parse_48 : decode cX1_parse 48 = .ok (.getfield 36, 3) := by decide +kernel
theorem dX1_parse_51 : decode cX1_parse 51 = .ok (.ifCond .eq 10, 3) := by decide +kernel
theorem dX1_parse_54 : decode cX1_parse 54 = .ok (.aload_n 0, 1) := by decide +kernel
theorem dX1_parse_55 : decode cX1_parse 55 = .ok (.getfield 40, 3) := by decide +kernel
theorem dX1_parse_58 : decode cX1_parse 58 = .ok (.ifCond .ne 8, 3) := by decide +kernel
theorem dX1_parse_61 : decode cX1_parse 61 = .ok (.aload_n 0, 1) := by decide +kernel
theorem dX1_parse_62 : decode cX1_parse 62 = .ok (.getfield 29, 3) := by decide +kernel
theorem dX1_parse_65 : decode cX1_parse 65 = .ok (.ireturn, 1) := by decide +kernel
theorem dX1_parse_66 : decode cX1_parse 66 = .ok (.aload_n 0, 1) := by decide +kernel
theorem dX1_parse_67 : decode cX1_parse 67 = .ok (.invokevirtual 61, 3) := by decide +kernel
theorem dX1_parse_70 : decode cX1_parse 70 = .ok (.iconst (-1), 1) := by decide +kernel
theorem dX1_parse_71 : decode cX1_parse 71 = .ok (.ireturn, 1) := by decide +kernel
theorem dX1_startNumber_0 : decode cX1_startNumber 0 = .ok (.aload_n 0, 1) := by decide +kernel
theorem dX1_startNumber_1 : decode cX1_startNumber 1 = .ok (.iconst 0, 1) := by decide +kernel
theorem dX1_startNumber_2 : decode cX1_startNumber 2 = .ok (.putfield 40, 3) := by decide +kernel
theorem dX1_startNumber_5 : decode cX1_startNumber 5 = .ok (.aload_n 0, 1) := by decide +kernel
theorem dX1_startNumber_6 : decode cX1_startNumber 6 = .ok (.iconst 0, 1) := by decide +kernel
theorem dX1_startNumber_7 : decode cX1_startNumber 7 = .ok (.putfield 43, 3) := by decide +kernel
theorem dX1_startNumber_10 : decode cX1_startNumber 10 = .ok (.return_, 1) := by decide +kernel
theorem dX1_takes_0 : decode cX1_takes 0 = .ok (.iload_n 1, 1) := by decide +kernel
theorem dX1_takes_1 : decode cX1_takes 1 = .ok (.bipush 48, 2) := by decide +kernel
theorem dX1_takes_3 : decode cX1_takes 3 = .ok (.if_icmp .lt 18, 3) := by decide +kernel
theorem dX1_takes_6 : decode cX1_takes 6 = .ok (.iload_n 1, 1) := by decide +kernel
theorem dX1_takes_7 : decode cX1_takes 7 = .ok (.bipush 57, 2) := by decide +kernel
theorem dX1_takes_9 : decode cX1_takes 9 = .ok (.if_icmp .gt 12, 3) := by decide +kernel
theorem dX1_takes_12 : decode cX1_takes 12 = .ok (.aload_n 0, 1) := by decide +kernel
theorem dX1_takes_13 : decode cX1_takes 13 = .ok (.iload_n 1, 1) := by decide +kernel
theorem dX1_takes_14 : decode cX1_takes 14 = .ok (.bipush 48, 2) := by decide +kernel
theorem dX1_takes_16 : decode cX1_takes 16 = .ok (.isub, 1) := by decide +kernel
theorem dX1_takes_17 : decode cX1_takes 17 = .ok (.invokevirtual 64, 3) := by decide +kernel
theorem dX1_takes_20 : decode cX1_takes 20 = .ok (.ireturn, 1) := by decide +kernel
theorem dX1_takes_21 : decode cX1_takes 21 = .ok (.aload_n 0, 1) := by decide +kernel
theorem dX1_takes_22 : decode cX1_takes 22 = .ok (.getfield 40, 3) := by decide +kernel
theorem dX1_takes_25 : decode cX1_takes 25 = .ok (.ifCond .ne 5, 3) := by decide +kernel
theorem dX1_takes_28 : decode cX1_takes 28 = .ok (.iconst 0, 1) := by decide +kernel
theorem dX1_takes_29 : decode cX1_takes 29 = .ok (.ireturn, 1) := by decide +kernel
theorem dX1_takes_30 : decode cX1_takes 30 = .ok (.aload_n 0, 1) := by decide +kernel
theorem dX1_takes_31 : decode cX1_takes 31 = .ok (.getfield 36, 3) := by decide +kernel
theorem dX1_takes_34 : decode cX1_takes 34 = .ok (.ifCond .eq 11, 3) := by decide +kernel
theorem dX1_takes_37 : decode cX1_takes 37 = .ok (.aload_n 0, 1) := by decide +kernel
theorem dX1_takes_38 : decode cX1_takes 38 = .ok (.iload_n 1, 1) := by decide +kernel
theorem dX1_takes_39 : decode cX1_takes 39 = .ok (.invokevirtual 67, 3) := by decide +kernel
theorem dX1_takes_42 : decode cX1_takes 42 = .ok (.goto 8, 3) := by decide +kernel
theorem dX1_takes_45 : decode cX1_takes 45 = .ok (.aload_n 0, 1) := by decide +kernel
theorem dX1_takes_46 : decode cX1_takes 46 = .ok (.iload_n 1, 1) := by decide +kernel
theorem dX1_takes_47 : decode cX1_takes 47 = .ok (.invokevirtual 70, 3) := by decide +kernel
theorem dX1_takes_50 : decode cX1_takes 50 = .ok (.ireturn, 1) := by decide +kernel
theorem dX1_takesDigit_0 : decode cX1_takesDigit 0 = .ok (.aload_n 0, 1) := by decide +kernel
theorem dX1_takesDigit_1 : decode cX1_takesDigit 1 = .ok (.getfield 40, 3) := by decide +kernel
theorem dX1_takesDigit_4 : decode cX1_takesDigit 4 = .ok (.iconst 3, 1) := by decide +kernel
theorem dX1_takesDigit_5 : decode cX1_takesDigit 5 = .ok (.if_icmp .ne 5, 3) := by decide +kernel
theorem dX1_takesDigit_8 : decode cX1_takesDigit 8 = .ok (.iconst 0, 1) := by decide +kernel
theorem dX1_takesDigit_9 : decode cX1_takesDigit 9 = .ok (.ireturn, 1) := by decide +kernel
theorem dX1_takesDigit_10 : decode cX1_takesDigit 10 = .ok (.aload_n 0, 1) := by decide +kernel
theorem dX1_takesDigit_11 : decode cX1_takesDigit 11 = .ok (.bipush 10, 2) := by decide +kernel
theorem dX1_takesDigit_13 : decode cX1_takesDigit 13 = .ok (.aload_n 0, 1) := by decide +kernel
theorem dX1_takesDigit_14 : decode cX1_takesDigit 14 = .ok (.getfield 43, 3) := by decide +kernel
theorem dX1_takesDigit_17 : decode cX1_takesDigit 17 = .ok (.imul, 1) := by decide +kernel
theorem dX1_takesDigit_18 : decode cX1_takesDigit 18 = .ok (.iload_n 1, 1) := by decide +kernel
theorem dX1_takesDigit_19 : decode cX1_takesDigit 19 = .ok (.iadd, 1) := by decide +kernel
theorem dX1_takesDigit_20 : decode cX1_takesDigit 20 = .ok (.putfield 43, 3) := by decide +kernel
theorem dX1_takesDigit_23 : decode cX1_takesDigit 23 = .ok (.aload_n 0, 1) := by decide +kernel
theorem dX1_takesDigit_24 : decode cX1_takesDigit 24 = .ok (.dup, 1) := by decide +kernel
theorem dX1_takesDigit_25 : decode cX1_takesDigit 25 = .ok (.getfield 40, 3) := by decide +kernel
theorem dX1_takesDigit_28 : decode cX1_takesDigit 28 = .ok (.iconst 1, 1) := by decide +kernel
theorem dX1_takesDigit_29 : decode cX1_takesDigit 29 = .ok (.iadd, 1) := by decide +kernel
theorem dX1_takesDigit_30 : decode cX1_takesDigit 30 = .ok (.putfield 40, 3) := by decide +kernel
theorem dX1_takesDigit_33 : decode cX1_takesDigit 33 = .ok (.iconst 1, 1) := by decide +kernel
theorem dX1_takesDigit_34 : decode cX1_takesDigit 34 = .ok (.ireturn, 1) := by decide +kernel
theorem dX1_takesMiddle_0 : decode cX1_takesMiddle 0 = .ok (.iload_n 1, 1) := by decide +kernel
theorem dX1_takesMiddle_1 : decode cX1_takesMiddle 1 = .ok (.bipush 44, 2) := by decide +kernel
theorem dX1_takesMiddle_3 : decode cX1_takesMiddle 3 = .ok (.if_icmp .eq 11, 3) := by decide +kernel
theorem dX1_takesMiddle_6 : decode cX1_takesMiddle 6 = .ok (.iload_n 1, 1) := by decide +kernel
theorem dX1_takesMiddle_7 : decode cX1_takesMiddle 7 = .ok (.bipush 45, 2) := by decide +kernel
theorem dX1_takesMiddle_9 : decode cX1_takesMiddle 9 = .ok (.if_icmp .eq 5, 3) := by decide +kernel
theorem dX1_takesMiddle_12 : decode cX1_takesMiddle 12 = .ok (.iconst 0, 1) := by decide +kernel
theorem dX1_takesMiddle_13 : decode cX1_takesMiddle 13 = .ok (.ireturn, 1) := by decide +kernel
theorem dX1_takesMiddle_14 : decode cX1_takesMiddle 14 = .ok (.aload_n 0, 1) := by decide +kernel
theorem dX1_takesMiddle_15 : decode cX1_takesMiddle 15 = .ok (.getfield 20, 3) := by decide +kernel
theorem dX1_takesMiddle_18 : decode cX1_takesMiddle 18 = .ok (.aload_n 0, 1) := by decide +kernel
theorem dX1_takesMiddle_19 : decode cX1_takesMiddle 19 = .ok (.getfield 33, 3) := by decide +kernel
theorem dX1_takesMiddle_22 : decode cX1_takesMiddle 22 = .ok (.aload_n 0, 1) := by decide +kernel
theorem dX1_takesMiddle_23 : decode cX1_takesMiddle 23 = .ok (.getfield 43, 3) := by decide +kernel
theorem dX1_takesMiddle_26 : decode cX1_takesMiddle 26 = .ok (.invokevirtual 46, 3) := by decide +kernel
theorem dX1_takesMiddle_29 : decode cX1_takesMiddle 29 = .ok (.aload_n 0, 1) := by decide +kernel
theorem dX1_takesMiddle_30 : decode cX1_takesMiddle 30 = .ok (.getfield 26, 3) := by decide +kernel
theorem dX1_takesMiddle_33 : decode cX1_takesMiddle 33 = .ok (.aload_n 0, 1) := by decide +kernel
theorem dX1_takesMiddle_34 : decode cX1_takesMiddle 34 = .ok (.getfield 33, 3) := by decide +kernel
theorem dX1_takesMiddle_37 : decode cX1_takesMiddle 37 = .ok (.iload_n 1, 1) := by decide +kernel
theorem dX1_takesMiddle_38 : decode cX1_takesMiddle 38 = .ok (.bipush 45, 2) := by decide +kernel
theorem dX1_takesMiddle_40 : decode cX1_takesMiddle 40 = .ok (.if_icmp .ne 7, 3) := by decide +kernel
theorem dX1_takesMiddle_43 : decode cX1_takesMiddle 43 = .ok (.iconst 1, 1) := by decide +kernel
theorem dX1_takesMiddle_44 : decode cX1_takesMiddle 44 = .ok (.goto 4, 3) := by decide +kernel
theorem dX1_takesMiddle_47 : decode cX1_takesMiddle 47 = .ok (.iconst 0, 1) := by decide +kernel
theorem dX1_takesMiddle_48 : decode cX1_takesMiddle 48 = .ok (.invokevirtual 46, 3) := by decide +kernel
theorem dX1_takesMiddle_51 : decode cX1_takesMiddle 51 = .ok (.aload_n 0, 1) := by decide +kernel
theorem dX1_takesMiddle_52 : decode cX1_takesMiddle 52 = .ok (.iconst 1, 1) := by decide +kernel
theorem dX1_takesMiddle_53 : decode cX1_takesMiddle 53 = .ok (.putfield 36, 3) := by decide +kernel
theorem dX1_takesMiddle_56 : decode cX1_takesMiddle 56 = .ok (.aload_n 0, 1) := by decide +kernel
theorem dX1_takesMiddle_57 : decode cX1_takesMiddle 57 = .ok (.invokevirtual 54, 3) := by decide +kernel
theorem dX1_takesMiddle_60 : decode cX1_takesMiddle 60 = .ok (.iconst 1, 1) := by decide +kernel
theorem dX1_takesMiddle_61 : decode cX1_takesMiddle 61 = .ok (.ireturn, 1) := by decide +kernel
theorem dX1_takesEnd_0 : decode cX1_takesEnd 0 = .ok (.iload_n 1, 1) := by decide +kernel
theorem dX1_takesEnd_1 : decode cX1_takesEnd 1 = .ok (.bipush 59, 2) := by decide +kernel
theorem dX1_takesEnd_3 : decode cX1_takesEnd 3 = .ok (.if_icmp .eq 5, 3) := by decide +kernel
theorem dX1_takesEnd_6 : decode cX1_takesEnd 6 = .ok (.iconst 0, 1) := by decide +kernel
theorem dX1_takesEnd_7 : decode cX1_takesEnd 7 = .ok (.ireturn, 1) := by decide +kernel
theorem dX1_takesEnd_8 : decode cX1_takesEnd 8 = .ok (.aload_n 0, 1) := by decide +kernel
theorem dX1_takesEnd_9 : decode cX1_takesEnd 9 = .ok (.invokevirtual 61, 3) := by decide +kernel
theorem dX1_takesEnd_12 : decode cX1_takesEnd 12 = .ok (.iconst 1, 1) := by decide +kernel
theorem dX1_takesEnd_13 : decode cX1_takesEnd 13 = .ok (.ireturn, 1) := by decide +kernel
theorem dX1_endEntry_0 : decode cX1_endEntry 0 = .ok (.aload_n 0, 1) := by decide +kernel
theorem dX1_endEntry_1 : decode cX1_endEntry 1 = .ok (.getfield 23, 3) := by decide +kernel
theorem dX1_endEntry_4 : decode cX1_endEntry 4 = .ok (.aload_n 0, 1) := by decide +kernel
theorem dX1_endEntry_5 : decode cX1_endEntry 5 = .ok (.getfield 33, 3) := by decide +kernel
theorem dX1_endEntry_8 : decode cX1_endEntry 8 = .ok (.aload_n 0, 1) := by decide +kernel
theorem dX1_endEntry_9 : decode cX1_endEntry 9 = .ok (.getfield 43, 3) := by decide +kernel
theorem dX1_endEntry_12 : decode cX1_endEntry 12 = .ok (.invokevirtual 46, 3) := by decide +kernel
theorem dX1_endEntry_15 : decode cX1_endEntry 15 = .ok (.aload_n 0, 1) := by decide +kernel
theorem dX1_endEntry_16 : decode cX1_endEntry 16 = .ok (.dup, 1) := by decide +kernel
theorem dX1_endEntry_17 : decode cX1_endEntry 17 = .ok (.getfield 33, 3) := by decide +kernel
theorem dX1_endEntry_20 : decode cX1_endEntry 20 = .ok (.iconst 1, 1) := by decide +kernel
theorem dX1_endEntry_21 : decode cX1_endEntry 21 = .ok (.iadd, 1) := by decide +kernel
theorem dX1_endEntry_22 : decode cX1_endEntry 22 = .ok (.putfield 33, 3) := by decide +kernel
theorem dX1_endEntry_25 : decode cX1_endEntry 25 = .ok (.aload_n 0, 1) := by decide +kernel
theorem dX1_endEntry_26 : decode cX1_endEntry 26 = .ok (.iconst 0, 1) := by decide +kernel
theorem dX1_endEntry_27 : decode cX1_endEntry 27 = .ok (.putfield 36, 3) := by decide +kernel
theorem dX1_endEntry_30 : decode cX1_endEntry 30 = .ok (.aload_n 0, 1) := by decide +kernel
theorem dX1_endEntry_31 : decode cX1_endEntry 31 = .ok (.invokevirtual 54, 3) := by decide +kernel
theorem dX1_endEntry_34 : decode cX1_endEntry 34 = .ok (.return_, 1) := by decide +kernel
theorem dX2_init_0 : decode cX2_init 0 = .ok (.aload_n 0, 1) := by decide +kernel
theorem dX2_init_1 : decode cX2_init 1 = .ok (.invokespecial 3, 3) := by decide +kernel
theorem dX2_init_4 : decode cX2_init 4 = .ok (.aload_n 0, 1) := by decide +kernel
theorem dX2_init_5 : decode cX2_init 5 = .ok (.aload_n 1, 1) := by decide +kernel
theorem dX2_init_6 : decode cX2_init 6 = .ok (.putfield 9, 3) := by decide +kernel
theorem dX2_init_9 : decode cX2_init 9 = .ok (.aload_n 0, 1) := by decide +kernel
theorem dX2_init_10 : decode cX2_init 10 = .ok (.new 15, 3) := by decide +kernel
theorem dX2_init_13 : decode cX2_init 13 = .ok (.dup, 1) := by decide +kernel
theorem dX2_init_14 : decode cX2_init 14 = .ok (.iconst 0, 1) := by decide +kernel
theorem dX2_init_15 : decode cX2_init 15 = .ok (.invokespecial 17, 3) := by decide +kernel
theorem dX2_init_18 : decode cX2_init 18 = .ok (.putfield 20, 3) := by decide +kernel
theorem dX2_init_21 : decode cX2_init 21 = .ok (.aload_n 0, 1) := by decide +kernel
theorem dX2_init_22 : decode cX2_init 22 = .ok (.new 15, 3) := by decide +kernel
theorem dX2_init_25 : decode cX2_init 25 = .ok (.dup, 1) := by decide +kernel
theorem dX2_init_26 : decode cX2_init 26 = .ok (.iconst (-1), 1) := by decide +kernel
theorem dX2_init_27 : decode cX2_init 27 = .ok (.invokespecial 17, 3) := by decide +kernel
theorem dX2_init_30 : decode cX2_init 30 = .ok (.putfield 24, 3) := by decide +kernel
theorem dX2_init_33 : decode cX2_init 33 = .ok (.aload_n 0, 1) := by decide +kernel
theorem dX2_init_34 : decode cX2_init 34 = .ok (.new 15, 3) := by decide +kernel
theorem dX2_init_37 : decode cX2_init 37 = .ok (.dup, 1) := by decide +kernel
theorem dX2_init_38 : decode cX2_init 38 = .ok (.iconst (-1), 1) := by decide +kernel
theorem dX2_init_39 : decode cX2_init 39 = .ok (.invokespecial 17, 3) := by decide +kernel
theorem dX2_init_42 : decode cX2_init 42 = .ok (.putfield 27, 3) := by decide +kernel
theorem dX2_init_45 : decode cX2_init 45 = .ok (.aload_n 0, 1) := by decide +kernel
theorem dX2_init_46 : decode cX2_init 46 = .ok (.new 30, 3) := by decide +kernel
theorem dX2_init_49 : decode cX2_init 49 = .ok (.dup, 1) := by decide +kernel
theorem dX2_init_50 : decode cX2_init 50 = .ok (.bipush 16, 2) := by decide +kernel
theorem dX2_init_52 : decode cX2_init 52 = .ok (.invokespecial 32, 3) := by decide +kernel
theorem dX2_init_55 : decode cX2_init 55 = .ok (.putfield 33, 3) := by decide +kernel
theorem dX2_init_58 : decode cX2_init 58 = .ok (.aload_n 0, 1) := by decide +kernel
theorem dX2_init_59 : decode cX2_init 59 = .ok (.new 30, 3) := by decide +kernel
theorem dX2_init_62 : decode cX2_init 62 = .ok (.dup, 1) := by decide +kernel
theorem dX2_init_63 : decode cX2_init 63 = .ok (.bipush 42, 2) := by decide +kernel
theorem dX2_init_65 : decode cX2_init 65 = .ok (.invokespecial 32, 3) := by decide +kernel
theorem dX2_init_68 : decode cX2_init 68 = .ok (.putfield 37, 3) := by decide +kernel
theorem dX2_init_71 : decode cX2_init 71 = .ok (.aload_n 0, 1) := by decide +kernel
theorem dX2_init_72 : decode cX2_init 72 = .ok (.new 30, 3) := by decide +kernel
theorem dX2_init_75 : decode cX2_init 75 = .ok (.dup, 1) := by decide +kernel
theorem dX2_init_76 : decode cX2_init 76 = .ok (.bipush 42, 2) := by decide +kernel
theorem dX2_init_78 : decode cX2_init 78 = .ok (.invokespecial 32, 3) := by decide +kernel
theorem dX2_init_81 : decode cX2_init 81 = .ok (.putfield 40, 3) := by decide +kernel
theorem dX2_init_84 : decode cX2_init 84 = .ok (.aload_n 0, 1) := by decide +kernel
theorem dX2_init_85 : decode cX2_init 85 = .ok (.new 30, 3) := by decide +kernel
theorem dX2_init_88 : decode cX2_init 88 = .ok (.dup, 1) := by decide +kernel
theorem dX2_init_89 : decode cX2_init 89 = .ok (.bipush 81, 2) := by decide +kernel
theorem dX2_init_91 : decode cX2_init 91 = .ok (.invokespecial 32, 3) := by decide +kernel
theorem dX2_init_94 : decode cX2_init 94 = .ok (.putfield 43, 3) := by decide +kernel
theorem dX2_init_97 : decode cX2_init 97 = .ok (.aload_n 0, 1) := by decide +kernel
theorem dX2_init_98 : decode cX2_init 98 = .ok (.new 30, 3) := by decide +kernel
theorem dX2_init_101 : decode cX2_init 101 = .ok (.dup, 1) := by decide +kernel
theorem dX2_init_102 : decode cX2_init 102 = .ok (.bipush 16, 2) := by decide +kernel
theorem dX2_init_104 : decode cX2_init 104 = .ok (.invokespecial 32, 3) := by decide +kernel
theorem dX2_init_107 : decode cX2_init 107 = .ok (.putfield 46, 3) := by decide +kernel
theorem dX2_init_110 : decode cX2_init 110 = .ok (.aload_n 0, 1) := by decide +kernel
theorem dX2_init_111 : decode cX2_init 111 = .ok (.iconst 0, 1) := by decide +kernel
theorem dX2_init_112 : decode cX2_init 112 = .ok (.putfield 49, 3) := by decide +kernel
theorem dX2_init_115 : decode cX2_init 115 = .ok (.aload_n 0, 1) := by decide +kernel
theorem dX2_init_116 : decode cX2_init 116 = .ok (.iconst 0, 1) := by decide +kernel
theorem dX2_init_117 : decode cX2_init 117 = .ok (.putfield 53, 3) := by decide +kernel
theorem dX2_init_120 : decode cX2_init 120 = .ok (.aload_n 0, 1) := by decide +kernel
theorem dX2_init_121 : decode cX2_init 121 = .ok (.iconst 0, 1) := by decide +kernel
theorem dX2_init_122 : decode cX2_init 122 = .ok (.putfield 56, 3) := by decide +kernel
theorem dX2_init_125 : decode cX2_init 125 = .ok (.return_, 1) := by decide +kernel
theorem dX2_draw_0 : decode cX2_draw 0 = .ok (.aload_n 0, 1) := by decide +kernel
theorem dX2_draw_1 : decode cX2_draw 1 = .ok (.invokevirtual 59, 3) := by decide +kernel
theorem dX2_draw_4 : decode cX2_draw 4 = .ok (.aload_n 0, 1) := by decide +kernel
theorem dX2_draw_5 : decode cX2_draw 5 = .ok (.invokevirtual 62, 3) := by decide +kernel
theorem dX2_draw_8 : decode cX2_draw 8 = .ok (.aload_n 0, 1) := by decide +kernel
theorem dX2_draw_9 : decode cX2_draw 9 = .ok (.invokevirtual 65, 3) := by decide +kernel
theorem dX2_draw_12 : decode cX2_draw 12 = .ok (.iconst 1, 1) := by decide +kernel
theorem dX2_draw_13 : decode cX2_draw 13 = .ok (.istore_n 1, 1) := by decide +kernel
theorem dX2_draw_14 : decode cX2_draw 14 = .ok (.iconst 0, 1) := by decide +kernel
theorem dX2_draw_15 : decode cX2_draw 15 = .ok (.istore_n 2, 1) := by decide +kernel
theorem dX2_draw_16 : decode cX2_draw 16 = .ok (.iload_n 2, 1) := by decide +kernel
theorem dX2_draw_17 : decode cX2_draw 17 = .ok (.sipush 1000, 3) := by decide +kernel
theorem dX2_draw_20 : decode cX2_draw 20 = .ok (.if_icmp .ge 18, 3) := by decide +kernel
theorem dX2_draw_23 : decode cX2_draw 23 = .ok (.iload_n 1, 1) := by decide +kernel
theorem dX2_draw_24 : decode cX2_draw 24 = .ok (.ifCond .eq 14, 3) := by decide +kernel
theorem dX2_draw_27 : decode cX2_draw 27 = .ok (.aload_n 0, 1) := by decide +kernel
theorem dX2_draw_28 : decode cX2_draw 28 = .ok (.invokevirtual 68, 3) := by decide +kernel
theorem dX2_draw_31 : decode cX2_draw 31 = .ok (.istore_n 1, 1) := by decide +kernel
theorem dX2_draw_32 : decode cX2_draw 32 = .ok (.iinc 2 1, 3) := by decide +kernel
theorem dX2_draw_35 : decode cX2_draw 35 = .ok (.goto (-19), 3) := by decide +kernel
theorem dX2_draw_38 : decode cX2_draw 38 = .ok (.aload_n 0, 1) := by decide +kernel
theorem dX2_draw_39 : decode cX2_draw 39 = .ok (.invokevirtual 72, 3) := by decide +kernel
theorem dX2_draw_42 : decode cX2_draw 42 = .ok (.aload_n 0, 1) := by decide +kernel
theorem dX2_draw_43 : decode cX2_draw 43 = .ok (.invokevirtual 75, 3) := by decide +kernel
theorem dX2_draw_46 : decode cX2_draw 46 = .ok (.aload_n 0, 1) := by decide +kernel
theorem dX2_draw_47 : decode cX2_draw 47 = .ok (.invokevirtual 78, 3) := by decide +kernel
theorem dX2_draw_50 : decode cX2_draw 50 = .ok (.return_, 1) := by decide +kernel
theorem dX2_findSides_0 : decode cX2_findSides 0 = .ok (.aload_n 0, 1) := by decide +kernel
theorem dX2_findSides_1 : decode cX2_findSides 1 = .ok (.getfield 20, 3) := by decide +kernel
theorem dX2_findSides_4 : decode cX2_findSides 4 = .ok (.invokevirtual 81, 3) := by decide +kernel
theorem dX2_findSides_7 : decode cX2_findSides 7 = .ok (.iconst 0, 1) := by decide +kernel
theorem dX2_findSides_8 : decode cX2_findSides 8 = .ok (.istore_n 1, 1) := by decide +kernel
theorem dX2_findSides_9 : decode cX2_findSides 9 = .ok (.iload_n 1, 1) := by decide +kernel
theorem dX2_findSides_10 : decode cX2_findSides 10 = .ok (.aload_n 0, 1) := by decide +kernel
theorem dX2_findSides_11 : decode cX2_findSides 11 = .ok (.getfield 9, 3) := by decide +kernel
theorem dX2_findSides_14 : decode cX2_findSides 14 = .ok (.invokevirtual 84, 3) := by decide +kernel
theorem dX2_findSides_17 : decode cX2_findSides 17 = .ok (.if_icmp .ge 36, 3) := by decide +kernel
theorem dX2_findSides_20 : decode cX2_findSides 20 = .ok (.iload_n 1, 1) := by decide +kernel
theorem dX2_findSides_21 : decode cX2_findSides 21 = .ok (.iconst 1, 1) := by decide +kernel
theorem dX2_findSides_22 : decode cX2_findSides 22 = .ok (.iadd, 1) := by decide +kernel
theorem dX2_findSides_23 : decode cX2_findSides 23 = .ok (.istore_n 2, 1) := by decide +kernel
theorem dX2_findSides_24 : decode cX2_findSides 24 = .ok (.iload_n 2, 1) := by decide +kernel
theorem dX2_findSides_25 : decode cX2_findSides 25 = .ok (.aload_n 0, 1) := by decide +kernel
theorem dX2_findSides_26 : decode cX2_findSides 26 = .ok (.getfield 9, 3) := by decide +kernel
theorem dX2_findSides_29 : decode cX2_findSides 29 = .ok (.invokevirtual 84, 3) := by decide +kernel
theorem dX2_findSides_32 : decode cX2_findSides 32 = .ok (.if_icmp .ge 15, 3) := by decide +kernel
theorem dX2_findSides_35 : decode cX2_findSides 35 = .ok (.aload_n 0, 1) := by decide +kernel
theorem dX2_findSides_36 : decode cX2_findSides 36 = .ok (.iload_n 1, 1) := by decide +kernel
theorem dX2_findSides_37 : decode cX2_findSides 37 = .ok (.iload_n 2, 1) := by decide +kernel
theorem dX2_findSides_38 : decode cX2_findSides 38 = .ok (.invokevirtual 90, 3) := by decide +kernel
theorem dX2_findSides_41 : decode cX2_findSides 41 = .ok (.iinc 2 1, 3) := by decide +kernel
theorem dX2_findSides_44 : decode cX2_findSides 44 = .ok (.goto (-20), 3) := by decide +kernel
theorem dX2_findSides_47 : decode cX2_findSides 47 = .ok (.iinc 1 1, 3) := by decide +kernel
theorem dX2_findSides_50 : decode cX2_findSides 50 = .ok (.goto (-41), 3) := by decide +kernel
theorem dX2_findSides_53 : decode cX2_findSides 53 = .ok (.return_, 1) := by decide +kernel
theorem dX2_findSidesOf_0 : decode cX2_findSidesOf 0 = .ok (.iconst 0, 1) := by decide +kernel
theorem dX2_findSidesOf_1 : decode cX2_findSidesOf 1 = .ok (.istore_n 3, 1) := by decide +kernel
theorem dX2_findSidesOf_2 : decode cX2_findSidesOf 2 = .ok (.iconst 0, 1) := by decide +kernel
theorem dX2_findSidesOf_3 : decode cX2_findSidesOf 3 = .ok (.istore 4, 2) := by decide +kernel
theorem dX2_findSidesOf_5 : decode cX2_findSidesOf 5 = .ok (.iconst 0, 1) := by decide +kernel
theorem dX2_findSidesOf_6 : decode cX2_findSidesOf 6 = .ok (.istore 5, 2) := by decide +kernel
theorem dX2_findSidesOf_8 : decode cX2_findSidesOf 8 = .ok (.iload 5, 2) := by decide +kernel
theorem dX2_findSidesOf_10 : decode cX2_findSidesOf 10 = .ok (.aload_n 0, 1) := by decide +kernel
theorem dX2_findSidesOf_11 : decode cX2_findSidesOf 11 = .ok (.getfield 9, 3) := by decide +kernel
theorem dX2_findSidesOf_14 : decode cX2_findSidesOf 14 = .ok (.invokevirtual 84, 3) := by decide +kernel
theorem dX2_findSidesOf_17 : decode cX2_findSidesOf 17 = .ok (.if_icmp .ge 51, 3) := by decide +kernel
theorem dX2_findSidesOf_20 : decode cX2_findSidesOf 20 = .ok (.aload_n 0, 1) := by decide +kernel
theorem dX2_findSidesOf_21 : decode cX2_findSidesOf 21 = .ok (.getfield 9, 3) := by decide +kernel
theorem dX2_findSidesOf_24 : decode cX2_findSidesOf 24 = .ok (.iload_n 1, 1) := by decide +kernel
theorem dX2_findSidesOf_25 : decode cX2_findSidesOf 25 = .ok (.iload_n 2, 1) := by decide +kernel
theorem dX2_findSidesOf_26 : decode cX2_findSidesOf 26 = .ok (.iload 5, 2) := by decide +kernel
theorem dX2_findSidesOf_28 : decode cX2_findSidesOf 28 = .ok (.invokevirtual 94, 3) := by decide +kernel
theorem dX2_findSidesOf_31 : decode cX2_findSidesOf 31 = .ok (.istore 6, 2) := by decide +kernel
theorem dX2_findSidesOf_33 : decode cX2_findSidesOf 33 = .ok (.iload 6, 2) := by decide +kernel
theorem dX2_findSidesOf_35 : decode cX2_findSidesOf 35 = .ok (.ifCond .le 13, 3) := by decide +kernel
theorem dX2_findSidesOf_38 : decode cX2_findSidesOf 38 = .ok (.iload_n 3, 1) := by decide +kernel
theorem dX2_findSidesOf_39 : decode cX2_findSidesOf 39 = .ok (.iconst 1, 1) := by decide +kernel
theorem dX2_findSidesOf_40 : decode cX2_findSidesOf 40 = .ok (.iload 5, 2) := by decide +kernel
theorem dX2_findSidesOf_42 : decode cX2_findSidesOf 42 = .ok (.ishl, 1) := by decide +kernel
theorem dX2_findSidesOf_43 : decode cX2_findSidesOf 43 = .ok (.ior, 1) := by decide +kernel
theorem dX2_findSidesOf_44 : decode cX2_findSidesOf 44 = .ok (.istore_n 3, 1) := by decide +kernel
theorem dX2_findSidesOf_45 : decode cX2_findSidesOf 45 = .ok (.goto 17, 3) := by decide +kernel
theorem dX2_findSidesOf_48 : decode cX2_findSidesOf 48 = .ok (.iload 6, 2) := by decide +kernel
theorem dX2_findSidesOf_50 : decode cX2_findSidesOf 50 = .ok (.ifCond .ge 12, 3) := by decide +kernel
theorem dX2_findSidesOf_53 : decode cX2_findSidesOf 53 = .ok (.iload 4, 2) := by decide +kernel
theorem dX2_findSidesOf_55 : decode cX2_findSidesOf 55 = .ok (.iconst 1, 1) := by decide +kernel
theorem dX2_findSidesOf_56 : decode cX2_findSidesOf 56 = .ok (.iload 5, 2) := by decide +kernel
theorem dX2_findSidesOf_58 : decode cX2_findSidesOf 58 = .ok (.ishl, 1) := by decide +kernel
theorem dX2_findSidesOf_59 : decode cX2_findSidesOf 59 = .ok (.ior, 1) := by decide +kernel
theorem dX2_findSidesOf_60 : decode cX2_findSidesOf 60 = .ok (.istore 4, 2) := by decide +kernel
theorem dX2_findSidesOf_62 : decode cX2_findSidesOf 62 = .ok (.iinc 5 1, 3) := by decide +kernel
theorem dX2_findSidesOf_65 : decode cX2_findSidesOf 65 = .ok (.goto (-57), 3) := by decide +kernel
theorem dX2_findSidesOf_68 : decode cX2_findSidesOf 68 = .ok (.aload_n 0, 1) := by decide +kernel
theorem dX2_findSidesOf_69 : decode cX2_findSidesOf 69 = .ok (.getfield 20, 3) := by decide +kernel
theorem dX2_findSidesOf_72 : decode cX2_findSidesOf 72 = .ok (.iload_n 1, 1) := by decide +kernel
theorem dX2_findSidesOf_73 : decode cX2_findSidesOf 73 = .ok (.iload_n 2, 1) := by decide +kernel
theorem dX2_findSidesOf_74 : decode cX2_findSidesOf 74 = .ok (.iload_n 3, 1) := by decide +kernel
theorem dX2_findSidesOf_75 : decode cX2_findSidesOf 75 = .ok (.invokevirtual 98, 3) := by decide +kernel
theorem dX2_findSidesOf_78 : decode cX2_findSidesOf 78 = .ok (.aload_n 0, 1) := by decide +kernel
theorem dX2_findSidesOf_79 : decode cX2_findSidesOf 79 = .ok (.getfield 20, 3) := by decide +kernel
theorem dX2_findSidesOf_82 : decode cX2_findSidesOf 82 = .ok (.iload_n 2, 1) := by decide +kernel
theorem dX2_findSidesOf_83 : decode cX2_findSidesOf 83 = .ok (.iload_n 1, 1) := by decide +kernel
theorem dX2_findSidesOf_84 : decode cX2_findSidesOf 84 = .ok (.iload 4, 2) := by decide +kernel
theorem dX2_findSidesOf_86 : decode cX2_findSidesOf 86 = .ok (.invokevirtual 98, 3) := by decide +kernel
theorem dX2_findSidesOf_89 : decode cX2_findSidesOf 89 = .ok (.return_, 1) := by decide +kernel
theorem dX2_drawSomeEdges_0 : decode cX2_drawSomeEdges 0 = .ok (.aload_n 0, 1) := by decide +kernel
theorem dX2_drawSomeEdges_1 : decode cX2_drawSomeEdges 1 = .ok (.iconst 0, 1) := by decide +kernel
theorem dX2_drawSomeEdges_2 : decode cX2_drawSomeEdges 2 = .ok (.putfield 49, 3) := by decide +kernel
theorem dX2_drawSomeEdges_5 : decode cX2_drawSomeEdges 5 = .ok (.iconst 0, 1) := by decide +kernel
theorem dX2_drawSomeEdges_6 : decode cX2_drawSomeEdges 6 = .ok (.istore_n 1, 1) := by decide +kernel
theorem dX2_drawSomeEdges_7 : decode cX2_drawSomeEdges 7 = .ok (.iload_n 1, 1) := by decide +kernel
theorem dX2_drawSomeEdges_8 : decode cX2_drawSomeEdges 8 = .ok (.bipush 16, 2) := by decide +kernel
theorem dX2_drawSomeEdges_10 : decode cX2_drawSomeEdges 10 = .ok (.if_icmp .ge 18, 3) := by decide +kernel
theorem dX2_drawSomeEdges_13 : decode cX2_drawSomeEdges 13 = .ok (.aload_n 0, 1) := by decide +kernel
theorem dX2_drawSomeEdges_14 : decode cX2_drawSomeEdges 14 = .ok (.getfield 33, 3) := by decide +kernel
theorem dX2_drawSomeEdges_17 : decode cX2_drawSomeEdges 17 = .ok (.iload_n 1, 1) := by decide +kernel
theorem dX2_drawSomeEdges_18 : decode cX2_drawSomeEdges 18 = .ok (.iconst 0, 1) := by decide +kernel
theorem dX2_drawSomeEdges_19 : decode cX2_drawSomeEdges 19 = .ok (.invokevirtual 102, 3) := by decide +kernel
theorem dX2_drawSomeEdges_22 : decode cX2_drawSomeEdges 22 = .ok (.iinc 1 1, 3) := by decide +kernel
theorem dX2_drawSomeEdges_25 : decode cX2_drawSomeEdges 25 = .ok (.goto (-18), 3) := by decide +kernel
theorem dX2_drawSomeEdges_28 : decode cX2_drawSomeEdges 28 = .ok (.iconst 0, 1) := by decide +kernel
theorem dX2_drawSomeEdges_29 : decode cX2_drawSomeEdges 29 = .ok (.istore_n 1, 1) := by decide +kernel
theorem dX2_drawSomeEdges_30 : decode cX2_drawSomeEdges 30 = .ok (.iload_n 1, 1) := by decide +kernel
theorem dX2_drawSomeEdges_31 : decode cX2_drawSomeEdges 31 = .ok (.aload_n 0, 1) := by decide +kernel
theorem dX2_drawSomeEdges_32 : decode cX2_drawSomeEdges 32 = .ok (.getfield 9, 3) := by decide +kernel
theorem dX2_drawSomeEdges_35 : decode cX2_drawSomeEdges 35 = .ok (.invokevirtual 104, 3) := by decide +kernel
theorem dX2_drawSomeEdges_38 : decode cX2_drawSomeEdges 38 = .ok (.if_icmp .ge 29, 3) := by decide +kernel
theorem dX2_drawSomeEdges_41 : decode cX2_drawSomeEdges 41 = .ok (.aload_n 0, 1) := by decide +kernel
theorem dX2_drawSomeEdges_42 : decode cX2_drawSomeEdges 42 = .ok (.aload_n 0, 1) := by decide +kernel
theorem dX2_drawSomeEdges_43 : decode cX2_drawSomeEdges 43 = .ok (.getfield 9, 3) := by decide +kernel
theorem dX2_drawSomeEdges_46 : decode cX2_drawSomeEdges 46 = .ok (.iload_n 1, 1) := by decide +kernel
theorem dX2_drawSomeEdges_47 : decode cX2_drawSomeEdges 47 = .ok (.invokevirtual 107, 3) := by decide +kernel
theorem dX2_drawSomeEdges_50 : decode cX2_drawSomeEdges 50 = .ok (.aload_n 0, 1) := by decide +kernel
theorem dX2_drawSomeEdges_51 : decode cX2_drawSomeEdges 51 = .ok (.getfield 9, 3) := by decide +kernel
theorem dX2_drawSomeEdges_54 : decode cX2_drawSomeEdges 54 = .ok (.iload_n 1, 1) := by decide +kernel
theorem dX2_drawSomeEdges_55 : decode cX2_drawSomeEdges 55 = .ok (.invokevirtual 111, 3) := by decide +kernel
theorem dX2_drawSomeEdges_58 : decode cX2_drawSomeEdges 58 = .ok (.invokevirtual 114, 3) := by decide +kernel
theorem dX2_drawSomeEdges_61 : decode cX2_drawSomeEdges 61 = .ok (.iinc 1 1, 3) := by decide +kernel
theorem dX2_drawSomeEdges_64 : decode cX2_drawSomeEdges 64 = .ok (.goto (-34), 3) := by decide +kernel
theorem dX2_drawSomeEdges_67 : decode cX2_drawSomeEdges 67 = .ok (.iconst 0, 1) := by decide +kernel
theorem dX2_drawSomeEdges_68 : decode cX2_drawSomeEdges 68 = .ok (.istore_n 1, 1) := by decide +kernel
theorem dX2_drawSomeEdges_69 : decode cX2_drawSomeEdges 69 = .ok (.iload_n 1, 1) := by decide +kernel
theorem dX2_drawSomeEdges_70 : decode cX2_drawSomeEdges 70 = .ok (.aload_n 0, 1) := by decide +kernel
theorem dX2_drawSomeEdges_71 : decode cX2_drawSomeEdges 71 = .ok (.getfield 9, 3) := by decide +kernel
theorem dX2_drawSomeEdges_74 : decode cX2_drawSomeEdges 74 = .ok (.invokevirtual 84, 3) := by decide +kernel
theorem dX2_drawSomeEdges_77 : decode cX2_drawSomeEdges 77 = .ok (.if_icmp .ge 66, 3) := by decide +kernel
theorem dX2_drawSomeEdges_80 : decode cX2_drawSomeEdges 80 = .ok (.iload_n 1, 1) := by decide +kernel
theorem dX2_drawSomeEdges_81 : decode cX2_drawSomeEdges 81 = .ok (.iconst 1, 1) := by decide +kernel
theorem dX2_drawSomeEdges_82 : decode cX2_drawSomeEdges 82 = .ok (.iadd, 1) := by decide +kernel
theorem dX2_drawSomeEdges_83 : decode cX2_drawSomeEdges 83 = .ok (.istore_n 2, 1) := by decide +kernel
theorem dX2_drawSomeEdges_84 : decode cX2_drawSomeEdges 84 = .ok (.iload_n 2, 1) := by decide +kernel
theorem dX2_drawSomeEdges_85 : decode cX2_drawSomeEdges 85 = .ok (.aload_n 0, 1) := by decide +kernel
theorem dX2_drawSomeEdges_86 : decode cX2_drawSomeEdges 86 = .ok (.getfield 9, 3) := by decide +kernel
theorem dX2_drawSomeEdges_89 : decode cX2_drawSomeEdges 89 = .ok (.invokevirtual 84, 3) := by decide +kernel
theorem dX2_drawSomeEdges_92 : decode cX2_drawSomeEdges 92 = .ok (.if_icmp .ge 45, 3) := by decide +kernel
theorem dX2_drawSomeEdges_95 : decode cX2_drawSomeEdges 95 = .ok (.aload_n 0, 1) := by decide +kernel
theorem dX2_drawSomeEdges_96 : decode cX2_drawSomeEdges 96 = .ok (.iload_n 1, 1) := by decide +kernel
theorem dX2_drawSomeEdges_97 : decode cX2_drawSomeEdges 97 = .ok (.iload_n 2, 1) := by decide +kernel
theorem dX2_drawSomeEdges_98 : decode cX2_drawSomeEdges 98 = .ok (.invokevirtual 117, 3) := by decide +kernel
theorem dX2_drawSomeEdges_101 : decode cX2_drawSomeEdges 101 = .ok (.ifCond .ne 30, 3) := by decide +kernel
theorem dX2_drawSomeEdges_104 : decode cX2_drawSomeEdges 104 = .ok (.aload_n 0, 1) := by decide +kernel
theorem dX2_drawSomeEdges_105 : decode cX2_drawSomeEdges 105 = .ok (.getfield 9, 3) := by decide +kernel
theorem dX2_drawSomeEdges_108 : decode cX2_drawSomeEdges 108 = .ok (.iload_n 1, 1) := by decide +kernel
theorem dX2_drawSomeEdges_109 : decode cX2_drawSomeEdges 109 = .ok (.iload_n 2, 1) := by decide +kernel
theorem dX2_drawSomeEdges_110 : decode cX2_drawSomeEdges 110 = .ok (.invokevirtual 121, 3) := by decide +kernel
theorem dX2_drawSomeEdges_113 : decode cX2_drawSomeEdges 113 = .ok (.ifCond .ne 18, 3) := by decide +kernel
theorem dX2_drawSomeEdges_116 : decode cX2_drawSomeEdges 116 = .ok (.aload_n 0, 1) := by decide +kernel
theorem dX2_drawSomeEdges_117 : decode cX2_drawSomeEdges 117 = .ok (.iload_n 1, 1) := by decide +kernel
theorem dX2_drawSomeEdges_118 : decode cX2_drawSomeEdges 118 = .ok (.iload_n 2, 1) := by decide +kernel
theorem dX2_drawSomeEdges_119 : decode cX2_drawSomeEdges 119 = .ok (.invokevirtual 124, 3) := by decide +kernel
theorem dX2_drawSomeEdges_122 : decode cX2_drawSomeEdges 122 = .ok (.ifCond .ne 9, 3) := by decide +kernel
theorem dX2_drawSomeEdges_125 : decode cX2_drawSomeEdges 125 = .ok (.aload_n 0, 1) := by decide +kernel
theorem dX2_drawSomeEdges_126 : decode cX2_drawSomeEdges 126 = .ok (.iload_n 1, 1) := by decide +kernel
theorem dX2_drawSomeEdges_127 : decode cX2_drawSomeEdges 127 = .ok (.iload_n 2, 1) := by decide +kernel
theorem dX2_drawSomeEdges_128 : decode cX2_drawSomeEdges 128 = .ok (.invokevirtual 114, 3) := by decide +kernel
theorem dX2_drawSomeEdges_131 : decode cX2_drawSomeEdges 131 = .ok (.iinc 2 1, 3) := by decide +kernel
theorem dX2_drawSomeEdges_134 : decode cX2_drawSomeEdges 134 = .ok (.goto (-50), 3) := by decide +kernel
theorem dX2_drawSomeEdges_137 : decode cX2_drawSomeEdges 137 = .ok (.iinc 1 1, 3) := by decide +kernel
theorem dX2_drawSomeEdges_140 : decode cX2_drawSomeEdges 140 = .ok (.goto (-71), 3) := by decide +kernel
theorem dX2_drawSomeEdges_143 : decode cX2_drawSomeEdges 143 = .ok (.return_, 1) := by decide +kernel
theorem dX2_crossesEdge_0 : decode cX2_crossesEdge 0 = .ok (.iconst 0, 1) := by decide +kernel
theorem dX2_crossesEdge_1 : decode cX2_crossesEdge 1 = .ok (.istore_n 3, 1) := by decide +kernel
theorem dX2_crossesEdge_2 : decode cX2_crossesEdge 2 = .ok (.iload_n 3, 1) := by decide +kernel
theorem dX2_crossesEdge_3 : decode cX2_crossesEdge 3 = .ok (.aload_n 0, 1) := by decide +kernel
theorem dX2_crossesEdge_4 : decode cX2_crossesEdge 4 = .ok (.getfield 49, 3) := by decide +kernel
theorem dX2_crossesEdge_7 : decode cX2_crossesEdge 7 = .ok (.if_icmp .ge 36, 3) := by decide +kernel
theorem dX2_crossesEdge_10 : decode cX2_crossesEdge 10 = .ok (.aload_n 0, 1) := by decide +kernel
theorem dX2_crossesEdge_11 : decode cX2_crossesEdge 11 = .ok (.iload_n 1, 1) := by decide +kernel
theorem dX2_crossesEdge_12 : decode cX2_crossesEdge 12 = .ok (.iload_n 2, 1) := by decide +kernel
theorem dX2_crossesEdge_13 : decode cX2_crossesEdge 13 = .ok (.aload_n 0, 1) := by decide +kernel
theorem dX2_crossesEdge_14 : decode cX2_crossesEdge 14 = .ok (.getfield 37, 3) := by decide +kernel
theorem dX2_crossesEdge_17 : decode cX2_crossesEdge 17 = .ok (.iload_n 3, 1) := by decide +kernel
theorem dX2_crossesEdge_18 : decode cX2_crossesEdge 18 = .ok (.invokevirtual 127, 3) := by decide +kernel
theorem dX2_crossesEdge_21 : decode cX2_crossesEdge 21 = .ok (.aload_n 0, 1) := by decide +kernel
theorem dX2_crossesEdge_22 : decode cX2_crossesEdge 22 = .ok (.getfield 40, 3) := by decide +kernel
theorem dX2_crossesEdge_25 : decode cX2_crossesEdge 25 = .ok (.iload_n 3, 1) := by decide +kernel
theorem dX2_crossesEdge_26 : decode cX2_crossesEdge 26 = .ok (.invokevirtual 127, 3) := by decide +kernel
theorem dX2_crossesEdge_29 : decode cX2_crossesEdge 29 = .ok (.invokevirtual 130, 3) := by decide +kernel
theorem dX2_crossesEdge_32 : decode cX2_crossesEdge 32 = .ok (.ifCond .eq 5, 3) := by decide +kernel
theorem dX2_crossesEdge_35 : decode cX2_crossesEdge 35 = .ok (.iconst 1, 1) := by decide +kernel
theorem dX2_crossesEdge_36 : decode cX2_crossesEdge 36 = .ok (.ireturn, 1) := by decide +kernel
theorem dX2_crossesEdge_37 : decode cX2_crossesEdge 37 = .ok (.iinc 3 1, 3) := by decide +kernel
theorem dX2_crossesEdge_40 : decode cX2_crossesEdge 40 = .ok (.goto (-38), 3) := by decide +kernel
theorem dX2_crossesEdge_43 : decode cX2_crossesEdge 43 = .ok (.iconst 0, 1) := by decide +kernel
theorem dX2_crossesEdge_44 : decode cX2_crossesEdge 44 = .ok (.ireturn, 1) := by decide +kernel
theorem dX2_drawEdge_0 : decode cX2_drawEdge 0 = .ok (.aload_n 0, 1) := by decide +kernel
theorem dX2_drawEdge_1 : decode cX2_drawEdge 1 = .ok (.getfield 37, 3) := by decide +kernel
theorem dX2_drawEdge_4 : decode cX2_drawEdge 4 = .ok (.aload_n 0, 1) := by decide +kernel
theorem dX2_drawEdge_5 : decode cX2_drawEdge 5 = .ok (.getfield 49, 3) := by decide +kernel
theorem dX2_drawEdge_8 : decode cX2_drawEdge 8 = .ok (.iload_n 1, 1) := by decide +kernel
theorem dX2_drawEdge_9 : decode cX2_drawEdge 9 = .ok (.invokevirtual 102, 3) := by decide +kernel
theorem dX2_drawEdge_12 : decode cX2_drawEdge 12 = .ok (.aload_n 0, 1) := by decide +kernel
theorem dX2_drawEdge_13 : decode cX2_drawEdge 13 = .ok (.getfield 40, 3) := by decide +kernel
theorem dX2_drawEdge_16 : decode cX2_drawEdge 16 = .ok (.aload_n 0, 1) := by decide +kernel
theorem dX2_drawEdge_17 : decode cX2_drawEdge 17 = .ok (.getfield 49, 3) := by decide +kernel
theorem dX2_drawEdge_20 : decode cX2_drawEdge 20 = .ok (.iload_n 2, 1) := by decide +kernel
theorem dX2_drawEdge_21 : decode cX2_drawEdge 21 = .ok (.invokevirtual 102, 3) := by decide +kernel
theorem dX2_drawEdge_24 : decode cX2_drawEdge 24 = .ok (.aload_n 0, 1) := by decide +kernel
theorem dX2_drawEdge_25 : decode cX2_drawEdge 25 = .ok (.dup, 1) := by decide +kernel
theorem dX2_drawEdge_26 : decode cX2_drawEdge 26 = .ok (.getfield 49, 3) := by decide +kernel
theorem dX2_drawEdge_29 : decode cX2_drawEdge 29 = .ok (.iconst 1, 1) := by decide +kernel
theorem dX2_drawEdge_30 : decode cX2_drawEdge 30 = .ok (.iadd, 1) := by decide +kernel
theorem dX2_drawEdge_31 : decode cX2_drawEdge 31 = .ok (.putfield 49, 3) := by decide +kernel
theorem dX2_drawEdge_34 : decode cX2_drawEdge 34 = .ok (.aload_n 0, 1) := by decide +kernel
theorem dX2_drawEdge_35 : decode cX2_drawEdge 35 = .ok (.iload_n 1, 1) := by decide +kernel
theorem dX2_drawEdge_36 : decode cX2_drawEdge 36 = .ok (.iload_n 2, 1) := by decide +kernel
theorem dX2_drawEdge_37 : decode cX2_drawEdge 37 = .ok (.invokevirtual 134, 3) := by decide +kernel
theorem dX2_drawEdge_40 : decode cX2_drawEdge 40 = .ok (.return_, 1) := by decide +kernel
theorem dX2_link_0 : decode cX2_link 0 = .ok (.aload_n 0, 1) := by decide +kernel
theorem dX2_link_1 : decode cX2_link 1 = .ok (.getfield 33, 3) := by decide +kernel
theorem dX2_link_4 : decode cX2_link 4 = .ok (.iload_n 1, 1) := by decide +kernel
theorem dX2_link_5 : decode cX2_link 5 = .ok (.aload_n 0, 1) := by decide +kernel
theorem dX2_link_6 : decode cX2_link 6 = .ok (.getfield 33, 3) := by decide +kernel
theorem dX2_link_9 : decode cX2_link 9 = .ok (.iload_n 1, 1) := by decide +kernel
theorem dX2_link_10 : decode cX2_link 10 = .ok (.invokevirtual 127, 3) := by decide +kernel
theorem dX2_link_13 : decode cX2_link 13 = .ok (.iconst 1, 1) := by decide +kernel
theorem dX2_link_14 : decode cX2_link 14 = .ok (.iload_n 2, 1) := by decide +kernel
theorem dX2_link_15 : decode cX2_link 15 = .ok (.ishl, 1) := by decide +kernel
theorem dX2_link_16 : decode cX2_link 16 = .ok (.ior, 1) := by decide +kernel
theorem dX2_link_17 : decode cX2_link 17 = .ok (.invokevirtual 102, 3) := by decide +kernel
theorem dX2_link_20 : decode cX2_link 20 = .ok (.aload_n 0, 1) := by decide +kernel
theorem dX2_link_21 : decode cX2_link 21 = .ok (.getfield 33, 3) := by decide +kernel
theorem dX2_link_24 : decode cX2_link 24 = .ok (.iload_n 2, 1) := by decide +kernel
theorem dX2_link_25 : decode cX2_link 25 = .ok (.aload_n 0, 1) := by decide +kernel
theorem dX2_link_26 : decode cX2_link 26 = .ok (.getfield 33, 3) := by decide +kernel
theorem dX2_link_29 : decode cX2_link 29 = .ok (.iload_n 2, 1) := by decide +kernel
theorem dX2_link_30 : decode cX2_link 30 = .ok (.invokevirtual 127, 3) := by decide +kernel
theorem dX2_link_33 : decode cX2_link 33 = .ok (.iconst 1, 1) := by decide +kernel
theorem dX2_link_34 : decode cX2_link 34 = .ok (.iload_n 1, 1) := by decide +kernel
theorem dX2_link_35 : decode cX2_link 35 = .ok (.ishl, 1) := by decide +kernel
theorem dX2_link_36 : decode cX2_link 36 = .ok (.ior, 1) := by decide +kernel
theorem dX2_link_37 : decode cX2_link 37 = .ok (.invokevirtual 102, 3) := by decide +kernel
theorem dX2_link_40 : decode cX2_link 40 = .ok (.return_, 1) := by decide +kernel
theorem dX2_unlink_0 : decode cX2_unlink 0 = .ok (.aload_n 0, 1) := by decide +kernel
theorem dX2_unlink_1 : decode cX2_unlink 1 = .ok (.getfield 33, 3) := by decide +kernel
theorem dX2_unlink_4 : decode cX2_unlink 4 = .ok (.iload_n 1, 1) := by decide +kernel
theorem dX2_unlink_5 : decode cX2_unlink 5 = .ok (.aload_n 0, 1) := by decide +kernel
theorem dX2_unlink_6 : decode cX2_unlink 6 = .ok (.getfield 33, 3) := by decide +kernel
theorem dX2_unlink_9 : decode cX2_unlink 9 = .ok (.iload_n 1, 1) := by decide +kernel
theorem dX2_unlink_10 : decode cX2_unlink 10 = .ok (.invokevirtual 127, 3) := by decide +kernel
theorem dX2_unlink_13 : decode cX2_unlink 13 = .ok (.iconst 1, 1) := by decide +kernel
theorem dX2_unlink_14 : decode cX2_unlink 14 = .ok (.iload_n 2, 1) := by decide +kernel
theorem dX2_unlink_15 : decode cX2_unlink 15 = .ok (.ishl, 1) := by decide +kernel
theorem dX2_unlink_16 : decode cX2_unlink 16 = .ok (.iconst (-1), 1) := by decide +kernel
theorem dX2_unlink_17 : decode cX2_unlink 17 = .ok (.ixor, 1) := by decide +kernel
theorem dX2_unlink_18 : decode cX2_unlink 18 = .ok (.iand, 1) := by decide +kernel
theorem dX2_unlink_19 : decode cX2_unlink 19 = .ok (.invokevirtual 102, 3) := by decide +kernel
theorem dX2_unlink_22 : decode cX2_unlink 22 = .ok (.aload_n 0, 1) := by decide +kernel
theorem dX2_unlink_23 : decode cX2_unlink 23 = .ok (.getfield 33, 3) := by decide +kernel
theorem dX2_unlink_26 : decode cX2_unlink 26 = .ok (.iload_n 2, 1) := by decide +kernel
theorem dX2_unlink_27 : decode cX2_unlink 27 = .ok (.aload_n 0, 1) := by decide +kernel
theorem dX2_unlink_28 : decode cX2_unlink 28 = .ok (.getfield 33, 3) := by decide +kernel
theorem dX2_unlink_31 : decode cX2_unlink 31 = .ok (.iload_n 2, 1) := by decide +kernel
theorem dX2_unlink_32 : decode cX2_unlink 32 = .ok (.invokevirtual 127, 3) := by decide +kernel
theorem dX2_unlink_35 : decode cX2_unlink 35 = .ok (.iconst 1, 1) := by decide +kernel
theorem dX2_unlink_36 : decode cX2_unlink 36 = .ok (.iload_n 1, 1) := by decide +kernel
theorem dX2_unlink_37 : decode cX2_unlink 37 = .ok (.ishl, 1) := by decide +kernel
theorem dX2_unlink_38 : decode cX2_unlink 38 = .ok (.iconst (-1), 1) := by decide +kernel
theorem dX2_unlink_39 : decode cX2_unlink 39 = .ok (.ixor, 1) := by decide +kernel
theorem dX2_unlink_40 : decode cX2_unlink 40 = .ok (.iand, 1) := by decide +kernel
theorem dX2_unlink_41 : decode cX2_unlink 41 = .ok (.invokevirtual 102, 3) := by decide +kernel
theorem dX2_unlink_44 : decode cX2_unlink 44 = .ok (.return_, 1) := by decide +kernel
theorem dX2_isLinked_0 : decode cX2_isLinked 0 = .ok (.aload_n 0, 1) := by decide +kernel
theorem dX2_isLinked_1 : decode cX2_isLinked 1 = .ok (.getfield 33, 3) := by decide +kernel
theorem dX2_isLinked_4 : decode cX2_isLinked 4 = .ok (.iload_n 1, 1) := by decide +kernel
theorem dX2_isLinked_5 : decode cX2_isLinked 5 = .ok (.invokevirtual 127, 3) := by decide +kernel
theorem dX2_isLinked_8 : decode cX2_isLinked 8 = .ok (.iload_n 2, 1) := by decide +kernel
theorem dX2_isLinked_9 : decode cX2_isLinked 9 = .ok (.ishr, 1) := by decide +kernel
theorem dX2_isLinked_10 : decode cX2_isLinked 10 = .ok (.iconst 1, 1) := by decide +kernel
theorem dX2_isLinked_11 : decode cX2_isLinked 11 = .ok (.iand, 1) := by decide +kernel
theorem dX2_isLinked_12 : decode cX2_isLinked 12 = .ok (.ifCond .eq 7, 3) := by decide +kernel
theorem dX2_isLinked_15 : decode cX2_isLinked 15 = .ok (.iconst 1, 1) := by decide +kernel
theorem dX2_isLinked_16 : decode cX2_isLinked 16 = .ok (.goto 4, 3) := by decide +kernel
theorem dX2_isLinked_19 : decode cX2_isLinked 19 = .ok (.iconst 0, 1) := by decide +kernel
theorem dX2_isLinked_20 : decode cX2_isLinked 20 = .ok (.ireturn, 1) := by decide +kernel
theorem dX2_splits_0 : decode cX2_splits 0 = .ok (.aload_n 0, 1) := by decide +kernel
theorem dX2_splits_1 : decode cX2_splits 1 = .ok (.iload_n 1, 1) := by decide +kernel
theorem dX2_splits_2 : decode cX2_splits 2 = .ok (.iload_n 2, 1) := by decide +kernel
theorem dX2_splits_3 : decode cX2_splits 3 = .ok (.iload_n 3, 1) := by decide +kernel
theorem dX2_splits_4 : decode cX2_splits 4 = .ok (.iload 4, 2) := by decide +kernel
theorem dX2_splits_6 : decode cX2_splits 6 = .ok (.invokevirtual 137, 3) := by decide +kernel
theorem dX2_splits_9 : decode cX2_splits 9 = .ok (.ifCond .eq 19, 3) := by decide +kernel
theorem dX2_splits_12 : decode cX2_splits 12 = .ok (.aload_n 0, 1) := by decide +kernel
theorem dX2_splits_13 : decode cX2_splits 13 = .ok (.iload_n 3, 1) := by decide +kernel
theorem dX2_splits_14 : decode cX2_splits 14 = .ok (.iload 4, 2) := by decide +kernel
theorem dX2_splits_16 : decode cX2_splits 16 = .ok (.iload_n 1, 1) := by decide +kernel
theorem dX2_splits_17 : decode cX2_splits 17 = .ok (.iload_n 2, 1) := by decide +kernel
theorem dX2_splits_18 : decode cX2_splits 18 = .ok (.invokevirtual 137, 3) := by decide +kernel
theorem dX2_splits_21 : decode cX2_splits 21 = .ok (.ifCond .eq 7, 3) := by decide +kernel
theorem dX2_splits_24 : decode cX2_splits 24 = .ok (.iconst 1, 1) := by decide +kernel
theorem dX2_splits_25 : decode cX2_splits 25 = .ok (.goto 4, 3) := by decide +kernel
theorem dX2_splits_28 : decode cX2_splits 28 = .ok (.iconst 0, 1) := by decide +kernel
theorem dX2_splits_29 : decode cX2_splits 29 = .ok (.ireturn, 1) := by decide +kernel
theorem dX2_parts_0 : decode cX2_parts 0 = .ok (.aload_n 0, 1) := by decide +kernel
theorem dX2_parts_1 : decode cX2_parts 1 = .ok (.getfield 20, 3) := by decide +kernel
theorem dX2_parts_4 : decode cX2_parts 4 = .ok (.iload_n 1, 1) := by decide +kernel
theorem dX2_parts_5 : decode cX2_parts 5 = .ok (.iload_n 2, 1) := by decide +kernel
theorem dX2_parts_6 : decode cX2_parts 6 = .ok (.invokevirtual 140, 3) := by decide +kernel
theorem dX2_parts_9 : decode cX2_parts 9 = .ok (.istore 5, 2) := by decide +kernel
theorem dX2_parts_11 : decode cX2_parts 11 = .ok (.aload_n 0, 1) := by decide +kernel
theorem dX2_parts_12 : decode cX2_parts 12 = .ok (.getfield 20, 3) := by decide +kernel
theorem dX2_parts_15 : decode cX2_parts 15 = .ok (.iload_n 2, 1) := by decide +kernel
theorem dX2_parts_16 : decode cX2_parts 16 = .ok (.iload_n 1, 1) := by decide +kernel
theorem dX2_parts_17 : decode cX2_parts 17 = .ok (.invokevirtual 140, 3) := by decide +kernel
theorem dX2_parts_20 : decode cX2_parts 20 = .ok (.istore 6, 2) := by decide +kernel
theorem dX2_parts_22 : decode cX2_parts 22 = .ok (.iload 5, 2) := by decide +kernel
theorem dX2_parts_24 : decode cX2_parts 24 = .ok (.iload_n 3, 1) := by decide +kernel
theorem dX2_parts_25 : decode cX2_parts 25 = .ok (.ishr, 1) := by decide +kernel
theorem dX2_parts_26 : decode cX2_parts 26 = .ok (.iload 6, 2) := by decide +kernel
theorem dX2_parts_28 : decode cX2_parts 28 = .ok (.iload 4, 2) := by decide +kernel
theorem dX2_parts_30 : decode cX2_parts 30 = .ok (.ishr, 1) := by decide +kernel
theorem dX2_parts_31 : decode cX2_parts 31 = .ok (.iand, 1) := by decide +kernel
theorem dX2_parts_32 : decode cX2_parts 32 = .ok (.iload 5, 2) := by decide +kernel
theorem dX2_parts_34 : decode cX2_parts 34 = .ok (.iload 4, 2) := by decide +kernel
theorem dX2_parts_36 : decode cX2_parts 36 = .ok (.ishr, 1) := by decide +kernel
theorem dX2_parts_37 : decode cX2_parts 37 = .ok (.iload 6, 2) := by decide +kernel
theorem dX2_parts_39 : decode cX2_parts 39 = .ok (.iload_n 3, 1) := by decide +kernel
theorem dX2_parts_40 : decode cX2_parts 40 = .ok (.ishr, 1) := by decide +kernel
theorem dX2_parts_41 : decode cX2_parts 41 = .ok (.iand, 1) := by decide +kernel
theorem dX2_parts_42 : decode cX2_parts 42 = .ok (.ior, 1) := by decide +kernel
theorem dX2_parts_43 : decode cX2_parts 43 = .ok (.iconst 1, 1) := by decide +kernel
theorem dX2_parts_44 : decode cX2_parts 44 = .ok (.iand, 1) := by decide +kernel
theorem dX2_parts_45 : decode cX2_parts 45 = .ok (.ifCond .eq 7, 3) := by decide +kernel
theorem dX2_parts_48 : decode cX2_parts 48 = .ok (.iconst 1, 1) := by decide +kernel
theorem dX2_parts_49 : decode cX2_parts 49 = .ok (.goto 4, 3) := by decide +kernel
theorem dX2_parts_52 : decode cX2_parts 52 = .ok (.iconst 0, 1) := by decide +kernel
theorem dX2_parts_53 : decode cX2_parts 53 = .ok (.ireturn, 1) := by decide +kernel
theorem dX2_findThirds_0 : decode cX2_findThirds 0 = .ok (.aload_n 0, 1) := by decide +kernel
theorem dX2_findThirds_1 : decode cX2_findThirds 1 = .ok (.getfield 24, 3) := by decide +kernel
theorem dX2_findThirds_4 : decode cX2_findThirds 4 = .ok (.invokevirtual 81, 3) := by decide +kernel
theorem dX2_findThirds_7 : decode cX2_findThirds 7 = .ok (.iconst 0, 1) := by decide +kernel
theorem dX2_findThirds_8 : decode cX2_findThirds 8 = .ok (.istore_n 1, 1) := by decide +kernel
theorem dX2_findThirds_9 : decode cX2_findThirds 9 = .ok (.iload_n 1, 1) := by decide +kernel
theorem dX2_findThirds_10 : decode cX2_findThirds 10 = .ok (.aload_n 0, 1) := by decide +kernel
theorem dX2_findThirds_11 : decode cX2_findThirds 11 = .ok (.getfield 9, 3) := by decide +kernel
theorem dX2_findThirds_14 : decode cX2_findThirds 14 = .ok (.invokevirtual 84, 3) := by decide +kernel
theorem dX2_findThirds_17 : decode cX2_findThirds 17 = .ok (.if_icmp .ge 52, 3) := by decide +kernel
theorem dX2_findThirds_20 : decode cX2_findThirds 20 = .ok (.iconst 0, 1) := by decide +kernel
theorem dX2_findThirds_21 : decode cX2_findThirds 21 = .ok (.istore_n 2, 1) := by decide +kernel
theorem dX2_findThirds_22 : decode cX2_findThirds 22 = .ok (.iload_n 2, 1) := by decide +kernel
theorem dX2_findThirds_23 : decode cX2_findThirds 23 = .ok (.aload_n 0, 1) := by decide +kernel
theorem dX2_findThirds_24 : decode cX2_findThirds 24 = .ok (.getfield 9, 3) := by decide +kernel
theorem dX2_findThirds_27 : decode cX2_findThirds 27 = .ok (.invokevirtual 84, 3) := by decide +kernel
theorem dX2_findThirds_30 : decode cX2_findThirds 30 = .ok (.if_icmp .ge 33, 3) := by decide +kernel
theorem dX2_findThirds_33 : decode cX2_findThirds 33 = .ok (.aload_n 0, 1) := by decide +kernel
theorem dX2_findThirds_34 : decode cX2_findThirds 34 = .ok (.iload_n 1, 1) := by decide +kernel
theorem dX2_findThirds_35 : decode cX2_findThirds 35 = .ok (.iload_n 2, 1) := by decide +kernel
theorem dX2_findThirds_36 : decode cX2_findThirds 36 = .ok (.invokevirtual 117, 3) := by decide +kernel
theorem dX2_findThirds_39 : decode cX2_findThirds 39 = .ok (.ifCond .eq 18, 3) := by decide +kernel
theorem dX2_findThirds_42 : decode cX2_findThirds 42 = .ok (.aload_n 0, 1) := by decide +kernel
theorem dX2_findThirds_43 : decode cX2_findThirds 43 = .ok (.getfield 24, 3) := by decide +kernel
theorem dX2_findThirds_46 : decode cX2_findThirds 46 = .ok (.iload_n 1, 1) := by decide +kernel
theorem dX2_findThirds_47 : decode cX2_findThirds 47 = .ok (.iload_n 2, 1) := by decide +kernel
theorem dX2_findThirds_48 : decode cX2_findThirds 48 = .ok (.aload_n 0, 1) := by decide +kernel
theorem dX2_findThirds_49 : decode cX2_findThirds 49 = .ok (.iload_n 1, 1) := by decide +kernel
theorem dX2_findThirds_50 : decode cX2_findThirds 50 = .ok (.iload_n 2, 1) := by decide +kernel
theorem dX2_findThirds_51 : decode cX2_findThirds 51 = .ok (.invokevirtual 143, 3) := by decide +kernel
theorem dX2_findThirds_54 : decode cX2_findThirds 54 = .ok (.invokevirtual 98, 3) := by decide +kernel
theorem dX2_findThirds_57 : decode cX2_findThirds 57 = .ok (.iinc 2 1, 3) := by decide +kernel
theorem dX2_findThirds_60 : decode cX2_findThirds 60 = .ok (.goto (-38), 3) := by decide +kernel
theorem dX2_findThirds_63 : decode cX2_findThirds 63 = .ok (.iinc 1 1, 3) := by decide +kernel
theorem dX2_findThirds_66 : decode cX2_findThirds 66 = .ok (.goto (-57), 3) := by decide +kernel
theorem dX2_findThirds_69 : decode cX2_findThirds 69 = .ok (.return_, 1) := by decide +kernel
theorem dX2_emptyCorner_0 : decode cX2_emptyCorner 0 = .ok (.aload_n 0, 1) := by decide +kernel
theorem dX2_emptyCorner_1 : decode cX2_emptyCorner 1 = .ok (.getfield 33, 3) := by decide +kernel
theorem dX2_emptyCorner_4 : decode cX2_emptyCorner 4 = .ok (.iload_n 1, 1) := by decide +kernel
theorem dX2_emptyCorner_5 : decode cX2_emptyCorner 5 = .ok (.invokevirtual 127, 3) := by decide +kernel
theorem dX2_emptyCorner_8 : decode cX2_emptyCorner 8 = .ok (.aload_n 0, 1) := by decide +kernel
theorem dX2_emptyCorner_9 : decode cX2_emptyCorner 9 = .ok (.getfield 33, 3) := by decide +kernel
theorem dX2_emptyCorner_12 : decode cX2_emptyCorner 12 = .ok (.iload_n 2, 1) := by decide +kernel
theorem dX2_emptyCorner_13 : decode cX2_emptyCorner 13 = .ok (.invokevirtual 127, 3) := by decide +kernel
theorem dX2_emptyCorner_16 : decode cX2_emptyCorner 16 = .ok (.iand, 1) := by decide +kernel
theorem dX2_emptyCorner_17 : decode cX2_emptyCorner 17 = .ok (.aload_n 0, 1) := by decide +kernel
theorem dX2_emptyCorner_18 : decode cX2_emptyCorner 18 = .ok (.getfield 20, 3) := by decide +kernel
theorem dX2_emptyCorner_21 : decode cX2_emptyCorner 21 = .ok (.iload_n 1, 1) := by decide +kernel
theorem dX2_emptyCorner_22 : decode cX2_emptyCorner 22 = .ok (.iload_n 2, 1) := by decide +kernel
theorem dX2_emptyCorner_23 : decode cX2_emptyCorner 23 = .ok (.invokevirtual 140, 3) := by decide +kernel
theorem dX2_emptyCorner_26 : decode cX2_emptyCorner 26 = .ok (.iand, 1) := by decide +kernel
theorem dX2_emptyCorner_27 : decode cX2_emptyCorner 27 = .ok (.istore_n 3, 1) := by decide +kernel
theorem dX2_emptyCorner_28 : decode cX2_emptyCorner 28 = .ok (.iconst 0, 1) := by decide +kernel
theorem dX2_emptyCorner_29 : decode cX2_emptyCorner 29 = .ok (.istore 4, 2) := by decide +kernel
theorem dX2_emptyCorner_31 : decode cX2_emptyCorner 31 = .ok (.iload 4, 2) := by decide +kernel
theorem dX2_emptyCorner_33 : decode cX2_emptyCorner 33 = .ok (.aload_n 0, 1) := by decide +kernel
theorem dX2_emptyCorner_34 : decode cX2_emptyCorner 34 = .ok (.getfield 9, 3) := by decide +kernel
theorem dX2_emptyCorner_37 : decode cX2_emptyCorner 37 = .ok (.invokevirtual 84, 3) := by decide +kernel
theorem dX2_emptyCorner_40 : decode cX2_emptyCorner 40 = .ok (.if_icmp .ge 59, 3) := by decide +kernel
theorem dX2_emptyCorner_43 : decode cX2_emptyCorner 43 = .ok (.aload_n 0, 1) := by decide +kernel
theorem dX2_emptyCorner_44 : decode cX2_emptyCorner 44 = .ok (.getfield 20, 3) := by decide +kernel
theorem dX2_emptyCorner_47 : decode cX2_emptyCorner 47 = .ok (.iload_n 1, 1) := by decide +kernel
theorem dX2_emptyCorner_48 : decode cX2_emptyCorner 48 = .ok (.iload_n 2, 1) := by decide +kernel
theorem dX2_emptyCorner_49 : decode cX2_emptyCorner 49 = .ok (.invokevirtual 140, 3) := by decide +kernel
theorem dX2_emptyCorner_52 : decode cX2_emptyCorner 52 = .ok (.aload_n 0, 1) := by decide +kernel
theorem dX2_emptyCorner_53 : decode cX2_emptyCorner 53 = .ok (.getfield 20, 3) := by decide +kernel
theorem dX2_emptyCorner_56 : decode cX2_emptyCorner 56 = .ok (.iload_n 2, 1) := by decide +kernel
theorem dX2_emptyCorner_57 : decode cX2_emptyCorner 57 = .ok (.iload 4, 2) := by decide +kernel
theorem dX2_emptyCorner_59 : decode cX2_emptyCorner 59 = .ok (.invokevirtual 140, 3) := by decide +kernel
theorem dX2_emptyCorner_62 : decode cX2_emptyCorner 62 = .ok (.iand, 1) := by decide +kernel
theorem dX2_emptyCorner_63 : decode cX2_emptyCorner 63 = .ok (.aload_n 0, 1) := by decide +kernel
theorem dX2_emptyCorner_64 : decode cX2_emptyCorner 64 = .ok (.getfield 20, 3) := by decide +kernel
theorem dX2_emptyCorner_67 : decode cX2_emptyCorner 67 = .ok (.iload 4, 2) := by decide +kernel
theorem dX2_emptyCorner_69 : decode cX2_emptyCorner 69 = .ok (.iload_n 1, 1) := by decide +kernel
theorem dX2_emptyCorner_70 : decode cX2_emptyCorner 70 = .ok (.invokevirtual 140, 3) := by decide +kernel
theorem dX2_emptyCorner_73 : decode cX2_emptyCorner 73 = .ok (.iand, 1) := by decide +kernel
theorem dX2_emptyCorner_74 : decode cX2_emptyCorner 74 = .ok (.istore 5, 2) := by decide +kernel
theorem dX2_emptyCorner_76 : decode cX2_emptyCorner 76 = .ok (.iload_n 3, 1) := by decide +kernel
theorem dX2_emptyCorner_77 : decode cX2_emptyCorner 77 = .ok (.iload 4, 2) := by decide +kernel
theorem dX2_emptyCorner_79 : decode cX2_emptyCorner 79 = .ok (.ishr, 1) := by decide +kernel
theorem dX2_emptyCorner_80 : decode cX2_emptyCorner 80 = .ok (.iconst 1, 1) := by decide +kernel
theorem dX2_emptyCorner_81 : decode cX2_emptyCorner 81 = .ok (.iand, 1) := by decide +kernel
theorem dX2_emptyCorner_82 : decode cX2_emptyCorner 82 = .ok (.ifCond .eq 11, 3) := by decide +kernel
theorem dX2_emptyCorner_85 : decode cX2_emptyCorner 85 = .ok (.iload 5, 2) := by decide +kernel
theorem dX2_emptyCorner_87 : decode cX2_emptyCorner 87 = .ok (.ifCond .ne 6, 3) := by decide +kernel
theorem dX2_emptyCorner_90 : decode cX2_emptyCorner 90 = .ok (.iload 4, 2) := by decide +kernel
theorem dX2_emptyCorner_92 : decode cX2_emptyCorner 92 = .ok (.ireturn, 1) := by decide +kernel
theorem dX2_emptyCorner_93 : decode cX2_emptyCorner 93 = .ok (.iinc 4 1, 3) := by decide +kernel
theorem dX2_emptyCorner_96 : decode cX2_emptyCorner 96 = .ok (.goto (-65), 3) := by decide +kernel
theorem dX2_emptyCorner_99 : decode cX2_emptyCorner 99 = .ok (.iconst (-1), 1) := by decide +kernel
theorem dX2_emptyCorner_100 : decode cX2_emptyCorner 100 = .ok (.ireturn, 1) := by decide +kernel
theorem dX2_flipBadEdges_0 : decode cX2_flipBadEdges 0 = .ok (.iconst 0, 1) := by decide +kernel
theorem dX2_flipBadEdges_1 : decode cX2_flipBadEdges 1 = .ok (.istore_n 1, 1) := by decide +kernel
theorem dX2_flipBadEdges_2 : decode cX2_flipBadEdges 2 = .ok (.iconst 0, 1) := by decide +kernel
theorem dX2_flipBadEdges_3 : decode cX2_flipBadEdges 3 = .ok (.istore_n 2, 1) := by decide +kernel
theorem dX2_flipBadEdges_4 : decode cX2_flipBadEdges 4 = .ok (.iload_n 2, 1) := by decide +kernel
theorem dX2_flipBadEdges_5 : decode cX2_flipBadEdges 5 = .ok (.aload_n 0, 1) := by decide +kernel
theorem dX2_flipBadEdges_6 : decode cX2_flipBadEdges 6 = .ok (.getfield 9, 3) := by decide +kernel
theorem dX2_flipBadEdges_9 : decode cX2_flipBadEdges 9 = .ok (.invokevirtual 84, 3) := by decide +kernel
theorem dX2_flipBadEdges_12 : decode cX2_flipBadEdges 12 = .ok (.if_icmp .ge 68, 3) := by decide +kernel
theorem dX2_flipBadEdges_15 : decode cX2_flipBadEdges 15 = .ok (.iload_n 2, 1) := by decide +kernel
theorem dX2_flipBadEdges_16 : decode cX2_flipBadEdges 16 = .ok (.iconst 1, 1) := by decide +kernel
theorem dX2_flipBadEdges_17 : decode cX2_flipBadEdges 17 = .ok (.iadd, 1) := by decide +kernel
theorem dX2_flipBadEdges_18 : decode cX2_flipBadEdges 18 = .ok (.istore_n 3, 1) := by decide +kernel
theorem dX2_flipBadEdges_19 : decode cX2_flipBadEdges 19 = .ok (.iload_n 3, 1) := by decide +kernel
theorem dX2_flipBadEdges_20 : decode cX2_flipBadEdges 20 = .ok (.aload_n 0, 1) := by decide +kernel
theorem dX2_flipBadEdges_21 : decode cX2_flipBadEdges 21 = .ok (.getfield 9, 3) := by decide +kernel
theorem dX2_flipBadEdges_24 : decode cX2_flipBadEdges 24 = .ok (.invokevirtual 84, 3) := by decide +kernel
theorem dX2_flipBadEdges_27 : decode cX2_flipBadEdges 27 = .ok (.if_icmp .ge 47, 3) := by decide +kernel
theorem dX2_flipBadEdges_30 : decode cX2_flipBadEdges 30 = .ok (.aload_n 0, 1) := by decide +kernel
theorem dX2_flipBadEdges_31 : decode cX2_flipBadEdges 31 = .ok (.iload_n 2, 1) := by decide +kernel
theorem dX2_flipBadEdges_32 : decode cX2_flipBadEdges 32 = .ok (.iload_n 3, 1) := by decide +kernel
theorem dX2_flipBadEdges_33 : decode cX2_flipBadEdges 33 = .ok (.invokevirtual 146, 3) := by decide +kernel
theorem dX2_flipBadEdges_36 : decode cX2_flipBadEdges 36 = .ok (.ifCond .eq 32, 3) := by decide +kernel
theorem dX2_flipBadEdges_39 : decode cX2_flipBadEdges 39 = .ok (.aload_n 0, 1) := by decide +kernel
theorem dX2_flipBadEdges_40 : decode cX2_flipBadEdges 40 = .ok (.iload_n 2, 1) := by decide +kernel
theorem dX2_flipBadEdges_41 : decode cX2_flipBadEdges 41 = .ok (.iload_n 3, 1) := by decide +kernel
theorem dX2_flipBadEdges_42 : decode cX2_flipBadEdges 42 = .ok (.invokevirtual 149, 3) := by decide +kernel
theorem dX2_flipBadEdges_45 : decode cX2_flipBadEdges 45 = .ok (.ifCond .ne 23, 3) := by decide +kernel
theorem dX2_flipBadEdges_48 : decode cX2_flipBadEdges 48 = .ok (.aload_n 0, 1) := by decide +kernel
theorem dX2_flipBadEdges_49 : decode cX2_flipBadEdges 49 = .ok (.getfield 9, 3) := by decide +kernel
theorem dX2_flipBadEdges_52 : decode cX2_flipBadEdges 52 = .ok (.iload_n 2, 1) := by decide +kernel
theorem dX2_flipBadEdges_53 : decode cX2_flipBadEdges 53 = .ok (.iload_n 3, 1) := by decide +kernel
theorem dX2_flipBadEdges_54 : decode cX2_flipBadEdges 54 = .ok (.invokevirtual 152, 3) := by decide +kernel
theorem dX2_flipBadEdges_57 : decode cX2_flipBadEdges 57 = .ok (.ifCond .ne 11, 3) := by decide +kernel
theorem dX2_flipBadEdges_60 : decode cX2_flipBadEdges 60 = .ok (.aload_n 0, 1) := by decide +kernel
theorem dX2_flipBadEdges_61 : decode cX2_flipBadEdges 61 = .ok (.iload_n 2, 1) := by decide +kernel
theorem dX2_flipBadEdges_62 : decode cX2_flipBadEdges 62 = .ok (.iload_n 3, 1) := by decide +kernel
theorem dX2_flipBadEdges_63 : decode cX2_flipBadEdges 63 = .ok (.invokevirtual 155, 3) := by decide +kernel
theorem dX2_flipBadEdges_66 : decode cX2_flipBadEdges 66 = .ok (.iconst 1, 1) := by decide +kernel
theorem dX2_flipBadEdges_67 : decode cX2_flipBadEdges 67 = .ok (.istore_n 1, 1) := by decide +kernel
theorem dX2_flipBadEdges_68 : decode cX2_flipBadEdges 68 = .ok (.iinc 3 1, 3) := by decide +kernel
theorem dX2_flipBadEdges_71 : decode cX2_flipBadEdges 71 = .ok (.goto (-52), 3) := by decide +kernel
theorem dX2_flipBadEdges_74 : decode cX2_flipBadEdges 74 = .ok (.iinc 2 1, 3) := by decide +kernel
theorem dX2_flipBadEdges_77 : decode cX2_flipBadEdges 77 = .ok (.goto (-73), 3) := by decide +kernel
theorem dX2_flipBadEdges_80 : decode cX2_flipBadEdges 80 = .ok (.iload_n 1, 1) := by decide +kernel
theorem dX2_flipBadEdges_81 : decode cX2_flipBadEdges 81 = .ok (.ireturn, 1) := by decide +kernel
theorem dX2_flip_0 : decode cX2_flip 0 = .ok (.aload_n 0, 1) := by decide +kernel
theorem dX2_flip_1 : decode cX2_flip 1 = .ok (.getfield 24, 3) := by decide +kernel
theorem dX2_flip_4 : decode cX2_flip 4 = .ok (.iload_n 1, 1) := by decide +kernel
theorem dX2_flip_5 : decode cX2_flip 5 = .ok (.iload_n 2, 1) := by decide +kernel
theorem dX2_flip_6 : decode cX2_flip 6 = .ok (.invokevirtual 140, 3) := by decide +kernel
theorem dX2_flip_9 : decode cX2_flip 9 = .ok (.istore_n 3, 1) := by decide +kernel
theorem dX2_flip_10 : decode cX2_flip 10 = .ok (.aload_n 0, 1) := by decide +kernel
theorem dX2_flip_11 : decode cX2_flip 11 = .ok (.getfield 24, 3) := by decide +kernel
theorem dX2_flip_14 : decode cX2_flip 14 = .ok (.iload_n 2, 1) := by decide +kernel
theorem dX2_flip_15 : decode cX2_flip 15 = .ok (.iload_n 1, 1) := by decide +kernel
theorem dX2_flip_16 : decode cX2_flip 16 = .ok (.invokevirtual 140, 3) := by decide +kernel
theorem dX2_flip_19 : decode cX2_flip 19 = .ok (.istore 4, 2) := by decide +kernel
theorem dX2_flip_21 : decode cX2_flip 21 = .ok (.aload_n 0, 1) := by decide +kernel
theorem dX2_flip_22 : decode cX2_flip 22 = .ok (.iload_n 1, 1) := by decide +kernel
theorem dX2_flip_23 : decode cX2_flip 23 = .ok (.iload_n 2, 1) := by decide +kernel
theorem dX2_flip_24 : decode cX2_flip 24 = .ok (.invokevirtual 158, 3) := by decide +kernel
theorem dX2_flip_27 : decode cX2_flip 27 = .ok (.aload_n 0, 1) := by decide +kernel
theorem dX2_flip_28 : decode cX2_flip 28 = .ok (.iload_n 3, 1) := by decide +kernel
theorem dX2_flip_29 : decode cX2_flip 29 = .ok (.iload 4, 2) := by decide +kernel
theorem dX2_flip_31 : decode cX2_flip 31 = .ok (.invokevirtual 134, 3) := by decide +kernel
theorem dX2_flip_34 : decode cX2_flip 34 = .ok (.aload_n 0, 1) := by decide +kernel
theorem dX2_flip_35 : decode cX2_flip 35 = .ok (.getfield 24, 3) := by decide +kernel
theorem dX2_flip_38 : decode cX2_flip 38 = .ok (.iload_n 1, 1) := by decide +kernel
theorem dX2_flip_39 : decode cX2_flip 39 = .ok (.iload_n 2, 1) := by decide +kernel
theorem dX2_flip_40 : decode cX2_flip 40 = .ok (.iconst (-1), 1) := by decide +kernel
theorem dX2_flip_41 : decode cX2_flip 41 = .ok (.invokevirtual 98, 3) := by decide +kernel
theorem dX2_flip_44 : decode cX2_flip 44 = .ok (.aload_n 0, 1) := by decide +kernel
theorem dX2_flip_45 : decode cX2_flip 45 = .ok (.getfield 24, 3) := by decide +kernel
theorem dX2_flip_48 : decode cX2_flip 48 = .ok (.iload_n 2, 1) := by decide +kernel
theorem dX2_flip_49 : decode cX2_flip 49 = .ok (.iload_n 1, 1) := by decide +kernel
theorem dX2_flip_50 : decode cX2_flip 50 = .ok (.iconst (-1), 1) := by decide +kernel
theorem dX2_flip_51 : decode cX2_flip 51 = .ok (.invokevirtual 98, 3) := by decide +kernel
theorem dX2_flip_54 : decode cX2_flip 54 = .ok (.aload_n 0, 1) := by decide +kernel
theorem dX2_flip_55 : decode cX2_flip 55 = .ok (.getfield 24, 3) := by decide +kernel
theorem dX2_flip_58 : decode cX2_flip 58 = .ok (.iload_n 1, 1) := by decide +kernel
theorem dX2_flip_59 : decode cX2_flip 59 = .ok (.iload 4, 2) := by decide +kernel
theorem dX2_flip_61 : decode cX2_flip 61 = .ok (.iload_n 3, 1) := by decide +kernel
theorem dX2_flip_62 : decode cX2_flip 62 = .ok (.invokevirtual 161, 3) := by decide +kernel
theorem dX2_flip_65 : decode cX2_flip 65 = .ok (.aload_n 0, 1) := by decide +kernel
theorem dX2_flip_66 : decode cX2_flip 66 = .ok (.getfield 24, 3) := by decide +kernel
theorem dX2_flip_69 : decode cX2_flip 69 = .ok (.iload 4, 2) := by decide +kernel
theorem dX2_flip_71 : decode cX2_flip 71 = .ok (.iload_n 2, 1) := by decide +kernel
theorem dX2_flip_72 : decode cX2_flip 72 = .ok (.iload_n 3, 1) := by decide +kernel
theorem dX2_flip_73 : decode cX2_flip 73 = .ok (.invokevirtual 161, 3) := by decide +kernel
theorem dX2_flip_76 : decode cX2_flip 76 = .ok (.return_, 1) := by decide +kernel
theorem dX2_isInner_0 : decode cX2_isInner 0 = .ok (.aload_n 0, 1) := by decide +kernel
theorem dX2_isInner_1 : decode cX2_isInner 1 = .ok (.getfield 24, 3) := by decide +kernel
theorem dX2_isInner_4 : decode cX2_isInner 4 = .ok (.iload_n 1, 1) := by decide +kernel
theorem dX2_isInner_5 : decode cX2_isInner 5 = .ok (.iload_n 2, 1) := by decide +kernel
theorem dX2_isInner_6 : decode cX2_isInner 6 = .ok (.invokevirtual 140, 3) := by decide +kernel
theorem dX2_isInner_9 : decode cX2_isInner 9 = .ok (.iconst (-1), 1) := by decide +kernel
theorem dX2_isInner_10 : decode cX2_isInner 10 = .ok (.if_icmp .eq 20, 3) := by decide +kernel
theorem dX2_isInner_13 : decode cX2_isInner 13 = .ok (.aload_n 0, 1) := by decide +kernel
theorem dX2_isInner_14 : decode cX2_isInner 14 = .ok (.getfield 24, 3) := by decide +kernel
theorem dX2_isInner_17 : decode cX2_isInner 17 = .ok (.iload_n 2, 1) := by decide +kernel
theorem dX2_isInner_18 : decode cX2_isInner 18 = .ok (.iload_n 1, 1) := by decide +kernel
theorem dX2_isInner_19 : decode cX2_isInner 19 = .ok (.invokevirtual 140, 3) := by decide +kernel
theorem dX2_isInner_22 : decode cX2_isInner 22 = .ok (.iconst (-1), 1) := by decide +kernel
theorem dX2_isInner_23 : decode cX2_isInner 23 = .ok (.if_icmp .eq 7, 3) := by decide +kernel
theorem dX2_isInner_26 : decode cX2_isInner 26 = .ok (.iconst 1, 1) := by decide +kernel
theorem dX2_isInner_27 : decode cX2_isInner 27 = .ok (.goto 4, 3) := by decide +kernel
theorem dX2_isInner_30 : decode cX2_isInner 30 = .ok (.iconst 0, 1) := by decide +kernel
theorem dX2_isInner_31 : decode cX2_isInner 31 = .ok (.ireturn, 1) := by decide +kernel
theorem dX2_passesCircle_0 : decode cX2_passesCircle 0 = .ok (.aload_n 0, 1) := by decide +kernel
theorem dX2_passesCircle_1 : decode cX2_passesCircle 1 = .ok (.getfield 24, 3) := by decide +kernel
theorem dX2_passesCircle_4 : decode cX2_passesCircle 4 = .ok (.iload_n 1, 1) := by decide +kernel
theorem dX2_passesCircle_5 : decode cX2_passesCircle 5 = .ok (.iload_n 2, 1) := by decide +kernel
theorem dX2_passesCircle_6 : decode cX2_passesCircle 6 = .ok (.invokevirtual 140, 3) := by decide +kernel
theorem dX2_passesCircle_9 : decode cX2_passesCircle 9 = .ok (.istore_n 3, 1) := by decide +kernel
theorem dX2_passesCircle_10 : decode cX2_passesCircle 10 = .ok (.aload_n 0, 1) := by decide +kernel
theorem dX2_passesCircle_11 : decode cX2_passesCircle 11 = .ok (.getfield 24, 3) := by decide +kernel
theorem dX2_passesCircle_14 : decode cX2_passesCircle 14 = .ok (.iload_n 2, 1) := by decide +kernel
theorem dX2_passesCircle_15 : decode cX2_passesCircle 15 = .ok (.iload_n 1, 1) := by decide +kernel
theorem dX2_passesCircle_16 : decode cX2_passesCircle 16 = .ok (.invokevirtual 140, 3) := by decide +kernel
theorem dX2_passesCircle_19 : decode cX2_passesCircle 19 = .ok (.istore 4, 2) := by decide +kernel
theorem dX2_passesCircle_21 : decode cX2_passesCircle 21 = .ok (.aload_n 0, 1) := by decide +kernel
theorem dX2_passesCircle_22 : decode cX2_passesCircle 22 = .ok (.getfield 9, 3) := by decide +kernel
theorem dX2_passesCircle_25 : decode cX2_passesCircle 25 = .ok (.iload_n 1, 1) := by decide +kernel
theorem dX2_passesCircle_26 : decode cX2_passesCircle 26 = .ok (.iload_n 2, 1) := by decide +kernel
theorem dX2_passesCircle_27 : decode cX2_passesCircle 27 = .ok (.iload_n 3, 1) := by decide +kernel
theorem dX2_passesCircle_28 : decode cX2_passesCircle 28 = .ok (.iload 4, 2) := by decide +kernel
theorem dX2_passesCircle_30 : decode cX2_passesCircle 30 = .ok (.invokevirtual 164, 3) := by decide +kernel
theorem dX2_passesCircle_33 : decode cX2_passesCircle 33 = .ok (.istore 5, 2) := by decide +kernel
theorem dX2_passesCircle_35 : decode cX2_passesCircle 35 = .ok (.iload 5, 2) := by decide +kernel
theorem dX2_passesCircle_37 : decode cX2_passesCircle 37 = .ok (.ifCond .lt 22, 3) := by decide +kernel
theorem dX2_passesCircle_40 : decode cX2_passesCircle 40 = .ok (.iload 5, 2) := by decide +kernel
theorem dX2_passesCircle_42 : decode cX2_passesCircle 42 = .ok (.ifCond .ne 21, 3) := by decide +kernel
theorem dX2_passesCircle_45 : decode cX2_passesCircle 45 = .ok (.iload_n 3, 1) := by decide +kernel
theorem dX2_passesCircle_46 : decode cX2_passesCircle 46 = .ok (.iload 4, 2) := by decide +kernel
theorem dX2_passesCircle_48 : decode cX2_passesCircle 48 = .ok (.invokestatic 168, 3) := by decide +kernel
theorem dX2_passesCircle_51 : decode cX2_passesCircle 51 = .ok (.iload_n 1, 1) := by decide +kernel
theorem dX2_passesCircle_52 : decode cX2_passesCircle 52 = .ok (.iload_n 2, 1) := by decide +kernel
theorem dX2_passesCircle_53 : decode cX2_passesCircle 53 = .ok (.invokestatic 168, 3) := by decide +kernel
theorem dX2_passesCircle_56 : decode cX2_passesCircle 56 = .ok (.if_icmp .le 7, 3) := by decide +kernel
theorem dX2_passesCircle_59 : decode cX2_passesCircle 59 = .ok (.iconst 1, 1) := by decide +kernel
theorem dX2_passesCircle_60 : decode cX2_passesCircle 60 = .ok (.goto 4, 3) := by decide +kernel
theorem dX2_passesCircle_63 : decode cX2_passesCircle 63 = .ok (.iconst 0, 1) := by decide +kernel
theorem dX2_passesCircle_64 : decode cX2_passesCircle 64 = .ok (.ireturn, 1) := by decide +kernel
theorem dX2_numberEdges_0 : decode cX2_numberEdges 0 = .ok (.aload_n 0, 1) := by decide +kernel
theorem dX2_numberEdges_1 : decode cX2_numberEdges 1 = .ok (.iconst 0, 1) := by decide +kernel
theorem dX2_numberEdges_2 : decode cX2_numberEdges 2 = .ok (.putfield 49, 3) := by decide +kernel
theorem dX2_numberEdges_5 : decode cX2_numberEdges 5 = .ok (.iconst 0, 1) := by decide +kernel
theorem dX2_numberEdges_6 : decode cX2_numberEdges 6 = .ok (.istore_n 1, 1) := by decide +kernel
theorem dX2_numberEdges_7 : decode cX2_numberEdges 7 = .ok (.iload_n 1, 1) := by decide +kernel
theorem dX2_numberEdges_8 : decode cX2_numberEdges 8 = .ok (.aload_n 0, 1) := by decide +kernel
theorem dX2_numberEdges_9 : decode cX2_numberEdges 9 = .ok (.getfield 9, 3) := by decide +kernel
theorem dX2_numberEdges_12 : decode cX2_numberEdges 12 = .ok (.invokevirtual 84, 3) := by decide +kernel
theorem dX2_numberEdges_15 : decode cX2_numberEdges 15 = .ok (.if_icmp .ge 73, 3) := by decide +kernel
theorem dX2_numberEdges_18 : decode cX2_numberEdges 18 = .ok (.iload_n 1, 1) := by decide +kernel
theorem dX2_numberEdges_19 : decode cX2_numberEdges 19 = .ok (.iconst 1, 1) := by decide +kernel
theorem dX2_numberEdges_20 : decode cX2_numberEdges 20 = .ok (.iadd, 1) := by decide +kernel
theorem dX2_numberEdges_21 : decode cX2_numberEdges 21 = .ok (.istore_n 2, 1) := by decide +kernel
theorem dX2_numberEdges_22 : decode cX2_numberEdges 22 = .ok (.iload_n 2, 1) := by decide +kernel
theorem dX2_numberEdges_23 : decode cX2_numberEdges 23 = .ok (.aload_n 0, 1) := by decide +kernel
theorem dX2_numberEdges_24 : decode cX2_numberEdges 24 = .ok (.getfield 9, 3) := by decide +kernel
theorem dX2_numberEdges_27 : decode cX2_numberEdges 27 = .ok (.invokevirtual 84, 3) := by decide +kernel
theorem dX2_numberEdges_30 : decode cX2_numberEdges 30 = .ok (.if_icmp .ge 52, 3) := by decide +kernel
theorem dX2_numberEdges_33 : decode cX2_numberEdges 33 = .ok (.aload_n 0, 1) := by decide +kernel
theorem dX2_numberEdges_34 : decode cX2_numberEdges 34 = .ok (.iload_n 1, 1) := by decide +kernel
theorem dX2_numberEdges_35 : decode cX2_numberEdges 35 = .ok (.iload_n 2, 1) := by decide +kernel
theorem dX2_numberEdges_36 : decode cX2_numberEdges 36 = .ok (.invokevirtual 117, 3) := by decide +kernel
theorem dX2_numberEdges_39 : decode cX2_numberEdges 39 = .ok (.ifCond .eq 37, 3) := by decide +kernel
theorem dX2_numberEdges_42 : decode cX2_numberEdges 42 = .ok (.aload_n 0, 1) := by decide +kernel
theorem dX2_numberEdges_43 : decode cX2_numberEdges 43 = .ok (.getfield 37, 3) := by decide +kernel
theorem dX2_numberEdges_46 : decode cX2_numberEdges 46 = .ok (.aload_n 0, 1) := by decide +kernel
theorem dX2_numberEdges_47 : decode cX2_numberEdges 47 = .ok (.getfield 49, 3) := by decide +kernel
theorem dX2_numberEdges_50 : decode cX2_numberEdges 50 = .ok (.iload_n 1, 1) := by decide +kernel
theorem dX2_numberEdges_51 : decode cX2_numberEdges 51 = .ok (.invokevirtual 102, 3) := by decide +kernel
theorem dX2_numberEdges_54 : decode cX2_numberEdges 54 = .ok (.aload_n 0, 1) := by decide +kernel
theorem dX2_numberEdges_55 : decode cX2_numberEdges 55 = .ok (.getfield 40, 3) := by decide +kernel
theorem dX2_numberEdges_58 : decode cX2_numberEdges 58 = .ok (.aload_n 0, 1) := by decide +kernel
theorem dX2_numberEdges_59 : decode cX2_numberEdges 59 = .ok (.getfield 49, 3) := by decide +kernel
theorem dX2_numberEdges_62 : decode cX2_numberEdges 62 = .ok (.iload_n 2, 1) := by decide +kernel
theorem dX2_numberEdges_63 : decode cX2_numberEdges 63 = .ok (.invokevirtual 102, 3) := by decide +kernel
theorem dX2_numberEdges_66 : decode cX2_numberEdges 66 = .ok (.aload_n 0, 1) := by decide +kernel
theorem dX2_numberEdges_67 : decode cX2_numberEdges 67 = .ok (.dup, 1) := by decide +kernel
theorem dX2_numberEdges_68 : decode cX2_numberEdges 68 = .ok (.getfield 49, 3) := by decide +kernel
theorem dX2_numberEdges_71 : decode cX2_numberEdges 71 = .ok (.iconst 1, 1) := by decide +kernel
theorem dX2_numberEdges_72 : decode cX2_numberEdges 72 = .ok (.iadd, 1) := by decide +kernel
theorem dX2_numberEdges_73 : decode cX2_numberEdges 73 = .ok (.putfield 49, 3) := by decide +kernel
theorem dX2_numberEdges_76 : decode cX2_numberEdges 76 = .ok (.iinc 2 1, 3) := by decide +kernel
theorem dX2_numberEdges_79 : decode cX2_numberEdges 79 = .ok (.goto (-57), 3) := by decide +kernel
theorem dX2_numberEdges_82 : decode cX2_numberEdges 82 = .ok (.iinc 1 1, 3) := by decide +kernel
theorem dX2_numberEdges_85 : decode cX2_numberEdges 85 = .ok (.goto (-78), 3) := by decide +kernel
theorem dX2_numberEdges_88 : decode cX2_numberEdges 88 = .ok (.return_, 1) := by decide +kernel
theorem dX2_numberTriangles_0 : decode cX2_numberTriangles 0 = .ok (.aload_n 0, 1) := by decide +kernel
theorem dX2_numberTriangles_1 : decode cX2_numberTriangles 1 = .ok (.getfield 27, 3) := by decide +kernel
theorem dX2_numberTriangles_4 : decode cX2_numberTriangles 4 = .ok (.invokevirtual 81, 3) := by decide +kernel
theorem dX2_numberTriangles_7 : decode cX2_numberTriangles 7 = .ok (.aload_n 0, 1) := by decide +kernel
theorem dX2_numberTriangles_8 : decode cX2_numberTriangles 8 = .ok (.iconst 0, 1) := by decide +kernel
theorem dX2_numberTriangles_9 : decode cX2_numberTriangles 9 = .ok (.putfield 53, 3) := by decide +kernel
theorem dX2_numberTriangles_12 : decode cX2_numberTriangles 12 = .ok (.iconst 0, 1) := by decide +kernel
theorem dX2_numberTriangles_13 : decode cX2_numberTriangles 13 = .ok (.istore_n 1, 1) := by decide +kernel
theorem dX2_numberTriangles_14 : decode cX2_numberTriangles 14 = .ok (.iload_n 1, 1) := by decide +kernel
theorem dX2_numberTriangles_15 : decode cX2_numberTriangles 15 = .ok (.aload_n 0, 1) := by decide +kernel
theorem dX2_numberTriangles_16 : decode cX2_numberTriangles 16 = .ok (.getfield 9, 3) := by decide +kernel
theorem dX2_numberTriangles_19 : decode cX2_numberTriangles 19 = .ok (.invokevirtual 84, 3) := by decide +kernel
theorem dX2_numberTriangles_22 : decode cX2_numberTriangles 22 = .ok (.if_icmp .ge 52, 3) := by decide +kernel
theorem dX2_numberTriangles_25 : decode cX2_numberTriangles 25 = .ok (.iload_n 1, 1) := by decide +kernel
theorem dX2_numberTriangles_26 : decode cX2_numberTriangles 26 = .ok (.iconst 1, 1) := by decide +kernel
theorem dX2_numberTriangles_27 : decode cX2_numberTriangles 27 = .ok (.iadd, 1) := by decide +kernel
theorem dX2_numberTriangles_28 : decode cX2_numberTriangles 28 = .ok (.istore_n 2, 1) := by decide +kernel
theorem dX2_numberTriangles_29 : decode cX2_numberTriangles 29 = .ok (.iload_n 2, 1) := by decide +kernel
theorem dX2_numberTriangles_30 : decode cX2_numberTriangles 30 = .ok (.aload_n 0, 1) := by decide +kernel
theorem dX2_numberTriangles_31 : decode cX2_numberTriangles 31 = .ok (.getfield 9, 3) := by decide +kernel
theorem dX2_numberTriangles_34 : decode cX2_numberTriangles 34 = .ok (.invokevirtual 84, 3) := by decide +kernel
theorem dX2_numberTriangles_37 : decode cX2_numberTriangles 37 = .ok (.if_icmp .ge 31, 3) := by decide +kernel
theorem dX2_numberTriangles_40 : decode cX2_numberTriangles 40 = .ok (.aload_n 0, 1) := by decide +kernel
theorem dX2_numberTriangles_41 : decode cX2_numberTriangles 41 = .ok (.getfield 24, 3) := by decide +kernel
theorem dX2_numberTriangles_44 : decode cX2_numberTriangles 44 = .ok (.iload_n 1, 1) := by decide +kernel
theorem dX2_numberTriangles_45 : decode cX2_numberTriangles 45 = .ok (.iload_n 2, 1) := by decide +kernel
theorem dX2_numberTriangles_46 : decode cX2_numberTriangles 46 = .ok (.invokevirtual 140, 3) := by decide +kernel
theorem dX2_numberTriangles_49 : decode cX2_numberTriangles 49 = .ok (.istore_n 3, 1) := by decide +kernel
theorem dX2_numberTriangles_50 : decode cX2_numberTriangles 50 = .ok (.iload_n 3, 1) := by decide +kernel
theorem dX2_numberTriangles_51 : decode cX2_numberTriangles 51 = .ok (.iload_n 1, 1) := by decide +kernel
theorem dX2_numberTriangles_52 : decode cX2_numberTriangles 52 = .ok (.if_icmp .le 10, 3) := by decide +kernel
theorem dX2_numberTriangles_55 : decode cX2_numberTriangles 55 = .ok (.aload_n 0, 1) := by decide +kernel
theorem dX2_numberTriangles_56 : decode cX2_numberTriangles 56 = .ok (.iload_n 1, 1) := by decide +kernel
theorem dX2_numberTriangles_57 : decode cX2_numberTriangles 57 = .ok (.iload_n 2, 1) := by decide +kernel
theorem dX2_numberTriangles_58 : decode cX2_numberTriangles 58 = .ok (.iload_n 3, 1) := by decide +kernel
theorem dX2_numberTriangles_59 : decode cX2_numberTriangles 59 = .ok (.invokevirtual 173, 3) := by decide +kernel
theorem dX2_numberTriangles_62 : decode cX2_numberTriangles 62 = .ok (.iinc 2 1, 3) := by decide +kernel
theorem dX2_numberTriangles_65 : decode cX2_numberTriangles 65 = .ok (.goto (-36), 3) := by decide +kernel
theorem dX2_numberTriangles_68 : decode cX2_numberTriangles 68 = .ok (.iinc 1 1, 3) := by decide +kernel
theorem dX2_numberTriangles_71 : decode cX2_numberTriangles 71 = .ok (.goto (-57), 3) := by decide +kernel
theorem dX2_numberTriangles_74 : decode cX2_numberTriangles 74 = .ok (.return_, 1) := by decide +kernel
theorem dX2_addTriangle_0 : decode cX2_addTriangle 0 = .ok (.aload_n 0, 1) := by decide +kernel
theorem dX2_addTriangle_1 : decode cX2_addTriangle 1 = .ok (.getfield 43, 3) := by decide +kernel
theorem dX2_addTriangle_4 : decode cX2_addTriangle 4 = .ok (.iconst 3, 1) := by decide +kernel
theorem dX2_addTriangle_5 : decode cX2_addTriangle 5 = .ok (.aload_n 0, 1) := by decide +kernel
theorem dX2_addTriangle_6 : decode cX2_addTriangle 6 = .ok (.getfield 53, 3) := by decide +kernel
theorem dX2_addTriangle_9 : decode cX2_addTriangle 9 = .ok (.imul, 1) := by decide +kernel
theorem dX2_addTriangle_10 : decode cX2_addTriangle 10 = .ok (.iload_n 1, 1) := by decide +kernel
theorem dX2_addTriangle_11 : decode cX2_addTriangle 11 = .ok (.invokevirtual 102, 3) := by decide +kernel
theorem dX2_addTriangle_14 : decode cX2_addTriangle 14 = .ok (.aload_n 0, 1) := by decide +kernel
theorem dX2_addTriangle_15 : decode cX2_addTriangle 15 = .ok (.getfield 43, 3) := by decide +kernel
theorem dX2_addTriangle_18 : decode cX2_addTriangle 18 = .ok (.iconst 3, 1) := by decide +kernel
theorem dX2_addTriangle_19 : decode cX2_addTriangle 19 = .ok (.aload_n 0, 1) := by decide +kernel
theorem dX2_addTriangle_20 : decode cX2_addTriangle 20 = .ok (.getfield 53, 3) := by decide +kernel
theorem dX2_addTriangle_23 : decode cX2_addTriangle 23 = .ok (.imul, 1) := by decide +kernel
theorem dX2_addTriangle_24 : decode cX2_addTriangle 24 = .ok (.iconst 1, 1) := by decide +kernel
theorem dX2_addTriangle_25 : decode cX2_addTriangle 25 = .ok (.iadd, 1) := by decide +kernel
theorem dX2_addTriangle_26 : decode cX2_addTriangle 26 = .ok (.iload_n 2, 1) := by decide +kernel
theorem dX2_addTriangle_27 : decode cX2_addTriangle 27 = .ok (.invokevirtual 102, 3) := by decide +kernel
theorem dX2_addTriangle_30 : decode cX2_addTriangle 30 = .ok (.aload_n 0, 1) := by decide +kernel
theorem dX2_addTriangle_31 : decode cX2_addTriangle 31 = .ok (.getfield 43, 3) := by decide +kernel
theorem dX2_addTriangle_34 : decode cX2_addTriangle 34 = .ok (.iconst 3, 1) := by decide +kernel
theorem dX2_addTriangle_35 : decode cX2_addTriangle 35 = .ok (.aload_n 0, 1) := by decide +kernel
theorem dX2_addTriangle_36 : decode cX2_addTriangle 36 = .ok (.getfield 53, 3) := by decide +kernel
theorem dX2_addTriangle_39 : decode cX2_addTriangle 39 = .ok (.imul, 1) := by decide +kernel
theorem dX2_addTriangle_40 : decode cX2_addTriangle 40 = .ok (.iconst 2, 1) := by decide +kernel
theorem dX2_addTriangle_41 : decode cX2_addTriangle 41 = .ok (.iadd, 1) := by decide +kernel
theorem dX2_addTriangle_42 : decode cX2_addTriangle 42 = .ok (.iload_n 3, 1) := by decide +kernel
theorem dX2_addTriangle_43 : decode cX2_addTriangle 43 = .ok (.invokevirtual 102, 3) := by decide +kernel
theorem dX2_addTriangle_46 : decode cX2_addTriangle 46 = .ok (.aload_n 0, 1) := by decide +kernel
theorem dX2_addTriangle_47 : decode cX2_addTriangle 47 = .ok (.getfield 27, 3) := by decide +kernel
theorem dX2_addTriangle_50 : decode cX2_addTriangle 50 = .ok (.iload_n 1, 1) := by decide +kernel
theorem dX2_addTriangle_51 : decode cX2_addTriangle 51 = .ok (.iload_n 2, 1) := by decide +kernel
theorem dX2_addTriangle_52 : decode cX2_addTriangle 52 = .ok (.aload_n 0, 1) := by decide +kernel
theorem dX2_addTriangle_53 : decode cX2_addTriangle 53 = .ok (.getfield 53, 3) := by decide +kernel
theorem dX2_addTriangle_56 : decode cX2_addTriangle 56 = .ok (.invokevirtual 98, 3) := by decide +kernel
theorem dX2_addTriangle_59 : decode cX2_addTriangle 59 = .ok (.aload_n 0, 1) := by decide +kernel
theorem dX2_addTriangle_60 : decode cX2_addTriangle 60 = .ok (.getfield 27, 3) := by decide +kernel
theorem dX2_addTriangle_63 : decode cX2_addTriangle 63 = .ok (.iload_n 2, 1) := by decide +kernel
theorem dX2_addTriangle_64 : decode cX2_addTriangle 64 = .ok (.iload_n 3, 1) := by decide +kernel
theorem dX2_addTriangle_65 : decode cX2_addTriangle 65 = .ok (.aload_n 0, 1) := by decide +kernel
theorem dX2_addTriangle_66 : decode cX2_addTriangle 66 = .ok (.getfield 53, 3) := by decide +kernel
theorem dX2_addTriangle_69 : decode cX2_addTriangle 69 = .ok (.invokevirtual 98, 3) := by decide +kernel
theorem dX2_addTriangle_72 : decode cX2_addTriangle 72 = .ok (.aload_n 0, 1) := by decide +kernel
theorem dX2_addTriangle_73 : decode cX2_addTriangle 73 = .ok (.getfield 27, 3) := by decide +kernel
theorem dX2_addTriangle_76 : decode cX2_addTriangle 76 = .ok (.iload_n 3, 1) := by decide +kernel
theorem dX2_addTriangle_77 : decode cX2_addTriangle 77 = .ok (.iload_n 1, 1) := by decide +kernel
theorem dX2_addTriangle_78 : decode cX2_addTriangle 78 = .ok (.aload_n 0, 1) := by decide +kernel
theorem dX2_addTriangle_79 : decode cX2_addTriangle 79 = .ok (.getfield 53, 3) := by decide +kernel
theorem dX2_addTriangle_82 : decode cX2_addTriangle 82 = .ok (.invokevirtual 98, 3) := by decide +kernel
theorem dX2_addTriangle_85 : decode cX2_addTriangle 85 = .ok (.aload_n 0, 1) := by decide +kernel
theorem dX2_addTriangle_86 : decode cX2_addTriangle 86 = .ok (.dup, 1) := by decide +kernel
theorem dX2_addTriangle_87 : decode cX2_addTriangle 87 = .ok (.getfield 53, 3) := by decide +kernel
theorem dX2_addTriangle_90 : decode cX2_addTriangle 90 = .ok (.iconst 1, 1) := by decide +kernel
theorem dX2_addTriangle_91 : decode cX2_addTriangle 91 = .ok (.iadd, 1) := by decide +kernel
theorem dX2_addTriangle_92 : decode cX2_addTriangle 92 = .ok (.putfield 53, 3) := by decide +kernel
theorem dX2_addTriangle_95 : decode cX2_addTriangle 95 = .ok (.return_, 1) := by decide +kernel
theorem dX2_numberHull_0 : decode cX2_numberHull 0 = .ok (.aload_n 0, 1) := by decide +kernel
theorem dX2_numberHull_1 : decode cX2_numberHull 1 = .ok (.iconst 0, 1) := by decide +kernel
theorem dX2_numberHull_2 : decode cX2_numberHull 2 = .ok (.putfield 56, 3) := by decide +kernel
theorem dX2_numberHull_5 : decode cX2_numberHull 5 = .ok (.aload_n 0, 1) := by decide +kernel
theorem dX2_numberHull_6 : decode cX2_numberHull 6 = .ok (.invokevirtual 176, 3) := by decide +kernel
theorem dX2_numberHull_9 : decode cX2_numberHull 9 = .ok (.istore_n 1, 1) := by decide +kernel
theorem dX2_numberHull_10 : decode cX2_numberHull 10 = .ok (.aload_n 0, 1) := by decide +kernel
theorem dX2_numberHull_11 : decode cX2_numberHull 11 = .ok (.getfield 56, 3) := by decide +kernel
theorem dX2_numberHull_14 : decode cX2_numberHull 14 = .ok (.bipush 16, 2) := by decide +kernel
theorem dX2_numberHull_16 : decode cX2_numberHull 16 = .ok (.if_icmp .ge 53, 3) := by decide +kernel
theorem dX2_numberHull_19 : decode cX2_numberHull 19 = .ok (.iload_n 1, 1) := by decide +kernel
theorem dX2_numberHull_20 : decode cX2_numberHull 20 = .ok (.iconst (-1), 1) := by decide +kernel
theorem dX2_numberHull_21 : decode cX2_numberHull 21 = .ok (.if_icmp .eq 48, 3) := by decide +kernel
theorem dX2_numberHull_24 : decode cX2_numberHull 24 = .ok (.aload_n 0, 1) := by decide +kernel
theorem dX2_numberHull_25 : decode cX2_numberHull 25 = .ok (.getfield 46, 3) := by decide +kernel
theorem dX2_numberHull_28 : decode cX2_numberHull 28 = .ok (.aload_n 0, 1) := by decide +kernel
theorem dX2_numberHull_29 : decode cX2_numberHull 29 = .ok (.getfield 56, 3) := by decide +kernel
theorem dX2_numberHull_32 : decode cX2_numberHull 32 = .ok (.iload_n 1, 1) := by decide +kernel
theorem dX2_numberHull_33 : decode cX2_numberHull 33 = .ok (.invokevirtual 102, 3) := by decide +kernel
theorem dX2_numberHull_36 : decode cX2_numberHull 36 = .ok (.aload_n 0, 1) := by decide +kernel
theorem dX2_numberHull_37 : decode cX2_numberHull 37 = .ok (.dup, 1) := by decide +kernel
theorem dX2_numberHull_38 : decode cX2_numberHull 38 = .ok (.getfield 56, 3) := by decide +kernel
theorem dX2_numberHull_41 : decode cX2_numberHull 41 = .ok (.iconst 1, 1) := by decide +kernel
theorem dX2_numberHull_42 : decode cX2_numberHull 42 = .ok (.iadd, 1) := by decide +kernel
theorem dX2_numberHull_43 : decode cX2_numberHull 43 = .ok (.putfield 56, 3) := by decide +kernel
theorem dX2_numberHull_46 : decode cX2_numberHull 46 = .ok (.aload_n 0, 1) := by decide +kernel
theorem dX2_numberHull_47 : decode cX2_numberHull 47 = .ok (.iload_n 1, 1) := by decide +kernel
theorem dX2_numberHull_48 : decode cX2_numberHull 48 = .ok (.invokevirtual 179, 3) := by decide +kernel
theorem dX2_numberHull_51 : decode cX2_numberHull 51 = .ok (.istore_n 1, 1) := by decide +kernel
theorem dX2_numberHull_52 : decode cX2_numberHull 52 = .ok (.iload_n 1, 1) := by decide +kernel
theorem dX2_numberHull_53 : decode cX2_numberHull 53 = .ok (.aload_n 0, 1) := by decide +kernel
theorem dX2_numberHull_54 : decode cX2_numberHull 54 = .ok (.getfield 46, 3) := by decide +kernel
theorem dX2_numberHull_57 : decode cX2_numberHull 57 = .ok (.iconst 0, 1) := by decide +kernel
theorem dX2_numberHull_58 : decode cX2_numberHull 58 = .ok (.invokevirtual 127, 3) := by decide +kernel
theorem dX2_numberHull_61 : decode cX2_numberHull 61 = .ok (.if_icmp .ne (-51), 3) := by decide +kernel
theorem dX2_numberHull_64 : decode cX2_numberHull 64 = .ok (.iconst (-1), 1) := by decide +kernel
theorem dX2_numberHull_65 : decode cX2_numberHull 65 = .ok (.istore_n 1, 1) := by decide +kernel
theorem dX2_numberHull_66 : decode cX2_numberHull 66 = .ok (.goto (-56), 3) := by decide +kernel
theorem dX2_numberHull_69 : decode cX2_numberHull 69 = .ok (.return_, 1) := by decide +kernel
theorem dX2_firstOnHull_0 : decode cX2_firstOnHull 0 = .ok (.iconst 0, 1) := by decide +kernel
theorem dX2_firstOnHull_1 : decode cX2_firstOnHull 1 = .ok (.istore_n 1, 1) := by decide +kernel
theorem dX2_firstOnHull_2 : decode cX2_firstOnHull 2 = .ok (.iload_n 1, 1) := by decide +kernel
theorem dX2_firstOnHull_3 : decode cX2_firstOnHull 3 = .ok (.aload_n 0, 1) := by decide +kernel
theorem dX2_firstOnHull_4 : decode cX2_firstOnHull 4 = .ok (.getfield 9, 3) := by decide +kernel
theorem dX2_firstOnHull_7 : decode cX2_firstOnHull 7 = .ok (.invokevirtual 84, 3) := by decide +kernel
theorem dX2_firstOnHull_10 : decode cX2_firstOnHull 10 = .ok (.if_icmp .ge 20, 3) := by decide +kernel
theorem dX2_firstOnHull_13 : decode cX2_firstOnHull 13 = .ok (.aload_n 0, 1) := by decide +kernel
theorem dX2_firstOnHull_14 : decode cX2_firstOnHull 14 = .ok (.iload_n 1, 1) := by decide +kernel
theorem dX2_firstOnHull_15 : decode cX2_firstOnHull 15 = .ok (.invokevirtual 179, 3) := by decide +kernel
theorem dX2_firstOnHull_18 : decode cX2_firstOnHull 18 = .ok (.iconst (-1), 1) := by decide +kernel
theorem dX2_firstOnHull_19 : decode cX2_firstOnHull 19 = .ok (.if_icmp .eq 5, 3) := by decide +kernel
theorem dX2_firstOnHull_22 : decode cX2_firstOnHull 22 = .ok (.iload_n 1, 1) := by decide +kernel
theorem dX2_firstOnHull_23 : decode cX2_firstOnHull 23 = .ok (.ireturn, 1) := by decide +kernel
theorem dX2_firstOnHull_24 : decode cX2_firstOnHull 24 = .ok (.iinc 1 1, 3) := by decide +kernel
theorem dX2_firstOnHull_27 : decode cX2_firstOnHull 27 = .ok (.goto (-25), 3) := by decide +kernel
theorem dX2_firstOnHull_30 : decode cX2_firstOnHull 30 = .ok (.iconst (-1), 1) := by decide +kernel
theorem dX2_firstOnHull_31 : decode cX2_firstOnHull 31 = .ok (.ireturn, 1) := by decide +kernel
theorem dX2_nextOnHull_0 : decode cX2_nextOnHull 0 = .ok (.iconst 0, 1) := by decide +kernel
theorem dX2_nextOnHull_1 : decode cX2_nextOnHull 1 = .ok (.istore_n 2, 1) := by decide +kernel
theorem dX2_nextOnHull_2 : decode cX2_nextOnHull 2 = .ok (.iload_n 2, 1) := by decide +kernel
theorem dX2_nextOnHull_3 : decode cX2_nextOnHull 3 = .ok (.aload_n 0, 1) := by decide +kernel
theorem dX2_nextOnHull_4 : decode cX2_nextOnHull 4 = .ok (.getfield 9, 3) := by decide +kernel
theorem dX2_nextOnHull_7 : decode cX2_nextOnHull 7 = .ok (.invokevirtual 84, 3) := by decide +kernel
theorem dX2_nextOnHull_10 : decode cX2_nextOnHull 10 = .ok (.if_icmp .ge 37, 3) := by decide +kernel
theorem dX2_nextOnHull_13 : decode cX2_nextOnHull 13 = .ok (.aload_n 0, 1) := by decide +kernel
theorem dX2_nextOnHull_14 : decode cX2_nextOnHull 14 = .ok (.getfield 24, 3) := by decide +kernel
theorem dX2_nextOnHull_17 : decode cX2_nextOnHull 17 = .ok (.iload_n 1, 1) := by decide +kernel
theorem dX2_nextOnHull_18 : decode cX2_nextOnHull 18 = .ok (.iload_n 2, 1) := by decide +kernel
theorem dX2_nextOnHull_19 : decode cX2_nextOnHull 19 = .ok (.invokevirtual 140, 3) := by decide +kernel
theorem dX2_nextOnHull_22 : decode cX2_nextOnHull 22 = .ok (.iconst (-1), 1) := by decide +kernel
theorem dX2_nextOnHull_23 : decode cX2_nextOnHull 23 = .ok (.if_icmp .eq 18, 3) := by decide +kernel
theorem dX2_nextOnHull_26 : decode cX2_nextOnHull 26 = .ok (.aload_n 0, 1) := by decide +kernel
theorem dX2_nextOnHull_27 : decode cX2_nextOnHull 27 = .ok (.getfield 24, 3) := by decide +kernel
theorem dX2_nextOnHull_30 : decode cX2_nextOnHull 30 = .ok (.iload_n 2, 1) := by decide +kernel
theorem dX2_nextOnHull_31 : decode cX2_nextOnHull 31 = .ok (.iload_n 1, 1) := by decide +kernel
theorem dX2_nextOnHull_32 : decode cX2_nextOnHull 32 = .ok (.invokevirtual 140, 3) := by decide +kernel
theorem dX2_nextOnHull_35 : decode cX2_nextOnHull 35 = .ok (.iconst (-1), 1) := by decide +kernel
theorem dX2_nextOnHull_36 : decode cX2_nextOnHull 36 = .ok (.if_icmp .ne 5, 3) := by decide +kernel
theorem dX2_nextOnHull_39 : decode cX2_nextOnHull 39 = .ok (.iload_n 2, 1) := by decide +kernel
theorem dX2_nextOnHull_40 : decode cX2_nextOnHull 40 = .ok (.ireturn, 1) := by decide +kernel
theorem dX2_nextOnHull_41 : decode cX2_nextOnHull 41 = .ok (.iinc 2 1, 3) := by decide +kernel
theorem dX2_nextOnHull_44 : decode cX2_nextOnHull 44 = .ok (.goto (-42), 3) := by decide +kernel
theorem dX2_nextOnHull_47 : decode cX2_nextOnHull 47 = .ok (.iconst (-1), 1) := by decide +kernel
theorem dX2_nextOnHull_48 : decode cX2_nextOnHull 48 = .ok (.ireturn, 1) := by decide +kernel
theorem dX2_triangles_0 : decode cX2_triangles 0 = .ok (.aload_n 0, 1) := by decide +kernel
theorem dX2_triangles_1 : decode cX2_triangles 1 = .ok (.getfield 53, 3) := by decide +kernel
theorem dX2_triangles_4 : decode cX2_triangles 4 = .ok (.ireturn, 1) := by decide +kernel
theorem dX2_edges_0 : decode cX2_edges 0 = .ok (.aload_n 0, 1) := by decide +kernel
theorem dX2_edges_1 : decode cX2_edges 1 = .ok (.getfield 49, 3) := by decide +kernel
theorem dX2_edges_4 : decode cX2_edges 4 = .ok (.ireturn, 1) := by decide +kernel
theorem dX2_hullPoints_0 : decode cX2_hullPoints 0 = .ok (.aload_n 0, 1) := by decide +kernel
theorem dX2_hullPoints_1 : decode cX2_hullPoints 1 = .ok (.getfield 56, 3) := by decide +kernel
theorem dX2_hullPoints_4 : decode cX2_hullPoints 4 = .ok (.ireturn, 1) := by decide +kernel
theorem dX2_hullPointAt_0 : decode cX2_hullPointAt 0 = .ok (.aload_n 0, 1) := by decide +kernel
theorem dX2_hullPointAt_1 : decode cX2_hullPointAt 1 = .ok (.getfield 46, 3) := by decide +kernel
theorem dX2_hullPointAt_4 : decode cX2_hullPointAt 4 = .ok (.iload_n 1, 1) := by decide +kernel
theorem dX2_hullPointAt_5 : decode cX2_hullPointAt 5 = .ok (.invokevirtual 127, 3) := by decide +kernel
theorem dX2_hullPointAt_8 : decode cX2_hullPointAt 8 = .ok (.ireturn, 1) := by decide +kernel
theorem dX2_cornerOf_0 : decode cX2_cornerOf 0 = .ok (.aload_n 0, 1) := by decide +kernel
theorem dX2_cornerOf_1 : decode cX2_cornerOf 1 = .ok (.getfield 43, 3) := by decide +kernel
theorem dX2_cornerOf_4 : decode cX2_cornerOf 4 = .ok (.iconst 3, 1) := by decide +kernel
theorem dX2_cornerOf_5 : decode cX2_cornerOf 5 = .ok (.iload_n 1, 1) := by decide +kernel
theorem dX2_cornerOf_6 : decode cX2_cornerOf 6 = .ok (.imul, 1) := by decide +kernel
theorem dX2_cornerOf_7 : decode cX2_cornerOf 7 = .ok (.iload_n 2, 1) := by decide +kernel
theorem dX2_cornerOf_8 : decode cX2_cornerOf 8 = .ok (.iadd, 1) := by decide +kernel
theorem dX2_cornerOf_9 : decode cX2_cornerOf 9 = .ok (.invokevirtual 127, 3) := by decide +kernel
theorem dX2_cornerOf_12 : decode cX2_cornerOf 12 = .ok (.ireturn, 1) := by decide +kernel
theorem dX2_cornerAfter_0 : decode cX2_cornerAfter 0 = .ok (.aload_n 0, 1) := by decide +kernel
theorem dX2_cornerAfter_1 : decode cX2_cornerAfter 1 = .ok (.iload_n 1, 1) := by decide +kernel
theorem dX2_cornerAfter_2 : decode cX2_cornerAfter 2 = .ok (.iload_n 2, 1) := by decide +kernel
theorem dX2_cornerAfter_3 : decode cX2_cornerAfter 3 = .ok (.iconst 2, 1) := by decide +kernel
theorem dX2_cornerAfter_4 : decode cX2_cornerAfter 4 = .ok (.if_icmp .ne 7, 3) := by decide +kernel
theorem dX2_cornerAfter_7 : decode cX2_cornerAfter 7 = .ok (.iconst 0, 1) := by decide +kernel
theorem dX2_cornerAfter_8 : decode cX2_cornerAfter 8 = .ok (.goto 6, 3) := by decide +kernel
theorem dX2_cornerAfter_11 : decode cX2_cornerAfter 11 = .ok (.iload_n 2, 1) := by decide +kernel
theorem dX2_cornerAfter_12 : decode cX2_cornerAfter 12 = .ok (.iconst 1, 1) := by decide +kernel
theorem dX2_cornerAfter_13 : decode cX2_cornerAfter 13 = .ok (.iadd, 1) := by decide +kernel
theorem dX2_cornerAfter_14 : decode cX2_cornerAfter 14 = .ok (.invokevirtual 182, 3) := by decide +kernel
theorem dX2_cornerAfter_17 : decode cX2_cornerAfter 17 = .ok (.ireturn, 1) := by decide +kernel
theorem dX2_hasTriangle_0 : decode cX2_hasTriangle 0 = .ok (.aload_n 0, 1) := by decide +kernel
theorem dX2_hasTriangle_1 : decode cX2_hasTriangle 1 = .ok (.getfield 24, 3) := by decide +kernel
theorem dX2_hasTriangle_4 : decode cX2_hasTriangle 4 = .ok (.iload_n 1, 1) := by decide +kernel
theorem dX2_hasTriangle_5 : decode cX2_hasTriangle 5 = .ok (.iload_n 2, 1) := by decide +kernel
theorem dX2_hasTriangle_6 : decode cX2_hasTriangle 6 = .ok (.invokevirtual 140, 3) := by decide +kernel
theorem dX2_hasTriangle_9 : decode cX2_hasTriangle 9 = .ok (.iload_n 3, 1) := by decide +kernel
theorem dX2_hasTriangle_10 : decode cX2_hasTriangle 10 = .ok (.if_icmp .ne 7, 3) := by decide +kernel
theorem dX2_hasTriangle_13 : decode cX2_hasTriangle 13 = .ok (.iconst 1, 1) := by decide +kernel
theorem dX2_hasTriangle_14 : decode cX2_hasTriangle 14 = .ok (.goto 4, 3) := by decide +kernel
theorem dX2_hasTriangle_17 : decode cX2_hasTriangle 17 = .ok (.iconst 0, 1) := by decide +kernel
theorem dX2_hasTriangle_18 : decode cX2_hasTriangle 18 = .ok (.ireturn, 1) := by decide +kernel
theorem dX2_triangleAcross_0 : decode cX2_triangleAcross 0 = .ok (.aload_n 0, 1) := by decide +kernel
theorem dX2_triangleAcross_1 : decode cX2_triangleAcross 1 = .ok (.getfield 27, 3) := by decide +kernel
theorem dX2_triangleAcross_4 : decode cX2_triangleAcross 4 = .ok (.aload_n 0, 1) := by decide +kernel
theorem dX2_triangleAcross_5 : decode cX2_triangleAcross 5 = .ok (.iload_n 1, 1) := by decide +kernel
theorem dX2_triangleAcross_6 : decode cX2_triangleAcross 6 = .ok (.iload_n 2, 1) := by decide +kernel
theorem dX2_triangleAcross_7 : decode cX2_triangleAcross 7 = .ok (.invokevirtual 185, 3) := by decide +kernel
theorem dX2_triangleAcross_10 : decode cX2_triangleAcross 10 = .ok (.aload_n 0, 1) := by decide +kernel
theorem dX2_triangleAcross_11 : decode cX2_triangleAcross 11 = .ok (.iload_n 1, 1) := by decide +kernel
theorem dX2_triangleAcross_12 : decode cX2_triangleAcross 12 = .ok (.iload_n 2, 1) := by decide +kernel
theorem dX2_triangleAcross_13 : decode cX2_triangleAcross 13 = .ok (.invokevirtual 182, 3) := by decide +kernel
theorem dX2_triangleAcross_16 : decode cX2_triangleAcross 16 = .ok (.invokevirtual 140, 3) := by decide +kernel
theorem dX2_triangleAcross_19 : decode cX2_triangleAcross 19 = .ok (.ireturn, 1) := by decide +kernel
theorem dX2_lowEnd_0 : decode cX2_lowEnd 0 = .ok (.aload_n 0, 1) := by decide +kernel
theorem dX2_lowEnd_1 : decode cX2_lowEnd 1 = .ok (.getfield 37, 3) := by decide +kernel
theorem dX2_lowEnd_4 : decode cX2_lowEnd 4 = .ok (.iload_n 1, 1) := by decide +kernel
theorem dX2_lowEnd_5 : decode cX2_lowEnd 5 = .ok (.invokevirtual 127, 3) := by decide +kernel
theorem dX2_lowEnd_8 : decode cX2_lowEnd 8 = .ok (.ireturn, 1) := by decide +kernel
theorem dX2_highEnd_0 : decode cX2_highEnd 0 = .ok (.aload_n 0, 1) := by decide +kernel
theorem dX2_highEnd_1 : decode cX2_highEnd 1 = .ok (.getfield 40, 3) := by decide +kernel
theorem dX2_highEnd_4 : decode cX2_highEnd 4 = .ok (.iload_n 1, 1) := by decide +kernel
theorem dX2_highEnd_5 : decode cX2_highEnd 5 = .ok (.invokevirtual 127, 3) := by decide +kernel
theorem dX2_highEnd_8 : decode cX2_highEnd 8 = .ok (.ireturn, 1) := by decide +kernel
theorem dX2_edgeOf_0 : decode cX2_edgeOf 0 = .ok (.iconst 0, 1) := by decide +kernel
theorem dX2_edgeOf_1 : decode cX2_edgeOf 1 = .ok (.istore_n 3, 1) := by decide +kernel
theorem dX2_edgeOf_2 : decode cX2_edgeOf 2 = .ok (.iload_n 3, 1) := by decide +kernel
theorem dX2_edgeOf_3 : decode cX2_edgeOf 3 = .ok (.aload_n 0, 1) := by decide +kernel
theorem dX2_edgeOf_4 : decode cX2_edgeOf 4 = .ok (.getfield 49, 3) := by decide +kernel
theorem dX2_edgeOf_7 : decode cX2_edgeOf 7 = .ok (.if_icmp .ge 43, 3) := by decide +kernel
theorem dX2_edgeOf_10 : decode cX2_edgeOf 10 = .ok (.aload_n 0, 1) := by decide +kernel
theorem dX2_edgeOf_11 : decode cX2_edgeOf 11 = .ok (.getfield 37, 3) := by decide +kernel
theorem dX2_edgeOf_14 : decode cX2_edgeOf 14 = .ok (.iload_n 3, 1) := by decide +kernel
theorem dX2_edgeOf_15 : decode cX2_edgeOf 15 = .ok (.invokevirtual 127, 3) := by decide +kernel
theorem dX2_edgeOf_18 : decode cX2_edgeOf 18 = .ok (.iload_n 1, 1) := by decide +kernel
theorem dX2_edgeOf_19 : decode cX2_edgeOf 19 = .ok (.iload_n 2, 1) := by decide +kernel
theorem dX2_edgeOf_20 : decode cX2_edgeOf 20 = .ok (.invokestatic 188, 3) := by decide +kernel
theorem dX2_edgeOf_23 : decode cX2_edgeOf 23 = .ok (.if_icmp .ne 21, 3) := by decide +kernel
theorem dX2_edgeOf_26 : decode cX2_edgeOf 26 = .ok (.aload_n 0, 1) := by decide +kernel
theorem dX2_edgeOf_27 : decode cX2_edgeOf 27 = .ok (.getfield 40, 3) := by decide +kernel
theorem dX2_edgeOf_30 : decode cX2_edgeOf 30 = .ok (.iload_n 3, 1) := by decide +kernel
theorem dX2_edgeOf_31 : decode cX2_edgeOf 31 = .ok (.invokevirtual 127, 3) := by decide +kernel
theorem dX2_edgeOf_34 : decode cX2_edgeOf 34 = .ok (.iload_n 1, 1) := by decide +kernel
theorem dX2_edgeOf_35 : decode cX2_edgeOf 35 = .ok (.iload_n 2, 1) := by decide +kernel
theorem dX2_edgeOf_36 : decode cX2_edgeOf 36 = .ok (.invokestatic 168, 3) := by decide +kernel
theorem dX2_edgeOf_39 : decode cX2_edgeOf 39 = .ok (.if_icmp .ne 5, 3) := by decide +kernel
theorem dX2_edgeOf_42 : decode cX2_edgeOf 42 = .ok (.iload_n 3, 1) := by decide +kernel
theorem dX2_edgeOf_43 : decode cX2_edgeOf 43 = .ok (.ireturn, 1) := by decide +kernel
theorem dX2_edgeOf_44 : decode cX2_edgeOf 44 = .ok (.iinc 3 1, 3) := by decide +kernel
theorem dX2_edgeOf_47 : decode cX2_edgeOf 47 = .ok (.goto (-45), 3) := by decide +kernel
theorem dX2_edgeOf_50 : decode cX2_edgeOf 50 = .ok (.iconst (-1), 1) := by decide +kernel
theorem dX2_edgeOf_51 : decode cX2_edgeOf 51 = .ok (.ireturn, 1) := by decide +kernel
theorem dX2_degreeOf_0 : decode cX2_degreeOf 0 = .ok (.aload_n 0, 1) := by decide +kernel
theorem dX2_degreeOf_1 : decode cX2_degreeOf 1 = .ok (.getfield 33, 3) := by decide +kernel
theorem dX2_degreeOf_4 : decode cX2_degreeOf 4 = .ok (.iload_n 1, 1) := by decide +kernel
theorem dX2_degreeOf_5 : decode cX2_degreeOf 5 = .ok (.invokevirtual 127, 3) := by decide +kernel
theorem dX2_degreeOf_8 : decode cX2_degreeOf 8 = .ok (.invokestatic 191, 3) := by decide +kernel
theorem dX2_degreeOf_11 : decode cX2_degreeOf 11 = .ok (.ireturn, 1) := by decide +kernel
theorem dX2_neighbourOf_0 : decode cX2_neighbourOf 0 = .ok (.iconst 0, 1) := by decide +kernel
theorem dX2_neighbourOf_1 : decode cX2_neighbourOf 1 = .ok (.istore_n 3, 1) := by decide +kernel
theorem dX2_neighbourOf_2 : decode cX2_neighbourOf 2 = .ok (.iconst 0, 1) := by decide +kernel
theorem dX2_neighbourOf_3 : decode cX2_neighbourOf 3 = .ok (.istore 4, 2) := by decide +kernel
theorem dX2_neighbourOf_5 : decode cX2_neighbourOf 5 = .ok (.iload 4, 2) := by decide +kernel
theorem dX2_neighbourOf_7 : decode cX2_neighbourOf 7 = .ok (.aload_n 0, 1) := by decide +kernel
theorem dX2_neighbourOf_8 : decode cX2_neighbourOf 8 = .ok (.getfield 9, 3) := by decide +kernel
theorem dX2_neighbourOf_11 : decode cX2_neighbourOf 11 = .ok (.invokevirtual 84, 3) := by decide +kernel
theorem dX2_neighbourOf_14 : decode cX2_neighbourOf 14 = .ok (.if_icmp .ge 30, 3) := by decide +kernel
theorem dX2_neighbourOf_17 : decode cX2_neighbourOf 17 = .ok (.aload_n 0, 1) := by decide +kernel
theorem dX2_neighbourOf_18 : decode cX2_neighbourOf 18 = .ok (.iload_n 1, 1) := by decide +kernel
theorem dX2_neighbourOf_19 : decode cX2_neighbourOf 19 = .ok (.iload 4, 2) := by decide +kernel
theorem dX2_neighbourOf_21 : decode cX2_neighbourOf 21 = .ok (.invokevirtual 117, 3) := by decide +kernel
theorem dX2_neighbourOf_24 : decode cX2_neighbourOf 24 = .ok (.ifCond .eq 14, 3) := by decide +kernel
theorem dX2_neighbourOf_27 : decode cX2_neighbourOf 27 = .ok (.iload_n 3, 1) := by decide +kernel
theorem dX2_neighbourOf_28 : decode cX2_neighbourOf 28 = .ok (.iload_n 2, 1) := by decide +kernel
theorem dX2_neighbourOf_29 : decode cX2_neighbourOf 29 = .ok (.if_icmp .ne 6, 3) := by decide +kernel
theorem dX2_neighbourOf_32 : decode cX2_neighbourOf 32 = .ok (.iload 4, 2) := by decide +kernel
theorem dX2_neighbourOf_34 : decode cX2_neighbourOf 34 = .ok (.ireturn, 1) := by decide +kernel
theorem dX2_neighbourOf_35 : decode cX2_neighbourOf 35 = .ok (.iinc 3 1, 3) := by decide +kernel
theorem dX2_neighbourOf_38 : decode cX2_neighbourOf 38 = .ok (.iinc 4 1, 3) := by decide +kernel
theorem dX2_neighbourOf_41 : decode cX2_neighbourOf 41 = .ok (.goto (-36), 3) := by decide +kernel
theorem dX2_neighbourOf_44 : decode cX2_neighbourOf 44 = .ok (.iconst (-1), 1) := by decide +kernel
theorem dX2_neighbourOf_45 : decode cX2_neighbourOf 45 = .ok (.ireturn, 1) := by decide +kernel
theorem dX2_areaOf_0 : decode cX2_areaOf 0 = .ok (.aload_n 0, 1) := by decide +kernel
theorem dX2_areaOf_1 : decode cX2_areaOf 1 = .ok (.iload_n 1, 1) := by decide +kernel
theorem dX2_areaOf_2 : decode cX2_areaOf 2 = .ok (.iconst 2, 1) := by decide +kernel
theorem dX2_areaOf_3 : decode cX2_areaOf 3 = .ok (.invokevirtual 182, 3) := by decide +kernel
theorem dX2_areaOf_6 : decode cX2_areaOf 6 = .ok (.istore_n 2, 1) := by decide +kernel
theorem dX2_areaOf_7 : decode cX2_areaOf 7 = .ok (.aload_n 0, 1) := by decide +kernel
theorem dX2_areaOf_8 : decode cX2_areaOf 8 = .ok (.getfield 9, 3) := by decide +kernel
theorem dX2_areaOf_11 : decode cX2_areaOf 11 = .ok (.aload_n 0, 1) := by decide +kernel
theorem dX2_areaOf_12 : decode cX2_areaOf 12 = .ok (.iload_n 1, 1) := by decide +kernel
theorem dX2_areaOf_13 : decode cX2_areaOf 13 = .ok (.iconst 0, 1) := by decide +kernel
theorem dX2_areaOf_14 : decode cX2_areaOf 14 = .ok (.invokevirtual 182, 3) := by decide +kernel
theorem dX2_areaOf_17 : decode cX2_areaOf 17 = .ok (.aload_n 0, 1) := by decide +kernel
theorem dX2_areaOf_18 : decode cX2_areaOf 18 = .ok (.iload_n 1, 1) := by decide +kernel
theorem dX2_areaOf_19 : decode cX2_areaOf 19 = .ok (.iconst 1, 1) := by decide +kernel
theorem dX2_areaOf_20 : decode cX2_areaOf 20 = .ok (.invokevirtual 182, 3) := by decide +kernel
theorem dX2_areaOf_23 : decode cX2_areaOf 23 = .ok (.aload_n 0, 1) := by decide +kernel
theorem dX2_areaOf_24 : decode cX2_areaOf 24 = .ok (.getfield 9, 3) := by decide +kernel
theorem dX2_areaOf_27 : decode cX2_areaOf 27 = .ok (.iload_n 2, 1) := by decide +kernel
theorem dX2_areaOf_28 : decode cX2_areaOf 28 = .ok (.invokevirtual 196, 3) := by decide +kernel
theorem dX2_areaOf_31 : decode cX2_areaOf 31 = .ok (.aload_n 0, 1) := by decide +kernel
theorem dX2_areaOf_32 : decode cX2_areaOf 32 = .ok (.getfield 9, 3) := by decide +kernel
theorem dX2_areaOf_35 : decode cX2_areaOf 35 = .ok (.iload_n 2, 1) := by decide +kernel
theorem dX2_areaOf_36 : decode cX2_areaOf 36 = .ok (.invokevirtual 199, 3) := by decide +kernel
theorem dX2_areaOf_39 : decode cX2_areaOf 39 = .ok (.invokevirtual 202, 3) := by decide +kernel
theorem dX2_areaOf_42 : decode cX2_areaOf 42 = .ok (.ireturn, 1) := by decide +kernel
theorem dX2_hullArea_0 : decode cX2_hullArea 0 = .ok (.iconst 0, 1) := by decide +kernel
theorem dX2_hullArea_1 : decode cX2_hullArea 1 = .ok (.istore_n 1, 1) := by decide +kernel
theorem dX2_hullArea_2 : decode cX2_hullArea 2 = .ok (.iconst 0, 1) := by decide +kernel
theorem dX2_hullArea_3 : decode cX2_hullArea 3 = .ok (.istore_n 2, 1) := by decide +kernel
theorem dX2_hullArea_4 : decode cX2_hullArea 4 = .ok (.iload_n 2, 1) := by decide +kernel
theorem dX2_hullArea_5 : decode cX2_hullArea 5 = .ok (.aload_n 0, 1) := by decide +kernel
theorem dX2_hullArea_6 : decode cX2_hullArea 6 = .ok (.getfield 53, 3) := by decide +kernel
theorem dX2_hullArea_9 : decode cX2_hullArea 9 = .ok (.if_icmp .ge 17, 3) := by decide +kernel
theorem dX2_hullArea_12 : decode cX2_hullArea 12 = .ok (.iload_n 1, 1) := by decide +kernel
theorem dX2_hullArea_13 : decode cX2_hullArea 13 = .ok (.aload_n 0, 1) := by decide +kernel
theorem dX2_hullArea_14 : decode cX2_hullArea 14 = .ok (.iload_n 2, 1) := by decide +kernel
theorem dX2_hullArea_15 : decode cX2_hullArea 15 = .ok (.invokevirtual 205, 3) := by decide +kernel
theorem dX2_hullArea_18 : decode cX2_hullArea 18 = .ok (.iadd, 1) := by decide +kernel
theorem dX2_hullArea_19 : decode cX2_hullArea 19 = .ok (.istore_n 1, 1) := by decide +kernel
theorem dX2_hullArea_20 : decode cX2_hullArea 20 = .ok (.iinc 2 1, 3) := by decide +kernel
theorem dX2_hullArea_23 : decode cX2_hullArea 23 = .ok (.goto (-19), 3) := by decide +kernel
theorem dX2_hullArea_26 : decode cX2_hullArea 26 = .ok (.iload_n 1, 1) := by decide +kernel
theorem dX2_hullArea_27 : decode cX2_hullArea 27 = .ok (.ireturn, 1) := by decide +kernel
theorem dX2_lengthOf_0 : decode cX2_lengthOf 0 = .ok (.aload_n 0, 1) := by decide +kernel
theorem dX2_lengthOf_1 : decode cX2_lengthOf 1 = .ok (.getfield 9, 3) := by decide +kernel
theorem dX2_lengthOf_4 : decode cX2_lengthOf 4 = .ok (.aload_n 0, 1) := by decide +kernel
theorem dX2_lengthOf_5 : decode cX2_lengthOf 5 = .ok (.getfield 37, 3) := by decide +kernel
theorem dX2_lengthOf_8 : decode cX2_lengthOf 8 = .ok (.iload_n 1, 1) := by decide +kernel
theorem dX2_lengthOf_9 : decode cX2_lengthOf 9 = .ok (.invokevirtual 127, 3) := by decide +kernel
theorem dX2_lengthOf_12 : decode cX2_lengthOf 12 = .ok (.aload_n 0, 1) := by decide +kernel
theorem dX2_lengthOf_13 : decode cX2_lengthOf 13 = .ok (.getfield 40, 3) := by decide +kernel
theorem dX2_lengthOf_16 : decode cX2_lengthOf 16 = .ok (.iload_n 1, 1) := by decide +kernel
theorem dX2_lengthOf_17 : decode cX2_lengthOf 17 = .ok (.invokevirtual 127, 3) := by decide +kernel
theorem dX2_lengthOf_20 : decode cX2_lengthOf 20 = .ok (.invokevirtual 208, 3) := by decide +kernel
theorem dX2_lengthOf_23 : decode cX2_lengthOf 23 = .ok (.ireturn, 1) := by decide +kernel
theorem dX2_leastLength_0 : decode cX2_leastLength 0 = .ok (.aload_n 0, 1) := by decide +kernel
theorem dX2_leastLength_1 : decode cX2_leastLength 1 = .ok (.iconst 0, 1) := by decide +kernel
theorem dX2_leastLength_2 : decode cX2_leastLength 2 = .ok (.invokevirtual 211, 3) := by decide +kernel
theorem dX2_leastLength_5 : decode cX2_leastLength 5 = .ok (.istore_n 1, 1) := by decide +kernel
theorem dX2_leastLength_6 : decode cX2_leastLength 6 = .ok (.iconst 1, 1) := by decide +kernel
theorem dX2_leastLength_7 : decode cX2_leastLength 7 = .ok (.istore_n 2, 1) := by decide +kernel
theorem dX2_leastLength_8 : decode cX2_leastLength 8 = .ok (.iload_n 2, 1) := by decide +kernel
theorem dX2_leastLength_9 : decode cX2_leastLength 9 = .ok (.aload_n 0, 1) := by decide +kernel
theorem dX2_leastLength_10 : decode cX2_leastLength 10 = .ok (.getfield 49, 3) := by decide +kernel
theorem dX2_leastLength_13 : decode cX2_leastLength 13 = .ok (.if_icmp .ge 19, 3) := by decide +kernel
theorem dX2_leastLength_16 : decode cX2_leastLength 16 = .ok (.iload_n 1, 1) := by decide +kernel
theorem dX2_leastLength_17 : decode cX2_leastLength 17 = .ok (.aload_n 0, 1) := by decide +kernel
theorem dX2_leastLength_18 : decode cX2_leastLength 18 = .ok (.iload_n 2, 1) := by decide +kernel
theorem dX2_leastLength_19 : decode cX2_leastLength 19 = .ok (.invokevirtual 211, 3) := by decide +kernel
theorem dX2_leastLength_22 : decode cX2_leastLength 22 = .ok (.invokestatic 188, 3) := by decide +kernel
theorem dX2_leastLength_25 : decode cX2_leastLength 25 = .ok (.istore_n 1, 1) := by decide +kernel
theorem dX2_leastLength_26 : decode cX2_leastLength 26 = .ok (.iinc 2 1, 3) := by decide +kernel
theorem dX2_leastLength_29 : decode cX2_leastLength 29 = .ok (.goto (-21), 3) := by decide +kernel
theorem dX2_leastLength_32 : decode cX2_leastLength 32 = .ok (.iload_n 1, 1) := by decide +kernel
theorem dX2_leastLength_33 : decode cX2_leastLength 33 = .ok (.ireturn, 1) := by decide +kernel
theorem dX2_greatestLength_0 : decode cX2_greatestLength 0 = .ok (.aload_n 0, 1) := by decide +kernel
theorem dX2_greatestLength_1 : decode cX2_greatestLength 1 = .ok (.iconst 0, 1) := by decide +kernel
theorem dX2_greatestLength_2 : decode cX2_greatestLength 2 = .ok (.invokevirtual 211, 3) := by decide +kernel
theorem dX2_greatestLength_5 : decode cX2_greatestLength 5 = .ok (.istore_n 1, 1) := by decide +kernel
theorem dX2_greatestLength_6 : decode cX2_greatestLength 6 = .ok (.iconst 1, 1) := by decide +kernel
theorem dX2_greatestLength_7 : decode cX2_greatestLength 7 = .ok (.istore_n 2, 1) := by decide +kernel
theorem dX2_greatestLength_8 : decode cX2_greatestLength 8 = .ok (.iload_n 2, 1) := by decide +kernel
theorem dX2_greatestLength_9 : decode cX2_greatestLength 9 = .ok (.aload_n 0, 1) := by decide +kernel
theorem dX2_greatestLength_10 : decode cX2_greatestLength 10 = .ok (.getfield 49, 3) := by decide +kernel
theorem dX2_greatestLength_13 : decode cX2_greatestLength 13 = .ok (.if_icmp .ge 19, 3) := by decide +kernel
theorem dX2_greatestLength_16 : decode cX2_greatestLength 16 = .ok (.iload_n 1, 1) := by decide +kernel
theorem dX2_greatestLength_17 : decode cX2_greatestLength 17 = .ok (.aload_n 0, 1) := by decide +kernel
theorem dX2_greatestLength_18 : decode cX2_greatestLength 18 = .ok (.iload_n 2, 1) := by decide +kernel
theorem dX2_greatestLength_19 : decode cX2_greatestLength 19 = .ok (.invokevirtual 211, 3) := by decide +kernel
theorem dX2_greatestLength_22 : decode cX2_greatestLength 22 = .ok (.invokestatic 168, 3) := by decide +kernel
theorem dX2_greatestLength_25 : decode cX2_greatestLength 25 = .ok (.istore_n 1, 1) := by decide +kernel
theorem dX2_greatestLength_26 : decode cX2_greatestLength 26 = .ok (.iinc 2 1, 3) := by decide +kernel
theorem dX2_greatestLength_29 : decode cX2_greatestLength 29 = .ok (.goto (-21), 3) := by decide +kernel
theorem dX2_greatestLength_32 : decode cX2_greatestLength 32 = .ok (.iload_n 1, 1) := by decide +kernel
theorem dX2_greatestLength_33 : decode cX2_greatestLength 33 = .ok (.ireturn, 1) := by decide +kernel
theorem dX2_leastTree_0 : decode cX2_leastTree 0 = .ok (.iconst 0, 1) := by decide +kernel
theorem dX2_leastTree_1 : decode cX2_leastTree 1 = .ok (.istore_n 1, 1) := by decide +kernel
theorem dX2_leastTree_2 : decode cX2_leastTree 2 = .ok (.iconst 1, 1) := by decide +kernel
theorem dX2_leastTree_3 : decode cX2_leastTree 3 = .ok (.istore_n 2, 1) := by decide +kernel
theorem dX2_leastTree_4 : decode cX2_leastTree 4 = .ok (.iconst 1, 1) := by decide +kernel
theorem dX2_leastTree_5 : decode cX2_leastTree 5 = .ok (.istore_n 3, 1) := by decide +kernel
theorem dX2_leastTree_6 : decode cX2_leastTree 6 = .ok (.iload_n 3, 1) := by decide +kernel
theorem dX2_leastTree_7 : decode cX2_leastTree 7 = .ok (.aload_n 0, 1) := by decide +kernel
theorem dX2_leastTree_8 : decode cX2_leastTree 8 = .ok (.getfield 9, 3) := by decide +kernel
theorem dX2_leastTree_11 : decode cX2_leastTree 11 = .ok (.invokevirtual 84, 3) := by decide +kernel
theorem dX2_leastTree_14 : decode cX2_leastTree 14 = .ok (.if_icmp .ge 60, 3) := by decide +kernel
theorem dX2_leastTree_17 : decode cX2_leastTree 17 = .ok (.aload_n 0, 1) := by decide +kernel
theorem dX2_leastTree_18 : decode cX2_leastTree 18 = .ok (.iload_n 2, 1) := by decide +kernel
theorem dX2_leastTree_19 : decode cX2_leastTree 19 = .ok (.invokevirtual 214, 3) := by decide +kernel
theorem dX2_leastTree_22 : decode cX2_leastTree 22 = .ok (.istore 4, 2) := by decide +kernel
theorem dX2_leastTree_24 : decode cX2_leastTree 24 = .ok (.iload 4, 2) := by decide +kernel
theorem dX2_leastTree_26 : decode cX2_leastTree 26 = .ok (.iconst (-1), 1) := by decide +kernel
theorem dX2_leastTree_27 : decode cX2_leastTree 27 = .ok (.if_icmp .ne 6, 3) := by decide +kernel
theorem dX2_leastTree_30 : decode cX2_leastTree 30 = .ok (.goto 44, 3) := by decide +kernel
theorem dX2_leastTree_33 : decode cX2_leastTree 33 = .ok (.iload_n 1, 1) := by decide +kernel
theorem dX2_leastTree_34 : decode cX2_leastTree 34 = .ok (.aload_n 0, 1) := by decide +kernel
theorem dX2_leastTree_35 : decode cX2_leastTree 35 = .ok (.iload 4, 2) := by decide +kernel
theorem dX2_leastTree_37 : decode cX2_leastTree 37 = .ok (.invokevirtual 211, 3) := by decide +kernel
theorem dX2_leastTree_40 : decode cX2_leastTree 40 = .ok (.iadd, 1) := by decide +kernel
theorem dX2_leastTree_41 : decode cX2_leastTree 41 = .ok (.istore_n 1, 1) := by decide +kernel
theorem dX2_leastTree_42 : decode cX2_leastTree 42 = .ok (.iload_n 2, 1) := by decide +kernel
theorem dX2_leastTree_43 : decode cX2_leastTree 43 = .ok (.iconst 1, 1) := by decide +kernel
theorem dX2_leastTree_44 : decode cX2_leastTree 44 = .ok (.aload_n 0, 1) := by decide +kernel
theorem dX2_leastTree_45 : decode cX2_leastTree 45 = .ok (.getfield 37, 3) := by decide +kernel
theorem dX2_leastTree_48 : decode cX2_leastTree 48 = .ok (.iload 4, 2) := by decide +kernel
theorem dX2_leastTree_50 : decode cX2_leastTree 50 = .ok (.invokevirtual 127, 3) := by decide +kernel
theorem dX2_leastTree_53 : decode cX2_leastTree 53 = .ok (.ishl, 1) := by decide +kernel
theorem dX2_leastTree_54 : decode cX2_leastTree 54 = .ok (.iconst 1, 1) := by decide +kernel
theorem dX2_leastTree_55 : decode cX2_leastTree 55 = .ok (.aload_n 0, 1) := by decide +kernel
theorem dX2_leastTree_56 : decode cX2_leastTree 56 = .ok (.getfield 40, 3) := by decide +kernel
theorem dX2_leastTree_59 : decode cX2_leastTree 59 = .ok (.iload 4, 2) := by decide +kernel
theorem dX2_leastTree_61 : decode cX2_leastTree 61 = .ok (.invokevirtual 127, 3) := by decide +kernel
theorem dX2_leastTree_64 : decode cX2_leastTree 64 = .ok (.ishl, 1) := by decide +kernel
theorem dX2_leastTree_65 : decode cX2_leastTree 65 = .ok (.ior, 1) := by decide +kernel
theorem dX2_leastTree_66 : decode cX2_leastTree 66 = .ok (.ior, 1) := by decide +kernel
theorem dX2_leastTree_67 : decode cX2_leastTree 67 = .ok (.istore_n 2, 1) := by decide +kernel
theorem dX2_leastTree_68 : decode cX2_leastTree 68 = .ok (.iinc 3 1, 3) := by decide +kernel
theorem dX2_leastTree_71 : decode cX2_leastTree 71 = .ok (.goto (-65), 3) := by decide +kernel
theorem dX2_leastTree_74 : decode cX2_leastTree 74 = .ok (.iload_n 1, 1) := by decide +kernel
theorem dX2_leastTree_75 : decode cX2_leastTree 75 = .ok (.ireturn, 1) := by decide +kernel
theorem dX2_shortestLeaving_0 : decode cX2_shortestLeaving 0 = .ok (.iconst (-1), 1) := by decide +kernel
theorem dX2_shortestLeaving_1 : decode cX2_shortestLeaving 1 = .ok (.istore_n 2, 1) := by decide +kernel
theorem dX2_shortestLeaving_2 : decode cX2_shortestLeaving 2 = .ok (.iconst 0, 1) := by decide +kernel
theorem dX2_shortestLeaving_3 : decode cX2_shortestLeaving 3 = .ok (.istore_n 3, 1) := by decide +kernel
theorem dX2_shortestLeaving_4 : decode cX2_shortestLeaving 4 = .ok (.iload_n 3, 1) := by decide +kernel
theorem dX2_shortestLeaving_5 : decode cX2_shortestLeaving 5 = .ok (.aload_n 0, 1) := by decide +kernel
theorem dX2_shortestLeaving_6 : decode cX2_shortestLeaving 6 = .ok (.getfield 49, 3) := by decide +kernel
theorem dX2_shortestLeaving_9 : decode cX2_shortestLeaving 9 = .ok (.if_icmp .ge 67, 3) := by decide +kernel
theorem dX2_shortestLeaving_12 : decode cX2_shortestLeaving 12 = .ok (.iload_n 1, 1) := by decide +kernel
theorem dX2_shortestLeaving_13 : decode cX2_shortestLeaving 13 = .ok (.aload_n 0, 1) := by decide +kernel
theorem dX2_shortestLeaving_14 : decode cX2_shortestLeaving 14 = .ok (.getfield 37, 3) := by decide +kernel
theorem dX2_shortestLeaving_17 : decode cX2_shortestLeaving 17 = .ok (.iload_n 3, 1) := by decide +kernel
theorem dX2_shortestLeaving_18 : decode cX2_shortestLeaving 18 = .ok (.invokevirtual 127, 3) := by decide +kernel
theorem dX2_shortestLeaving_21 : decode cX2_shortestLeaving 21 = .ok (.ishr, 1) := by decide +kernel
theorem dX2_shortestLeaving_22 : decode cX2_shortestLeaving 22 = .ok (.iload_n 1, 1) := by decide +kernel
theorem dX2_shortestLeaving_23 : decode cX2_shortestLeaving 23 = .ok (.aload_n 0, 1) := by decide +kernel
theorem dX2_shortestLeaving_24 : decode cX2_shortestLeaving 24 = .ok (.getfield 40, 3) := by decide +kernel
theorem dX2_shortestLeaving_27 : decode cX2_shortestLeaving 27 = .ok (.iload_n 3, 1) := by decide +kernel
theorem dX2_shortestLeaving_28 : decode cX2_shortestLeaving 28 = .ok (.invokevirtual 127, 3) := by decide +kernel
theorem dX2_shortestLeaving_31 : decode cX2_shortestLeaving 31 = .ok (.ishr, 1) := by decide +kernel
theorem dX2_shortestLeaving_32 : decode cX2_shortestLeaving 32 = .ok (.ixor, 1) := by decide +kernel
theorem dX2_shortestLeaving_33 : decode cX2_shortestLeaving 33 = .ok (.iconst 1, 1) := by decide +kernel
theorem dX2_shortestLeaving_34 : decode cX2_shortestLeaving 34 = .ok (.iand, 1) := by decide +kernel
theorem dX2_shortestLeaving_35 : decode cX2_shortestLeaving 35 = .ok (.ifCond .eq 7, 3) := by decide +kernel
theorem dX2_shortestLeaving_38 : decode cX2_shortestLeaving 38 = .ok (.iconst 1, 1) := by decide +kernel
theorem dX2_shortestLeaving_39 : decode cX2_shortestLeaving 39 = .ok (.goto 4, 3) := by decide +kernel
theorem dX2_shortestLeaving_42 : decode cX2_shortestLeaving 42 = .ok (.iconst 0, 1) := by decide +kernel
theorem dX2_shortestLeaving_43 : decode cX2_shortestLeaving 43 = .ok (.istore 4, 2) := by decide +kernel
theorem dX2_shortestLeaving_45 : decode cX2_shortestLeaving 45 = .ok (.iload 4, 2) := by decide +kernel
theorem dX2_shortestLeaving_47 : decode cX2_shortestLeaving 47 = .ok (.ifCond .eq 23, 3) := by decide +kernel
theorem dX2_shortestLeaving_50 : decode cX2_shortestLeaving 50 = .ok (.iload_n 2, 1) := by decide +kernel
theorem dX2_shortestLeaving_51 : decode cX2_shortestLeaving 51 = .ok (.iconst (-1), 1) := by decide +kernel
theorem dX2_shortestLeaving_52 : decode cX2_shortestLeaving 52 = .ok (.if_icmp .eq 16, 3) := by decide +kernel
theorem dX2_shortestLeaving_55 : decode cX2_shortestLeaving 55 = .ok (.aload_n 0, 1) := by decide +kernel
theorem dX2_shortestLeaving_56 : decode cX2_shortestLeaving 56 = .ok (.iload_n 3, 1) := by decide +kernel
theorem dX2_shortestLeaving_57 : decode cX2_shortestLeaving 57 = .ok (.invokevirtual 211, 3) := by decide +kernel
theorem dX2_shortestLeaving_60 : decode cX2_shortestLeaving 60 = .ok (.aload_n 0, 1) := by decide +kernel
theorem dX2_shortestLeaving_61 : decode cX2_shortestLeaving 61 = .ok (.iload_n 2, 1) := by decide +kernel
theorem dX2_shortestLeaving_62 : decode cX2_shortestLeaving 62 = .ok (.invokevirtual 211, 3) := by decide +kernel
theorem dX2_shortestLeaving_65 : decode cX2_shortestLeaving 65 = .ok (.if_icmp .ge 5, 3) := by decide +kernel
theorem dX2_shortestLeaving_68 : decode cX2_shortestLeaving 68 = .ok (.iload_n 3, 1) := by decide +kernel
theorem dX2_shortestLeaving_69 : decode cX2_shortestLeaving 69 = .ok (.istore_n 2, 1) := by decide +kernel
theorem dX2_shortestLeaving_70 : decode cX2_shortestLeaving 70 = .ok (.iinc 3 1, 3) := by decide +kernel
theorem dX2_shortestLeaving_73 : decode cX2_shortestLeaving 73 = .ok (.goto (-69), 3) := by decide +kernel
theorem dX2_shortestLeaving_76 : decode cX2_shortestLeaving 76 = .ok (.iload_n 2, 1) := by decide +kernel
theorem dX2_shortestLeaving_77 : decode cX2_shortestLeaving 77 = .ok (.ireturn, 1) := by decide +kernel
theorem dX2_edgeAt_0 : decode cX2_edgeAt 0 = .ok (.iconst 0, 1) := by decide +kernel
theorem dX2_edgeAt_1 : decode cX2_edgeAt 1 = .ok (.istore_n 3, 1) := by decide +kernel
theorem dX2_edgeAt_2 : decode cX2_edgeAt 2 = .ok (.iload_n 3, 1) := by decide +kernel
theorem dX2_edgeAt_3 : decode cX2_edgeAt 3 = .ok (.aload_n 0, 1) := by decide +kernel
theorem dX2_edgeAt_4 : decode cX2_edgeAt 4 = .ok (.getfield 49, 3) := by decide +kernel
theorem dX2_edgeAt_7 : decode cX2_edgeAt 7 = .ok (.if_icmp .ge 39, 3) := by decide +kernel
theorem dX2_edgeAt_10 : decode cX2_edgeAt 10 = .ok (.aload_n 0, 1) := by decide +kernel
theorem dX2_edgeAt_11 : decode cX2_edgeAt 11 = .ok (.getfield 9, 3) := by decide +kernel
theorem dX2_edgeAt_14 : decode cX2_edgeAt 14 = .ok (.aload_n 0, 1) := by decide +kernel
theorem dX2_edgeAt_15 : decode cX2_edgeAt 15 = .ok (.getfield 37, 3) := by decide +kernel
theorem dX2_edgeAt_18 : decode cX2_edgeAt 18 = .ok (.iload_n 3, 1) := by decide +kernel
theorem dX2_edgeAt_19 : decode cX2_edgeAt 19 = .ok (.invokevirtual 127, 3) := by decide +kernel
theorem dX2_edgeAt_22 : decode cX2_edgeAt 22 = .ok (.aload_n 0, 1) := by decide +kernel
theorem dX2_edgeAt_23 : decode cX2_edgeAt 23 = .ok (.getfield 40, 3) := by decide +kernel
theorem dX2_edgeAt_26 : decode cX2_edgeAt 26 = .ok (.iload_n 3, 1) := by decide +kernel
theorem dX2_edgeAt_27 : decode cX2_edgeAt 27 = .ok (.invokevirtual 127, 3) := by decide +kernel
theorem dX2_edgeAt_30 : decode cX2_edgeAt 30 = .ok (.iload_n 1, 1) := by decide +kernel
theorem dX2_edgeAt_31 : decode cX2_edgeAt 31 = .ok (.iload_n 2, 1) := by decide +kernel
theorem dX2_edgeAt_32 : decode cX2_edgeAt 32 = .ok (.invokevirtual 217, 3) := by decide +kernel
theorem dX2_edgeAt_35 : decode cX2_edgeAt 35 = .ok (.ifCond .eq 5, 3) := by decide +kernel
theorem dX2_edgeAt_38 : decode cX2_edgeAt 38 = .ok (.iload_n 3, 1) := by decide +kernel
theorem dX2_edgeAt_39 : decode cX2_edgeAt 39 = .ok (.ireturn, 1) := by decide +kernel
theorem dX2_edgeAt_40 : decode cX2_edgeAt 40 = .ok (.iinc 3 1, 3) := by decide +kernel
theorem dX2_edgeAt_43 : decode cX2_edgeAt 43 = .ok (.goto (-41), 3) := by decide +kernel
theorem dX2_edgeAt_46 : decode cX2_edgeAt 46 = .ok (.iconst (-1), 1) := by decide +kernel
theorem dX2_edgeAt_47 : decode cX2_edgeAt 47 = .ok (.ireturn, 1) := by decide +kernel
theorem dX2_triangleAt_0 : decode cX2_triangleAt 0 = .ok (.iconst 0, 1) := by decide +kernel
theorem dX2_triangleAt_1 : decode cX2_triangleAt 1 = .ok (.istore_n 3, 1) := by decide +kernel
theorem dX2_triangleAt_2 : decode cX2_triangleAt 2 = .ok (.iload_n 3, 1) := by decide +kernel
theorem dX2_triangleAt_3 : decode cX2_triangleAt 3 = .ok (.aload_n 0, 1) := by decide +kernel
theorem dX2_triangleAt_4 : decode cX2_triangleAt 4 = .ok (.getfield 53, 3) := by decide +kernel
theorem dX2_triangleAt_7 : decode cX2_triangleAt 7 = .ok (.if_icmp .ge 22, 3) := by decide +kernel
theorem dX2_triangleAt_10 : decode cX2_triangleAt 10 = .ok (.aload_n 0, 1) := by decide +kernel
theorem dX2_triangleAt_11 : decode cX2_triangleAt 11 = .ok (.iload_n 3, 1) := by decide +kernel
theorem dX2_triangleAt_12 : decode cX2_triangleAt 12 = .ok (.iload_n 1, 1) := by decide +kernel
theorem dX2_triangleAt_13 : decode cX2_triangleAt 13 = .ok (.iload_n 2, 1) := by decide +kernel
theorem dX2_triangleAt_14 : decode cX2_triangleAt 14 = .ok (.invokevirtual 220, 3) := by decide +kernel
theorem dX2_triangleAt_17 : decode cX2_triangleAt 17 = .ok (.iconst (-1), 1) := by decide +kernel
theorem dX2_triangleAt_18 : decode cX2_triangleAt 18 = .ok (.if_icmp .ne 5, 3) := by decide +kernel
theorem dX2_triangleAt_21 : decode cX2_triangleAt 21 = .ok (.iload_n 3, 1) := by decide +kernel
theorem dX2_triangleAt_22 : decode cX2_triangleAt 22 = .ok (.ireturn, 1) := by decide +kernel
theorem dX2_triangleAt_23 : decode cX2_triangleAt 23 = .ok (.iinc 3 1, 3) := by decide +kernel
theorem dX2_triangleAt_26 : decode cX2_triangleAt 26 = .ok (.goto (-24), 3) := by decide +kernel
theorem dX2_triangleAt_29 : decode cX2_triangleAt 29 = .ok (.iconst (-1), 1) := by decide +kernel
theorem dX2_triangleAt_30 : decode cX2_triangleAt 30 = .ok (.ireturn, 1) := by decide +kernel
theorem dX2_exitTowards_0 : decode cX2_exitTowards 0 = .ok (.iconst 0, 1) := by decide +kernel
theorem dX2_exitTowards_1 : decode cX2_exitTowards 1 = .ok (.istore 4, 2) := by decide +kernel
theorem dX2_exitTowards_3 : decode cX2_exitTowards 3 = .ok (.iload 4, 2) := by decide +kernel
theorem dX2_exitTowards_5 : decode cX2_exitTowards 5 = .ok (.iconst 3, 1) := by decide +kernel
theorem dX2_exitTowards_6 : decode cX2_exitTowards 6 = .ok (.if_icmp .ge 42, 3) := by decide +kernel
theorem dX2_exitTowards_9 : decode cX2_exitTowards 9 = .ok (.aload_n 0, 1) := by decide +kernel
theorem dX2_exitTowards_10 : decode cX2_exitTowards 10 = .ok (.iload_n 1, 1) := by decide +kernel
theorem dX2_exitTowards_11 : decode cX2_exitTowards 11 = .ok (.iload 4, 2) := by decide +kernel
theorem dX2_exitTowards_13 : decode cX2_exitTowards 13 = .ok (.invokevirtual 182, 3) := by decide +kernel
theorem dX2_exitTowards_16 : decode cX2_exitTowards 16 = .ok (.istore 5, 2) := by decide +kernel
theorem dX2_exitTowards_18 : decode cX2_exitTowards 18 = .ok (.aload_n 0, 1) := by decide +kernel
theorem dX2_exitTowards_19 : decode cX2_exitTowards 19 = .ok (.getfield 9, 3) := by decide +kernel
theorem dX2_exitTowards_22 : decode cX2_exitTowards 22 = .ok (.iload 5, 2) := by decide +kernel
theorem dX2_exitTowards_24 : decode cX2_exitTowards 24 = .ok (.aload_n 0, 1) := by decide +kernel
theorem dX2_exitTowards_25 : decode cX2_exitTowards 25 = .ok (.iload_n 1, 1) := by decide +kernel
theorem dX2_exitTowards_26 : decode cX2_exitTowards 26 = .ok (.iload 4, 2) := by decide +kernel
theorem dX2_exitTowards_28 : decode cX2_exitTowards 28 = .ok (.invokevirtual 185, 3) := by decide +kernel
theorem dX2_exitTowards_31 : decode cX2_exitTowards 31 = .ok (.iload_n 2, 1) := by decide +kernel
theorem dX2_exitTowards_32 : decode cX2_exitTowards 32 = .ok (.iload_n 3, 1) := by decide +kernel
theorem dX2_exitTowards_33 : decode cX2_exitTowards 33 = .ok (.invokevirtual 202, 3) := by decide +kernel
theorem dX2_exitTowards_36 : decode cX2_exitTowards 36 = .ok (.ifCond .ge 6, 3) := by decide +kernel
theorem dX2_exitTowards_39 : decode cX2_exitTowards 39 = .ok (.iload 4, 2) := by decide +kernel
theorem dX2_exitTowards_41 : decode cX2_exitTowards 41 = .ok (.ireturn, 1) := by decide +kernel
theorem dX2_exitTowards_42 : decode cX2_exitTowards 42 = .ok (.iinc 4 1, 3) := by decide +kernel
theorem dX2_exitTowards_45 : decode cX2_exitTowards 45 = .ok (.goto (-42), 3) := by decide +kernel
theorem dX2_exitTowards_48 : decode cX2_exitTowards 48 = .ok (.iconst (-1), 1) := by decide +kernel
theorem dX2_exitTowards_49 : decode cX2_exitTowards 49 = .ok (.ireturn, 1) := by decide +kernel
theorem dX2_edgeMeets_0 : decode cX2_edgeMeets 0 = .ok (.aload_n 0, 1) := by decide +kernel
theorem dX2_edgeMeets_1 : decode cX2_edgeMeets 1 = .ok (.getfield 37, 3) := by decide +kernel
theorem dX2_edgeMeets_4 : decode cX2_edgeMeets 4 = .ok (.iload_n 1, 1) := by decide +kernel
theorem dX2_edgeMeets_5 : decode cX2_edgeMeets 5 = .ok (.invokevirtual 127, 3) := by decide +kernel
theorem dX2_edgeMeets_8 : decode cX2_edgeMeets 8 = .ok (.istore 4, 2) := by decide +kernel
theorem dX2_edgeMeets_10 : decode cX2_edgeMeets 10 = .ok (.aload_n 0, 1) := by decide +kernel
theorem dX2_edgeMeets_11 : decode cX2_edgeMeets 11 = .ok (.getfield 40, 3) := by decide +kernel
theorem dX2_edgeMeets_14 : decode cX2_edgeMeets 14 = .ok (.iload_n 1, 1) := by decide +kernel
theorem dX2_edgeMeets_15 : decode cX2_edgeMeets 15 = .ok (.invokevirtual 127, 3) := by decide +kernel
theorem dX2_edgeMeets_18 : decode cX2_edgeMeets 18 = .ok (.istore 5, 2) := by decide +kernel
theorem dX2_edgeMeets_20 : decode cX2_edgeMeets 20 = .ok (.aload_n 0, 1) := by decide +kernel
theorem dX2_edgeMeets_21 : decode cX2_edgeMeets 21 = .ok (.iload_n 2, 1) := by decide +kernel
theorem dX2_edgeMeets_22 : decode cX2_edgeMeets 22 = .ok (.iload_n 3, 1) := by decide +kernel
theorem dX2_edgeMeets_23 : decode cX2_edgeMeets 23 = .ok (.iload 4, 2) := by decide +kernel
theorem dX2_edgeMeets_25 : decode cX2_edgeMeets 25 = .ok (.iload 5, 2) := by decide +kernel
theorem dX2_edgeMeets_27 : decode cX2_edgeMeets 27 = .ok (.invokevirtual 130, 3) := by decide +kernel
theorem dX2_edgeMeets_30 : decode cX2_edgeMeets 30 = .ok (.ifCond .ne 25, 3) := by decide +kernel
theorem dX2_edgeMeets_33 : decode cX2_edgeMeets 33 = .ok (.aload_n 0, 1) := by decide +kernel
theorem dX2_edgeMeets_34 : decode cX2_edgeMeets 34 = .ok (.iload_n 2, 1) := by decide +kernel
theorem dX2_edgeMeets_35 : decode cX2_edgeMeets 35 = .ok (.iload_n 3, 1) := by decide +kernel
theorem dX2_edgeMeets_36 : decode cX2_edgeMeets 36 = .ok (.iload 4, 2) := by decide +kernel
theorem dX2_edgeMeets_38 : decode cX2_edgeMeets 38 = .ok (.invokevirtual 223, 3) := by decide +kernel
theorem dX2_edgeMeets_41 : decode cX2_edgeMeets 41 = .ok (.ifCond .eq 18, 3) := by decide +kernel
theorem dX2_edgeMeets_44 : decode cX2_edgeMeets 44 = .ok (.aload_n 0, 1) := by decide +kernel
theorem dX2_edgeMeets_45 : decode cX2_edgeMeets 45 = .ok (.iload_n 2, 1) := by decide +kernel
theorem dX2_edgeMeets_46 : decode cX2_edgeMeets 46 = .ok (.iload_n 3, 1) := by decide +kernel
theorem dX2_edgeMeets_47 : decode cX2_edgeMeets 47 = .ok (.iload 5, 2) := by decide +kernel
theorem dX2_edgeMeets_49 : decode cX2_edgeMeets 49 = .ok (.invokevirtual 223, 3) := by decide +kernel
theorem dX2_edgeMeets_52 : decode cX2_edgeMeets 52 = .ok (.ifCond .eq 7, 3) := by decide +kernel
theorem dX2_edgeMeets_55 : decode cX2_edgeMeets 55 = .ok (.iconst 1, 1) := by decide +kernel
theorem dX2_edgeMeets_56 : decode cX2_edgeMeets 56 = .ok (.goto 4, 3) := by decide +kernel
theorem dX2_edgeMeets_59 : decode cX2_edgeMeets 59 = .ok (.iconst 0, 1) := by decide +kernel
theorem dX2_edgeMeets_60 : decode cX2_edgeMeets 60 = .ok (.ireturn, 1) := by decide +kernel
theorem dX2_reaches_0 : decode cX2_reaches 0 = .ok (.iload_n 3, 1) := by decide +kernel
theorem dX2_reaches_1 : decode cX2_reaches 1 = .ok (.iload_n 1, 1) := by decide +kernel
theorem dX2_reaches_2 : decode cX2_reaches 2 = .ok (.if_icmp .eq 36, 3) := by decide +kernel
theorem dX2_reaches_5 : decode cX2_reaches 5 = .ok (.iload_n 3, 1) := by decide +kernel
theorem dX2_reaches_6 : decode cX2_reaches 6 = .ok (.iload_n 2, 1) := by decide +kernel
theorem dX2_reaches_7 : decode cX2_reaches 7 = .ok (.if_icmp .eq 31, 3) := by decide +kernel
theorem dX2_reaches_10 : decode cX2_reaches 10 = .ok (.aload_n 0, 1) := by decide +kernel
theorem dX2_reaches_11 : decode cX2_reaches 11 = .ok (.getfield 9, 3) := by decide +kernel
theorem dX2_reaches_14 : decode cX2_reaches 14 = .ok (.iload_n 1, 1) := by decide +kernel
theorem dX2_reaches_15 : decode cX2_reaches 15 = .ok (.iload_n 2, 1) := by decide +kernel
theorem dX2_reaches_16 : decode cX2_reaches 16 = .ok (.aload_n 0, 1) := by decide +kernel
theorem dX2_reaches_17 : decode cX2_reaches 17 = .ok (.getfield 9, 3) := by decide +kernel
theorem dX2_reaches_20 : decode cX2_reaches 20 = .ok (.iload_n 3, 1) := by decide +kernel
theorem dX2_reaches_21 : decode cX2_reaches 21 = .ok (.invokevirtual 196, 3) := by decide +kernel
theorem dX2_reaches_24 : decode cX2_reaches 24 = .ok (.aload_n 0, 1) := by decide +kernel
theorem dX2_reaches_25 : decode cX2_reaches 25 = .ok (.getfield 9, 3) := by decide +kernel
theorem dX2_reaches_28 : decode cX2_reaches 28 = .ok (.iload_n 3, 1) := by decide +kernel
theorem dX2_reaches_29 : decode cX2_reaches 29 = .ok (.invokevirtual 199, 3) := by decide +kernel
theorem dX2_reaches_32 : decode cX2_reaches 32 = .ok (.invokevirtual 217, 3) := by decide +kernel
theorem dX2_reaches_35 : decode cX2_reaches 35 = .ok (.ifCond .eq 7, 3) := by decide +kernel
theorem dX2_reaches_38 : decode cX2_reaches 38 = .ok (.iconst 1, 1) := by decide +kernel
theorem dX2_reaches_39 : decode cX2_reaches 39 = .ok (.goto 4, 3) := by decide +kernel
theorem dX2_reaches_42 : decode cX2_reaches 42 = .ok (.iconst 0, 1) := by decide +kernel
theorem dX2_reaches_43 : decode cX2_reaches 43 = .ok (.ireturn, 1) := by decide +kernel
theorem dX3_init_0 : decode cX3_init 0 = .ok (.aload_n 0, 1) := by decide +kernel
theorem dX3_init_1 : decode cX3_init 1 = .ok (.invokespecial 3, 3) := by decide +kernel
theorem dX3_init_4 : decode cX3_init 4 = .ok (.aload_n 0, 1) := by decide +kernel
theorem dX3_init_5 : decode cX3_init 5 = .ok (.new 9, 3) := by decide +kernel
theorem dX3_init_8 : decode cX3_init 8 = .ok (.dup, 1) := by decide +kernel
theorem dX3_init_9 : decode cX3_init 9 = .ok (.bipush 16, 2) := by decide +kernel
theorem dX3_init_11 : decode cX3_init 11 = .ok (.invokespecial 11, 3) := by decide +kernel
theorem dX3_init_14 : decode cX3_init 14 = .ok (.putfield 14, 3) := by decide +kernel
theorem dX3_init_17 : decode cX3_init 17 = .ok (.aload_n 0, 1) := by decide +kernel
theorem dX3_init_18 : decode cX3_init 18 = .ok (.new 9, 3) := by decide +kernel
theorem dX3_init_21 : decode cX3_init 21 = .ok (.dup, 1) := by decide +kernel
theorem dX3_init_22 : decode cX3_init 22 = .ok (.bipush 16, 2) := by decide +kernel
theorem dX3_init_24 : decode cX3_init 24 = .ok (.invokespecial 11, 3) := by decide +kernel
theorem dX3_init_27 : decode cX3_init 27 = .ok (.putfield 20, 3) := by decide +kernel
theorem dX3_init_30 : decode cX3_init 30 = .ok (.aload_n 0, 1) := by decide +kernel
theorem dX3_init_31 : decode cX3_init 31 = .ok (.new 9, 3) := by decide +kernel
theorem dX3_init_34 : decode cX3_init 34 = .ok (.dup, 1) := by decide +kernel
theorem dX3_init_35 : decode cX3_init 35 = .ok (.bipush 10, 2) := by decide +kernel
theorem dX3_init_37 : decode cX3_init 37 = .ok (.invokespecial 11, 3) := by decide +kernel
theorem dX3_init_40 : decode cX3_init 40 = .ok (.putfield 23, 3) := by decide +kernel
theorem dX3_init_43 : decode cX3_init 43 = .ok (.aload_n 0, 1) := by decide +kernel
theorem dX3_init_44 : decode cX3_init 44 = .ok (.new 9, 3) := by decide +kernel
theorem dX3_init_47 : decode cX3_init 47 = .ok (.dup, 1) := by decide +kernel
theorem dX3_init_48 : decode cX3_init 48 = .ok (.bipush 10, 2) := by decide +kernel
theorem dX3_init_50 : decode cX3_init 50 = .ok (.invokespecial 11, 3) := by decide +kernel
theorem dX3_init_53 : decode cX3_init 53 = .ok (.putfield 26, 3) := by decide +kernel
theorem dX3_init_56 : decode cX3_init 56 = .ok (.aload_n 0, 1) := by decide +kernel
theorem dX3_init_57 : decode cX3_init 57 = .ok (.iconst 0, 1) := by decide +kernel
theorem dX3_init_58 : decode cX3_init 58 = .ok (.putfield 29, 3) := by decide +kernel
theorem dX3_init_61 : decode cX3_init 61 = .ok (.aload_n 0, 1) := by decide +kernel
theorem dX3_init_62 : decode cX3_init 62 = .ok (.iconst 0, 1) := by decide +kernel
theorem dX3_init_63 : decode cX3_init 63 = .ok (.putfield 33, 3) := by decide +kernel
theorem dX3_init_66 : decode cX3_init 66 = .ok (.return_, 1) := by decide +kernel
theorem dX3_copyFrom_0 : decode cX3_copyFrom 0 = .ok (.aload_n 0, 1) := by decide +kernel
theorem dX3_copyFrom_1 : decode cX3_copyFrom 1 = .ok (.getfield 14, 3) := by decide +kernel
theorem dX3_copyFrom_4 : decode cX3_copyFrom 4 = .ok (.aload_n 1, 1) := by decide +kernel
theorem dX3_copyFrom_5 : decode cX3_copyFrom 5 = .ok (.getfield 14, 3) := by decide +kernel
theorem dX3_copyFrom_8 : decode cX3_copyFrom 8 = .ok (.invokevirtual 36, 3) := by decide +kernel
theorem dX3_copyFrom_11 : decode cX3_copyFrom 11 = .ok (.aload_n 0, 1) := by decide +kernel
theorem dX3_copyFrom_12 : decode cX3_copyFrom 12 = .ok (.getfield 20, 3) := by decide +kernel
theorem dX3_copyFrom_15 : decode cX3_copyFrom 15 = .ok (.aload_n 1, 1) := by decide +kernel
theorem dX3_copyFrom_16 : decode cX3_copyFrom 16 = .ok (.getfield 20, 3) := by decide +kernel
theorem dX3_copyFrom_19 : decode cX3_copyFrom 19 = .ok (.invokevirtual 36, 3) := by decide +kernel
theorem dX3_copyFrom_22 : decode cX3_copyFrom 22 = .ok (.aload_n 0, 1) := by decide +kernel
theorem dX3_copyFrom_23 : decode cX3_copyFrom 23 = .ok (.getfield 23, 3) := by decide +kernel
theorem dX3_copyFrom_26 : decode cX3_copyFrom 26 = .ok (.aload_n 1, 1) := by decide +kernel
theorem dX3_copyFrom_27 : decode cX3_copyFrom 27 = .ok (.getfield 23, 3) := by decide +kernel
theorem dX3_copyFrom_30 : decode cX3_copyFrom 30 = .ok (.invokevirtual 36, 3) := by decide +kernel
theorem dX3_copyFrom_33 : decode cX3_copyFrom 33 = .ok (.aload_n 0, 1) := by decide +kernel
theorem dX3_copyFrom_34 : decode cX3_copyFrom 34 = .ok (.getfield 26, 3) := by decide +kernel
theorem dX3_copyFrom_37 : decode cX3_copyFrom 37 = .ok (.aload_n 1, 1) := by decide +kernel
theorem dX3_copyFrom_38 : decode cX3_copyFrom 38 = .ok (.getfield 26, 3) := by decide +kernel
theorem dX3_copyFrom_41 : decode cX3_copyFrom 41 = .ok (.invokevirtual 36, 3) := by decide +kernel
theorem dX3_copyFrom_44 : decode cX3_copyFrom 44 = .ok (.aload_n 0, 1) := by decide +kernel
theorem dX3_copyFrom_45 : decode cX3_copyFrom 45 = .ok (.aload_n 1, 1) := by decide +kernel
theorem dX3_copyFrom_46 : decode cX3_copyFrom 46 = .ok (.getfield 29, 3) := by decide +kernel
theorem dX3_copyFrom_49 : decode cX3_copyFrom 49 = .ok (.putfield 29, 3) := by decide +kernel
theorem dX3_copyFrom_52 : decode cX3_copyFrom 52 = .ok (.aload_n 0, 1) := by decide +kernel
theorem dX3_copyFrom_53 : decode cX3_copyFrom 53 = .ok (.aload_n 1, 1) := by decide +kernel
theorem dX3_copyFrom_54 : decode cX3_copyFrom 54 = .ok (.getfield 33, 3) := by decide +kernel
theorem dX3_copyFrom_57 : decode cX3_copyFrom 57 = .ok (.putfield 33, 3) := by decide +kernel
theorem dX3_copyFrom_60 : decode cX3_copyFrom 60 = .ok (.return_, 1) := by decide +kernel
theorem dX3_points_0 : decode cX3_points 0 = .ok (.aload_n 0, 1) := by decide +kernel
theorem dX3_points_1 : decode cX3_points 1 = .ok (.getfield 29, 3) := by decide +kernel
theorem dX3_points_4 : decode cX3_points 4 = .ok (.ireturn, 1) := by decide +kernel
theorem dX3_constraints_0 : decode cX3_constraints 0 = .ok (.aload_n 0, 1) := by decide +kernel
theorem dX3_constraints_1 : decode cX3_constraints 1 = .ok (.getfield 33, 3) := by decide +kernel
theorem dX3_constraints_4 : decode cX3_constraints 4 = .ok (.ireturn, 1) := by decide +kernel
theorem dX3_hasPoint_0 : decode cX3_hasPoint 0 = .ok (.iload_n 1, 1) := by decide +kernel
theorem dX3_hasPoint_1 : decode cX3_hasPoint 1 = .ok (.ifCond .lt 15, 3) := by decide +kernel
theorem dX3_hasPoint_4 : decode cX3_hasPoint 4 = .ok (.iload_n 1, 1) := by decide +kernel
theorem dX3_hasPoint_5 : decode cX3_hasPoint 5 = .ok (.aload_n 0, 1) := by decide +kernel
theorem dX3_hasPoint_6 : decode cX3_hasPoint 6 = .ok (.getfield 29, 3) := by decide +kernel
theorem dX3_hasPoint_9 : decode cX3_hasPoint 9 = .ok (.if_icmp .ge 7, 3) := by decide +kernel
theorem dX3_hasPoint_12 : decode cX3_hasPoint 12 = .ok (.iconst 1, 1) := by decide +kernel
theorem dX3_hasPoint_13 : decode cX3_hasPoint 13 = .ok (.goto 4, 3) := by decide +kernel
theorem dX3_hasPoint_16 : decode cX3_hasPoint 16 = .ok (.iconst 0, 1) := by decide +kernel
theorem dX3_hasPoint_17 : decode cX3_hasPoint 17 = .ok (.ireturn, 1) := by decide +kernel
theorem dX3_xOf_0 : decode cX3_xOf 0 = .ok (.aload_n 0, 1) := by decide +kernel
theorem dX3_xOf_1 : decode cX3_xOf 1 = .ok (.getfield 14, 3) := by decide +kernel
theorem dX3_xOf_4 : decode cX3_xOf 4 = .ok (.iload_n 1, 1) := by decide +kernel
theorem dX3_xOf_5 : decode cX3_xOf 5 = .ok (.invokevirtual 40, 3) := by decide +kernel
theorem dX3_xOf_8 : decode cX3_xOf 8 = .ok (.ireturn, 1) := by decide +kernel
theorem dX3_yOf_0 : decode cX3_yOf 0 = .ok (.aload_n 0, 1) := by decide +kernel
theorem dX3_yOf_1 : decode cX3_yOf 1 = .ok (.getfield 20, 3) := by decide +kernel
theorem dX3_yOf_4 : decode cX3_yOf 4 = .ok (.iload_n 1, 1) := by decide +kernel
theorem dX3_yOf_5 : decode cX3_yOf 5 = .ok (.invokevirtual 40, 3) := by decide +kernel
theorem dX3_yOf_8 : decode cX3_yOf 8 = .ok (.ireturn, 1) := by decide +kernel
theorem dX3_lowEnd_0 : decode cX3_lowEnd 0 = .ok (.aload_n 0, 1) := by decide +kernel
theorem dX3_lowEnd_1 : decode cX3_lowEnd 1 = .ok (.getfield 23, 3) := by decide +kernel
theorem dX3_lowEnd_4 : decode cX3_lowEnd 4 = .ok (.iload_n 1, 1) := by decide +kernel
theorem dX3_lowEnd_5 : decode cX3_lowEnd 5 = .ok (.invokevirtual 40, 3) := by decide +kernel
theorem dX3_lowEnd_8 : decode cX3_lowEnd 8 = .ok (.ireturn, 1) := by decide +kernel
theorem dX3_highEnd_0 : decode cX3_highEnd 0 = .ok (.aload_n 0, 1) := by decide +kernel
theorem dX3_highEnd_1 : decode cX3_highEnd 1 = .ok (.getfield 26, 3) := by decide +kernel
theorem dX3_highEnd_4 : decode cX3_highEnd 4 = .ok (.iload_n 1, 1) := by decide +kernel
theorem dX3_highEnd_5 : decode cX3_highEnd 5 = .ok (.invokevirtual 40, 3) := by decide +kernel
theorem dX3_highEnd_8 : decode cX3_highEnd 8 = .ok (.ireturn, 1) := by decide +kernel
theorem dX3_pointAt_0 : decode cX3_pointAt 0 = .ok (.iconst 0, 1) := by decide +kernel
theorem dX3_pointAt_1 : decode cX3_pointAt 1 = .ok (.istore_n 3, 1) := by decide +kernel
theorem dX3_pointAt_2 : decode cX3_pointAt 2 = .ok (.iload_n 3, 1) := by decide +kernel
theorem dX3_pointAt_3 : decode cX3_pointAt 3 = .ok (.aload_n 0, 1) := by decide +kernel
theorem dX3_pointAt_4 : decode cX3_pointAt 4 = .ok (.getfield 29, 3) := by decide +kernel
theorem dX3_pointAt_7 : decode cX3_pointAt 7 = .ok (.if_icmp .ge 35, 3) := by decide +kernel
theorem dX3_pointAt_10 : decode cX3_pointAt 10 = .ok (.aload_n 0, 1) := by decide +kernel
theorem dX3_pointAt_11 : decode cX3_pointAt 11 = .ok (.getfield 14, 3) := by decide +kernel
theorem dX3_pointAt_14 : decode cX3_pointAt 14 = .ok (.iload_n 3, 1) := by decide +kernel
theorem dX3_pointAt_15 : decode cX3_pointAt 15 = .ok (.invokevirtual 40, 3) := by decide +kernel
theorem dX3_pointAt_18 : decode cX3_pointAt 18 = .ok (.iload_n 1, 1) := by decide +kernel
theorem dX3_pointAt_19 : decode cX3_pointAt 19 = .ok (.if_icmp .ne 17, 3) := by decide +kernel
theorem dX3_pointAt_22 : decode cX3_pointAt 22 = .ok (.aload_n 0, 1) := by decide +kernel
theorem dX3_pointAt_23 : decode cX3_pointAt 23 = .ok (.getfield 20, 3) := by decide +kernel
theorem dX3_pointAt_26 : decode cX3_pointAt 26 = .ok (.iload_n 3, 1) := by decide +kernel
theorem dX3_pointAt_27 : decode cX3_pointAt 27 = .ok (.invokevirtual 40, 3) := by decide +kernel
theorem dX3_pointAt_30 : decode cX3_pointAt 30 = .ok (.iload_n 2, 1) := by decide +kernel
theorem dX3_pointAt_31 : decode cX3_pointAt 31 = .ok (.if_icmp .ne 5, 3) := by decide +kernel
theorem dX3_pointAt_34 : decode cX3_pointAt 34 = .ok (.iload_n 3, 1) := by decide +kernel
theorem dX3_pointAt_35 : decode cX3_pointAt 35 = .ok (.ireturn, 1) := by decide +kernel
theorem dX3_pointAt_36 : decode cX3_pointAt 36 = .ok (.iinc 3 1, 3) := by decide +kernel
theorem dX3_pointAt_39 : decode cX3_pointAt 39 = .ok (.goto (-37), 3) := by decide +kernel
theorem dX3_pointAt_42 : decode cX3_pointAt 42 = .ok (.iconst (-1), 1) := by decide +kernel
theorem dX3_pointAt_43 : decode cX3_pointAt 43 = .ok (.ireturn, 1) := by decide +kernel
theorem dX3_endsConstraint_0 : decode cX3_endsConstraint 0 = .ok (.iconst 0, 1) := by decide +kernel
theorem dX3_endsConstraint_1 : decode cX3_endsConstraint 1 = .ok (.istore_n 2, 1) := by decide +kernel
theorem dX3_endsConstraint_2 : decode cX3_endsConstraint 2 = .ok (.iload_n 2, 1) := by decide +kernel
theorem dX3_endsConstraint_3 : decode cX3_endsConstraint 3 = .ok (.aload_n 0, 1) := by decide +kernel
theorem dX3_endsConstraint_4 : decode cX3_endsConstraint 4 = .ok (.getfield 33, 3) := by decide +kernel
theorem dX3_endsConstraint_7 : decode cX3_endsConstraint 7 = .ok (.if_icmp .ge 35, 3) := by decide +kernel
theorem dX3_endsConstraint_10 : decode cX3_endsConstraint 10 = .ok (.aload_n 0, 1) := by decide +kernel
theorem dX3_endsConstraint_11 : decode cX3_endsConstraint 11 = .ok (.getfield 23, 3) := by decide +kernel
theorem dX3_endsConstraint_14 : decode cX3_endsConstraint 14 = .ok (.iload_n 2, 1) := by decide +kernel
theorem dX3_endsConstraint_15 : decode cX3_endsConstraint 15 = .ok (.invokevirtual 40, 3) := by decide +kernel
theorem dX3_endsConstraint_18 : decode cX3_endsConstraint 18 = .ok (.iload_n 1, 1) := by decide +kernel
theorem dX3_endsConstraint_19 : decode cX3_endsConstraint 19 = .ok (.if_icmp .eq 15, 3) := by decide +kernel
theorem dX3_endsConstraint_22 : decode cX3_endsConstraint 22 = .ok (.aload_n 0, 1) := by decide +kernel
theorem dX3_endsConstraint_23 : decode cX3_endsConstraint 23 = .ok (.getfield 26, 3) := by decide +kernel
theorem dX3_endsConstraint_26 : decode cX3_endsConstraint 26 = .ok (.iload_n 2, 1) := by decide +kernel
theorem dX3_endsConstraint_27 : decode cX3_endsConstraint 27 = .ok (.invokevirtual 40, 3) := by decide +kernel
theorem dX3_endsConstraint_30 : decode cX3_endsConstraint 30 = .ok (.iload_n 1, 1) := by decide +kernel
theorem dX3_endsConstraint_31 : decode cX3_endsConstraint 31 = .ok (.if_icmp .ne 5, 3) := by decide +kernel
theorem dX3_endsConstraint_34 : decode cX3_endsConstraint 34 = .ok (.iconst 1, 1) := by decide +kernel
theorem dX3_endsConstraint_35 : decode cX3_endsConstraint 35 = .ok (.ireturn, 1) := by decide +kernel
theorem dX3_endsConstraint_36 : decode cX3_endsConstraint 36 = .ok (.iinc 2 1, 3) := by decide +kernel
theorem dX3_endsConstraint_39 : decode cX3_endsConstraint 39 = .ok (.goto (-37), 3) := by decide +kernel
theorem dX3_endsConstraint_42 : decode cX3_endsConstraint 42 = .ok (.iconst 0, 1) := by decide +kernel
theorem dX3_endsConstraint_43 : decode cX3_endsConstraint 43 = .ok (.ireturn, 1) := by decide +kernel
theorem dX3_isConstraint_0 : decode cX3_isConstraint 0 = .ok (.iconst 0, 1) := by decide +kernel
theorem dX3_isConstraint_1 : decode cX3_isConstraint 1 = .ok (.istore_n 3, 1) := by decide +kernel
theorem dX3_isConstraint_2 : decode cX3_isConstraint 2 = .ok (.iload_n 3, 1) := by decide +kernel
theorem dX3_isConstraint_3 : decode cX3_isConstraint 3 = .ok (.aload_n 0, 1) := by decide +kernel
theorem dX3_isConstraint_4 : decode cX3_isConstraint 4 = .ok (.getfield 33, 3) := by decide +kernel
theorem dX3_isConstraint_7 : decode cX3_isConstraint 7 = .ok (.if_icmp .ge 43, 3) := by decide +kernel
theorem dX3_isConstraint_10 : decode cX3_isConstraint 10 = .ok (.aload_n 0, 1) := by decide +kernel
theorem dX3_isConstraint_11 : decode cX3_isConstraint 11 = .ok (.getfield 23, 3) := by decide +kernel
theorem dX3_isConstraint_14 : decode cX3_isConstraint 14 = .ok (.iload_n 3, 1) := by decide +kernel
theorem dX3_isConstraint_15 : decode cX3_isConstraint 15 = .ok (.invokevirtual 40, 3) := by decide +kernel
theorem dX3_isConstraint_18 : decode cX3_isConstraint 18 = .ok (.iload_n 1, 1) := by decide +kernel
theorem dX3_isConstraint_19 : decode cX3_isConstraint 19 = .ok (.iload_n 2, 1) := by decide +kernel
theorem dX3_isConstraint_20 : decode cX3_isConstraint 20 = .ok (.invokestatic 44, 3) := by decide +kernel
theorem dX3_isConstraint_23 : decode cX3_isConstraint 23 = .ok (.if_icmp .ne 21, 3) := by decide +kernel
theorem dX3_isConstraint_26 : decode cX3_isConstraint 26 = .ok (.aload_n 0, 1) := by decide +kernel
theorem dX3_isConstraint_27 : decode cX3_isConstraint 27 = .ok (.getfield 26, 3) := by decide +kernel
theorem dX3_isConstraint_30 : decode cX3_isConstraint 30 = .ok (.iload_n 3, 1) := by decide +kernel
theorem dX3_isConstraint_31 : decode cX3_isConstraint 31 = .ok (.invokevirtual 40, 3) := by decide +kernel
theorem dX3_isConstraint_34 : decode cX3_isConstraint 34 = .ok (.iload_n 1, 1) := by decide +kernel
theorem dX3_isConstraint_35 : decode cX3_isConstraint 35 = .ok (.iload_n 2, 1) := by decide +kernel
theorem dX3_isConstraint_36 : decode cX3_isConstraint 36 = .ok (.invokestatic 50, 3) := by decide +kernel
theorem dX3_isConstraint_39 : decode cX3_isConstraint 39 = .ok (.if_icmp .ne 5, 3) := by decide +kernel
theorem dX3_isConstraint_42 : decode cX3_isConstraint 42 = .ok (.iconst 1, 1) := by decide +kernel
theorem dX3_isConstraint_43 : decode cX3_isConstraint 43 = .ok (.ireturn, 1) := by decide +kernel
theorem dX3_isConstraint_44 : decode cX3_isConstraint 44 = .ok (.iinc 3 1, 3) := by decide +kernel
theorem dX3_isConstraint_47 : decode cX3_isConstraint 47 = .ok (.goto (-45), 3) := by decide +kernel
theorem dX3_isConstraint_50 : decode cX3_isConstraint 50 = .ok (.iconst 0, 1) := by decide +kernel
theorem dX3_isConstraint_51 : decode cX3_isConstraint 51 = .ok (.ireturn, 1) := by decide +kernel
theorem dX3_constraintCovers_0 : decode cX3_constraintCovers 0 = .ok (.iconst 0, 1) := by decide +kernel
theorem dX3_constraintCovers_1 : decode cX3_constraintCovers 1 = .ok (.istore_n 3, 1) := by decide +kernel
theorem dX3_constraintCovers_2 : decode cX3_constraintCovers 2 = .ok (.iload_n 3, 1) := by decide +kernel
theorem dX3_constraintCovers_3 : decode cX3_constraintCovers 3 = .ok (.aload_n 0, 1) := by decide +kernel
theorem dX3_constraintCovers_4 : decode cX3_constraintCovers 4 = .ok (.getfield 33, 3) := by decide +kernel
theorem dX3_constraintCovers_7 : decode cX3_constraintCovers 7 = .ok (.if_icmp .ge 36, 3) := by decide +kernel
theorem dX3_constraintCovers_10 : decode cX3_constraintCovers 10 = .ok (.aload_n 0, 1) := by decide +kernel
theorem dX3_constraintCovers_11 : decode cX3_constraintCovers 11 = .ok (.aload_n 0, 1) := by decide +kernel
theorem dX3_constraintCovers_12 : decode cX3_constraintCovers 12 = .ok (.getfield 23, 3) := by decide +kernel
theorem dX3_constraintCovers_15 : decode cX3_constraintCovers 15 = .ok (.iload_n 3, 1) := by decide +kernel
theorem dX3_constraintCovers_16 : decode cX3_constraintCovers 16 = .ok (.invokevirtual 40, 3) := by decide +kernel
theorem dX3_constraintCovers_19 : decode cX3_constraintCovers 19 = .ok (.aload_n 0, 1) := by decide +kernel
theorem dX3_constraintCovers_20 : decode cX3_constraintCovers 20 = .ok (.getfield 26, 3) := by decide +kernel
theorem dX3_constraintCovers_23 : decode cX3_constraintCovers 23 = .ok (.iload_n 3, 1) := by decide +kernel
theorem dX3_constraintCovers_24 : decode cX3_constraintCovers 24 = .ok (.invokevirtual 40, 3) := by decide +kernel
theorem dX3_constraintCovers_27 : decode cX3_constraintCovers 27 = .ok (.iload_n 1, 1) := by decide +kernel
theorem dX3_constraintCovers_28 : decode cX3_constraintCovers 28 = .ok (.iload_n 2, 1) := by decide +kernel
theorem dX3_constraintCovers_29 : decode cX3_constraintCovers 29 = .ok (.invokevirtual 53, 3) := by decide +kernel
theorem dX3_constraintCovers_32 : decode cX3_constraintCovers 32 = .ok (.ifCond .eq 5, 3) := by decide +kernel
theorem dX3_constraintCovers_35 : decode cX3_constraintCovers 35 = .ok (.iconst 1, 1) := by decide +kernel
theorem dX3_constraintCovers_36 : decode cX3_constraintCovers 36 = .ok (.ireturn, 1) := by decide +kernel
theorem dX3_constraintCovers_37 : decode cX3_constraintCovers 37 = .ok (.iinc 3 1, 3) := by decide +kernel
theorem dX3_constraintCovers_40 : decode cX3_constraintCovers 40 = .ok (.goto (-38), 3) := by decide +kernel
theorem dX3_constraintCovers_43 : decode cX3_constraintCovers 43 = .ok (.iconst 0, 1) := by decide +kernel
theorem dX3_constraintCovers_44 : decode cX3_constraintCovers 44 = .ok (.ireturn, 1) := by decide +kernel
theorem dX3_admitsPoint_0 : decode cX3_admitsPoint 0 = .ok (.aload_n 0, 1) := by decide +kernel
theorem dX3_admitsPoint_1 : decode cX3_admitsPoint 1 = .ok (.iload_n 1, 1) := by decide +kernel
theorem dX3_admitsPoint_2 : decode cX3_admitsPoint 2 = .ok (.iload_n 2, 1) := by decide +kernel
theorem dX3_admitsPoint_3 : decode cX3_admitsPoint 3 = .ok (.invokevirtual 57, 3) := by decide +kernel
theorem dX3_admitsPoint_6 : decode cX3_admitsPoint 6 = .ok (.iconst (-1), 1) := by decide +kernel
theorem dX3_admitsPoint_7 : decode cX3_admitsPoint 7 = .ok (.if_icmp .ne 16, 3) := by decide +kernel
theorem dX3_admitsPoint_10 : decode cX3_admitsPoint 10 = .ok (.aload_n 0, 1) := by decide +kernel
theorem dX3_admitsPoint_11 : decode cX3_admitsPoint 11 = .ok (.iload_n 1, 1) := by decide +kernel
theorem dX3_admitsPoint_12 : decode cX3_admitsPoint 12 = .ok (.iload_n 2, 1) := by decide +kernel
theorem dX3_admitsPoint_13 : decode cX3_admitsPoint 13 = .ok (.invokevirtual 60, 3) := by decide +kernel
theorem dX3_admitsPoint_16 : decode cX3_admitsPoint 16 = .ok (.ifCond .ne 7, 3) := by decide +kernel
theorem dX3_admitsPoint_19 : decode cX3_admitsPoint 19 = .ok (.iconst 1, 1) := by decide +kernel
theorem dX3_admitsPoint_20 : decode cX3_admitsPoint 20 = .ok (.goto 4, 3) := by decide +kernel
theorem dX3_admitsPoint_23 : decode cX3_admitsPoint 23 = .ok (.iconst 0, 1) := by decide +kernel
theorem dX3_admitsPoint_24 : decode cX3_admitsPoint 24 = .ok (.ireturn, 1) := by decide +kernel
theorem dX3_admitsSegment_0 : decode cX3_admitsSegment 0 = .ok (.aload_n 0, 1) := by decide +kernel
theorem dX3_admitsSegment_1 : decode cX3_admitsSegment 1 = .ok (.iload_n 1, 1) := by decide +kernel
theorem dX3_admitsSegment_2 : decode cX3_admitsSegment 2 = .ok (.iload_n 2, 1) := by decide +kernel
theorem dX3_admitsSegment_3 : decode cX3_admitsSegment 3 = .ok (.invokevirtual 64, 3) := by decide +kernel
theorem dX3_admitsSegment_6 : decode cX3_admitsSegment 6 = .ok (.ifCond .ne 12, 3) := by decide +kernel
theorem dX3_admitsSegment_9 : decode cX3_admitsSegment 9 = .ok (.aload_n 0, 1) := by decide +kernel
theorem dX3_admitsSegment_10 : decode cX3_admitsSegment 10 = .ok (.iload_n 1, 1) := by decide +kernel
theorem dX3_admitsSegment_11 : decode cX3_admitsSegment 11 = .ok (.iload_n 2, 1) := by decide +kernel
theorem dX3_admitsSegment_12 : decode cX3_admitsSegment 12 = .ok (.invokevirtual 67, 3) := by decide +kernel
theorem dX3_admitsSegment_15 : decode cX3_admitsSegment 15 = .ok (.ifCond .eq 5, 3) := by decide +kernel
theorem dX3_admitsSegment_18 : decode cX3_admitsSegment 18 = .ok (.iconst 0, 1) := by decide +kernel
theorem dX3_admitsSegment_19 : decode cX3_admitsSegment 19 = .ok (.ireturn, 1) := by decide +kernel
theorem dX3_admitsSegment_20 : decode cX3_admitsSegment 20 = .ok (.iconst 0, 1) := by decide +kernel
theorem dX3_admitsSegment_21 : decode cX3_admitsSegment 21 = .ok (.istore_n 3, 1) := by decide +kernel
theorem dX3_admitsSegment_22 : decode cX3_admitsSegment 22 = .ok (.iload_n 3, 1) := by decide +kernel
theorem dX3_admitsSegment_23 : decode cX3_admitsSegment 23 = .ok (.aload_n 0, 1) := by decide +kernel
theorem dX3_admitsSegment_24 : decode cX3_admitsSegment 24 = .ok (.getfield 33, 3) := by decide +kernel
theorem dX3_admitsSegment_27 : decode cX3_admitsSegment 27 = .ok (.if_icmp .ge 36, 3) := by decide +kernel
theorem dX3_admitsSegment_30 : decode cX3_admitsSegment 30 = .ok (.aload_n 0, 1) := by decide +kernel
theorem dX3_admitsSegment_31 : decode cX3_admitsSegment 31 = .ok (.iload_n 1, 1) := by decide +kernel
theorem dX3_admitsSegment_32 : decode cX3_admitsSegment 32 = .ok (.iload_n 2, 1) := by decide +kernel
theorem dX3_admitsSegment_33 : decode cX3_admitsSegment 33 = .ok (.aload_n 0, 1) := by decide +kernel
theorem dX3_admitsSegment_34 : decode cX3_admitsSegment 34 = .ok (.getfield 23, 3) := by decide +kernel
theorem dX3_admitsSegment_37 : decode cX3_admitsSegment 37 = .ok (.iload_n 3, 1) := by decide +kernel
theorem dX3_admitsSegment_38 : decode cX3_admitsSegment 38 = .ok (.invokevirtual 40, 3) := by decide +kernel
theorem dX3_admitsSegment_41 : decode cX3_admitsSegment 41 = .ok (.aload_n 0, 1) := by decide +kernel
theorem dX3_admitsSegment_42 : decode cX3_admitsSegment 42 = .ok (.getfield 26, 3) := by decide +kernel
theorem dX3_admitsSegment_45 : decode cX3_admitsSegment 45 = .ok (.iload_n 3, 1) := by decide +kernel
theorem dX3_admitsSegment_46 : decode cX3_admitsSegment 46 = .ok (.invokevirtual 40, 3) := by decide +kernel
theorem dX3_admitsSegment_49 : decode cX3_admitsSegment 49 = .ok (.invokevirtual 70, 3) := by decide +kernel
theorem dX3_admitsSegment_52 : decode cX3_admitsSegment 52 = .ok (.ifCond .eq 5, 3) := by decide +kernel
theorem dX3_admitsSegment_55 : decode cX3_admitsSegment 55 = .ok (.iconst 0, 1) := by decide +kernel
theorem dX3_admitsSegment_56 : decode cX3_admitsSegment 56 = .ok (.ireturn, 1) := by decide +kernel
theorem dX3_admitsSegment_57 : decode cX3_admitsSegment 57 = .ok (.iinc 3 1, 3) := by decide +kernel
theorem dX3_admitsSegment_60 : decode cX3_admitsSegment 60 = .ok (.goto (-38), 3) := by decide +kernel
theorem dX3_admitsSegment_63 : decode cX3_admitsSegment 63 = .ok (.iconst 1, 1) := by decide +kernel
theorem dX3_admitsSegment_64 : decode cX3_admitsSegment 64 = .ok (.ireturn, 1) := by decide +kernel
theorem dX3_appendPoint_0 : decode cX3_appendPoint 0 = .ok (.aload_n 0, 1) := by decide +kernel
theorem dX3_appendPoint_1 : decode cX3_appendPoint 1 = .ok (.aload_n 0, 1) := by decide +kernel
theorem dX3_appendPoint_2 : decode cX3_appendPoint 2 = .ok (.getfield 29, 3) := by decide +kernel
theorem dX3_appendPoint_5 : decode cX3_appendPoint 5 = .ok (.iload_n 1, 1) := by decide +kernel
theorem dX3_appendPoint_6 : decode cX3_appendPoint 6 = .ok (.iload_n 2, 1) := by decide +kernel
theorem dX3_appendPoint_7 : decode cX3_appendPoint 7 = .ok (.invokevirtual 73, 3) := by decide +kernel
theorem dX3_appendPoint_10 : decode cX3_appendPoint 10 = .ok (.aload_n 0, 1) := by decide +kernel
theorem dX3_appendPoint_11 : decode cX3_appendPoint 11 = .ok (.dup, 1) := by decide +kernel
theorem dX3_appendPoint_12 : decode cX3_appendPoint 12 = .ok (.getfield 29, 3) := by decide +kernel
theorem dX3_appendPoint_15 : decode cX3_appendPoint 15 = .ok (.iconst 1, 1) := by decide +kernel
theorem dX3_appendPoint_16 : decode cX3_appendPoint 16 = .ok (.iadd, 1) := by decide +kernel
theorem dX3_appendPoint_17 : decode cX3_appendPoint 17 = .ok (.putfield 29, 3) := by decide +kernel
theorem dX3_appendPoint_20 : decode cX3_appendPoint 20 = .ok (.return_, 1) := by decide +kernel
theorem dX3_placePoint_0 : decode cX3_placePoint 0 = .ok (.aload_n 0, 1) := by decide +kernel
theorem dX3_placePoint_1 : decode cX3_placePoint 1 = .ok (.getfield 14, 3) := by decide +kernel
theorem dX3_placePoint_4 : decode cX3_placePoint 4 = .ok (.iload_n 1, 1) := by decide +kernel
theorem dX3_placePoint_5 : decode cX3_placePoint 5 = .ok (.iload_n 2, 1) := by decide +kernel
theorem dX3_placePoint_6 : decode cX3_placePoint 6 = .ok (.invokevirtual 77, 3) := by decide +kernel
theorem dX3_placePoint_9 : decode cX3_placePoint 9 = .ok (.aload_n 0, 1) := by decide +kernel
theorem dX3_placePoint_10 : decode cX3_placePoint 10 = .ok (.getfield 20, 3) := by decide +kernel
theorem dX3_placePoint_13 : decode cX3_placePoint 13 = .ok (.iload_n 1, 1) := by decide +kernel
theorem dX3_placePoint_14 : decode cX3_placePoint 14 = .ok (.iload_n 3, 1) := by decide +kernel
theorem dX3_placePoint_15 : decode cX3_placePoint 15 = .ok (.invokevirtual 77, 3) := by decide +kernel
theorem dX3_placePoint_18 : decode cX3_placePoint 18 = .ok (.return_, 1) := by decide +kernel
theorem dX3_dropPoint_0 : decode cX3_dropPoint 0 = .ok (.aload_n 0, 1) := by decide +kernel
theorem dX3_dropPoint_1 : decode cX3_dropPoint 1 = .ok (.getfield 14, 3) := by decide +kernel
theorem dX3_dropPoint_4 : decode cX3_dropPoint 4 = .ok (.iload_n 1, 1) := by decide +kernel
theorem dX3_dropPoint_5 : decode cX3_dropPoint 5 = .ok (.invokevirtual 81, 3) := by decide +kernel
theorem dX3_dropPoint_8 : decode cX3_dropPoint 8 = .ok (.aload_n 0, 1) := by decide +kernel
theorem dX3_dropPoint_9 : decode cX3_dropPoint 9 = .ok (.getfield 20, 3) := by decide +kernel
theorem dX3_dropPoint_12 : decode cX3_dropPoint 12 = .ok (.iload_n 1, 1) := by decide +kernel
theorem dX3_dropPoint_13 : decode cX3_dropPoint 13 = .ok (.invokevirtual 81, 3) := by decide +kernel
theorem dX3_dropPoint_16 : decode cX3_dropPoint 16 = .ok (.aload_n 0, 1) := by decide +kernel
theorem dX3_dropPoint_17 : decode cX3_dropPoint 17 = .ok (.dup, 1) := by decide +kernel
theorem dX3_dropPoint_18 : decode cX3_dropPoint 18 = .ok (.getfield 29, 3) := by decide +kernel
theorem dX3_dropPoint_21 : decode cX3_dropPoint 21 = .ok (.iconst 1, 1) := by decide +kernel
theorem dX3_dropPoint_22 : decode cX3_dropPoint 22 = .ok (.isub, 1) := by decide +kernel
theorem dX3_dropPoint_23 : decode cX3_dropPoint 23 = .ok (.putfield 29, 3) := by decide +kernel
theorem dX3_dropPoint_26 : decode cX3_dropPoint 26 = .ok (.iconst 0, 1) := by decide +kernel
theorem dX3_dropPoint_27 : decode cX3_dropPoint 27 = .ok (.istore_n 2, 1) := by decide +kernel
theorem dX3_dropPoint_28 : decode cX3_dropPoint 28 = .ok (.iload_n 2, 1) := by decide +kernel
theorem dX3_dropPoint_29 : decode cX3_dropPoint 29 = .ok (.aload_n 0, 1) := by decide +kernel
theorem dX3_dropPoint_30 : decode cX3_dropPoint 30 = .ok (.getfield 33, 3) := by decide +kernel
theorem dX3_dropPoint_33 : decode cX3_dropPoint 33 = .ok (.if_icmp .ge 49, 3) := by decide +kernel
theorem dX3_dropPoint_36 : decode cX3_dropPoint 36 = .ok (.aload_n 0, 1) := by decide +kernel
theorem dX3_dropPoint_37 : decode cX3_dropPoint 37 = .ok (.getfield 23, 3) := by decide +kernel
theorem dX3_dropPoint_40 : decode cX3_dropPoint 40 = .ok (.iload_n 2, 1) := by decide +kernel
theorem dX3_dropPoint_41 : decode cX3_dropPoint 41 = .ok (.aload_n 0, 1) := by decide +kernel
theorem dX3_dropPoint_42 : decode cX3_dropPoint 42 = .ok (.getfield 23, 3) := by decide +kernel
theorem dX3_dropPoint_45 : decode cX3_dropPoint 45 = .ok (.iload_n 2, 1) := by decide +kernel
theorem dX3_dropPoint_46 : decode cX3_dropPoint 46 = .ok (.invokevirtual 40, 3) := by decide +kernel
theorem dX3_dropPoint_49 : decode cX3_dropPoint 49 = .ok (.iload_n 1, 1) := by decide +kernel
theorem dX3_dropPoint_50 : decode cX3_dropPoint 50 = .ok (.invokestatic 84, 3) := by decide +kernel
theorem dX3_dropPoint_53 : decode cX3_dropPoint 53 = .ok (.invokevirtual 77, 3) := by decide +kernel
theorem dX3_dropPoint_56 : decode cX3_dropPoint 56 = .ok (.aload_n 0, 1) := by decide +kernel
theorem dX3_dropPoint_57 : decode cX3_dropPoint 57 = .ok (.getfield 26, 3) := by decide +kernel
theorem dX3_dropPoint_60 : decode cX3_dropPoint 60 = .ok (.iload_n 2, 1) := by decide +kernel
theorem dX3_dropPoint_61 : decode cX3_dropPoint 61 = .ok (.aload_n 0, 1) := by decide +kernel
theorem dX3_dropPoint_62 : decode cX3_dropPoint 62 = .ok (.getfield 26, 3) := by decide +kernel
theorem dX3_dropPoint_65 : decode cX3_dropPoint 65 = .ok (.iload_n 2, 1) := by decide +kernel
theorem dX3_dropPoint_66 : decode cX3_dropPoint 66 = .ok (.invokevirtual 40, 3) := by decide +kernel
theorem dX3_dropPoint_69 : decode cX3_dropPoint 69 = .ok (.iload_n 1, 1) := by decide +kernel
theorem dX3_dropPoint_70 : decode cX3_dropPoint 70 = .ok (.invokestatic 84, 3) := by decide +kernel
theorem dX3_dropPoint_73 : decode cX3_dropPoint 73 = .ok (.invokevirtual 77, 3) := by decide +kernel
theorem dX3_dropPoint_76 : decode cX3_dropPoint 76 = .ok (.iinc 2 1, 3) := by decide +kernel
theorem dX3_dropPoint_79 : decode cX3_dropPoint 79 = .ok (.goto (-51), 3) := by decide +kernel
theorem dX3_dropPoint_82 : decode cX3_dropPoint 82 = .ok (.return_, 1) := by decide +kernel
theorem dX3_numberAfter_0 : decode cX3_numberAfter 0 = .ok (.iload_n 0, 1) := by decide +kernel
theorem dX3_numberAfter_1 : decode cX3_numberAfter 1 = .ok (.iload_n 1, 1) := by decide +kernel
theorem dX3_numberAfter_2 : decode cX3_numberAfter 2 = .ok (.if_icmp .le 9, 3) := by decide +kernel
theorem dX3_numberAfter_5 : decode cX3_numberAfter 5 = .ok (.iload_n 0, 1) := by decide +kernel
theorem dX3_numberAfter_6 : decode cX3_numberAfter 6 = .ok (.iconst 1, 1) := by decide +kernel
theorem dX3_numberAfter_7 : decode cX3_numberAfter 7 = .ok (.isub, 1) := by decide +kernel
theorem dX3_numberAfter_8 : decode cX3_numberAfter 8 = .ok (.goto 4, 3) := by decide +kernel
theorem dX3_numberAfter_11 : decode cX3_numberAfter 11 = .ok (.iload_n 0, 1) := by decide +kernel
theorem dX3_numberAfter_12 : decode cX3_numberAfter 12 = .ok (.ireturn, 1) := by decide +kernel
theorem dX3_appendConstraint_0 : decode cX3_appendConstraint 0 = .ok (.aload_n 0, 1) := by decide +kernel
theorem dX3_appendConstraint_1 : decode cX3_appendConstraint 1 = .ok (.getfield 23, 3) := by decide +kernel
theorem dX3_appendConstraint_4 : decode cX3_appendConstraint 4 = .ok (.aload_n 0, 1) := by decide +kernel
theorem dX3_appendConstraint_5 : decode cX3_appendConstraint 5 = .ok (.getfield 33, 3) := by decide +kernel
theorem dX3_appendConstraint_8 : decode cX3_appendConstraint 8 = .ok (.iload_n 1, 1) := by decide +kernel
theorem dX3_appendConstraint_9 : decode cX3_appendConstraint 9 = .ok (.iload_n 2, 1) := by decide +kernel
theorem dX3_appendConstraint_10 : decode cX3_appendConstraint 10 = .ok (.invokestatic 44, 3) := by decide +kernel
theorem dX3_appendConstraint_13 : decode cX3_appendConstraint 13 = .ok (.invokevirtual 77, 3) := by decide +kernel
theorem dX3_appendConstraint_16 : decode cX3_appendConstraint 16 = .ok (.aload_n 0, 1) := by decide +kernel
theorem dX3_appendConstraint_17 : decode cX3_appendConstraint 17 = .ok (.getfield 26, 3) := by decide +kernel
theorem dX3_appendConstraint_20 : decode cX3_appendConstraint 20 = .ok (.aload_n 0, 1) := by decide +kernel
theorem dX3_appendConstraint_21 : decode cX3_appendConstraint 21 = .ok (.getfield 33, 3) := by decide +kernel
theorem dX3_appendConstraint_24 : decode cX3_appendConstraint 24 = .ok (.iload_n 1, 1) := by decide +kernel
theorem dX3_appendConstraint_25 : decode cX3_appendConstraint 25 = .ok (.iload_n 2, 1) := by decide +kernel
theorem dX3_appendConstraint_26 : decode cX3_appendConstraint 26 = .ok (.invokestatic 50, 3) := by decide +kernel
theorem dX3_appendConstraint_29 : decode cX3_appendConstraint 29 = .ok (.invokevirtual 77, 3) := by decide +kernel
theorem dX3_appendConstraint_32 : decode cX3_appendConstraint 32 = .ok (.aload_n 0, 1) := by decide +kernel
theorem dX3_appendConstraint_33 : decode cX3_appendConstraint 33 = .ok (.dup, 1) := by decide +kernel
theorem dX3_appendConstraint_34 : decode cX3_appendConstraint 34 = .ok (.getfield 33, 3) := by decide +kernel
theorem dX3_appendConstraint_37 : decode cX3_appendConstraint 37 = .ok (.iconst 1, 1) := by decide +kernel
theorem dX3_appendConstraint_38 : decode cX3_appendConstraint 38 = .ok (.iadd, 1) := by decide +kernel
theorem dX3_appendConstraint_39 : decode cX3_appendConstraint 39 = .ok (.putfield 33, 3) := by decide +kernel
theorem dX3_appendConstraint_42 : decode cX3_appendConstraint 42 = .ok (.return_, 1) := by decide +kernel
theorem dX3_dropConstraint_0 : decode cX3_dropConstraint 0 = .ok (.aload_n 0, 1) := by decide +kernel
theorem dX3_dropConstraint_1 : decode cX3_dropConstraint 1 = .ok (.getfield 23, 3) := by decide +kernel
theorem dX3_dropConstraint_4 : decode cX3_dropConstraint 4 = .ok (.iload_n 1, 1) := by decide +kernel
theorem dX3_dropConstraint_5 : decode cX3_dropConstraint 5 = .ok (.invokevirtual 81, 3) := by decide +kernel
theorem dX3_dropConstraint_8 : decode cX3_dropConstraint 8 = .ok (.aload_n 0, 1) := by decide +kernel
theorem dX3_dropConstraint_9 : decode cX3_dropConstraint 9 = .ok (.getfield 26, 3) := by decide +kernel
theorem dX3_dropConstraint_12 : decode cX3_dropConstraint 12 = .ok (.iload_n 1, 1) := by decide +kernel
theorem dX3_dropConstraint_13 : decode cX3_dropConstraint 13 = .ok (.invokevirtual 81, 3) := by decide +kernel
theorem dX3_dropConstraint_16 : decode cX3_dropConstraint 16 = .ok (.aload_n 0, 1) := by decide +kernel
theorem dX3_dropConstraint_17 : decode cX3_dropConstraint 17 = .ok (.dup, 1) := by decide +kernel
theorem dX3_dropConstraint_18 : decode cX3_dropConstraint 18 = .ok (.getfield 33, 3) := by decide +kernel
theorem dX3_dropConstraint_21 : decode cX3_dropConstraint 21 = .ok (.iconst 1, 1) := by decide +kernel
theorem dX3_dropConstraint_22 : decode cX3_dropConstraint 22 = .ok (.isub, 1) := by decide +kernel
theorem dX3_dropConstraint_23 : decode cX3_dropConstraint 23 = .ok (.putfield 33, 3) := by decide +kernel
theorem dX3_dropConstraint_26 : decode cX3_dropConstraint 26 = .ok (.return_, 1) := by decide +kernel
theorem dX3_twiceSignedArea_0 : decode cX3_twiceSignedArea 0 = .ok (.aload_n 0, 1) := by decide +kernel
theorem dX3_twiceSignedArea_1 : decode cX3_twiceSignedArea 1 = .ok (.getfield 14, 3) := by decide +kernel
theorem dX3_twiceSignedArea_4 : decode cX3_twiceSignedArea 4 = .ok (.iload_n 1, 1) := by decide +kernel
theorem dX3_twiceSignedArea_5 : decode cX3_twiceSignedArea 5 = .ok (.invokevirtual 40, 3) := by decide +kernel
theorem dX3_twiceSignedArea_8 : decode cX3_twiceSignedArea 8 = .ok (.istore 5, 2) := by decide +kernel
theorem dX3_twiceSignedArea_10 : decode cX3_twiceSignedArea 10 = .ok (.aload_n 0, 1) := by decide +kernel
theorem dX3_twiceSignedArea_11 : decode cX3_twiceSignedArea 11 = .ok (.getfield 20, 3) := by decide +kernel
theorem dX3_twiceSignedArea_14 : decode cX3_twiceSignedArea 14 = .ok (.iload_n 1, 1) := by decide +kernel
theorem dX3_twiceSignedArea_15 : decode cX3_twiceSignedArea 15 = .ok (.invokevirtual 40, 3) := by decide +kernel
theorem dX3_twiceSignedArea_18 : decode cX3_twiceSignedArea 18 = .ok (.istore 6, 2) := by decide +kernel
theorem dX3_twiceSignedArea_20 : decode cX3_twiceSignedArea 20 = .ok (.aload_n 0, 1) := by decide +kernel
theorem dX3_twiceSignedArea_21 : decode cX3_twiceSignedArea 21 = .ok (.getfield 14, 3) := by decide +kernel
theorem dX3_twiceSignedArea_24 : decode cX3_twiceSignedArea 24 = .ok (.iload_n 2, 1) := by decide +kernel
theorem dX3_twiceSignedArea_25 : decode cX3_twiceSignedArea 25 = .ok (.invokevirtual 40, 3) := by decide +kernel
theorem dX3_twiceSignedArea_28 : decode cX3_twiceSignedArea 28 = .ok (.iload 5, 2) := by decide +kernel
theorem dX3_twiceSignedArea_30 : decode cX3_twiceSignedArea 30 = .ok (.isub, 1) := by decide +kernel
theorem dX3_twiceSignedArea_31 : decode cX3_twiceSignedArea 31 = .ok (.iload 4, 2) := by decide +kernel
theorem dX3_twiceSignedArea_33 : decode cX3_twiceSignedArea 33 = .ok (.iload 6, 2) := by decide +kernel
theorem dX3_twiceSignedArea_35 : decode cX3_twiceSignedArea 35 = .ok (.isub, 1) := by decide +kernel
theorem dX3_twiceSignedArea_36 : decode cX3_twiceSignedArea 36 = .ok (.imul, 1) := by decide +kernel
theorem dX3_twiceSignedArea_37 : decode cX3_twiceSignedArea 37 = .ok (.aload_n 0, 1) := by decide +kernel
theorem dX3_twiceSignedArea_38 : decode cX3_twiceSignedArea 38 = .ok (.getfield 20, 3) := by decide +kernel
theorem dX3_twiceSignedArea_41 : decode cX3_twiceSignedArea 41 = .ok (.iload_n 2, 1) := by decide +kernel
theorem dX3_twiceSignedArea_42 : decode cX3_twiceSignedArea 42 = .ok (.invokevirtual 40, 3) := by decide +kernel
theorem dX3_twiceSignedArea_45 : decode cX3_twiceSignedArea 45 = .ok (.iload 6, 2) := by decide +kernel
theorem dX3_twiceSignedArea_47 : decode cX3_twiceSignedArea 47 = .ok (.isub, 1) := by decide +kernel
theorem dX3_twiceSignedArea_48 : decode cX3_twiceSignedArea 48 = .ok (.iload_n 3, 1) := by decide +kernel
theorem dX3_twiceSignedArea_49 : decode cX3_twiceSignedArea 49 = .ok (.iload 5, 2) := by decide +kernel
theorem dX3_twiceSignedArea_51 : decode cX3_twiceSignedArea 51 = .ok (.isub, 1) := by decide +kernel
theorem dX3_twiceSignedArea_52 : decode cX3_twiceSignedArea 52 = .ok (.imul, 1) := by decide +kernel
theorem dX3_twiceSignedArea_53 : decode cX3_twiceSignedArea 53 = .ok (.isub, 1) := by decide +kernel
theorem dX3_twiceSignedArea_54 : decode cX3_twiceSignedArea 54 = .ok (.ireturn, 1) := by decide +kernel
theorem dX3_side_0 : decode cX3_side 0 = .ok (.aload_n 0, 1) := by decide +kernel
theorem dX3_side_1 : decode cX3_side 1 = .ok (.iload_n 1, 1) := by decide +kernel
theorem dX3_side_2 : decode cX3_side 2 = .ok (.iload_n 2, 1) := by decide +kernel
theorem dX3_side_3 : decode cX3_side 3 = .ok (.aload_n 0, 1) := by decide +kernel
theorem dX3_side_4 : decode cX3_side 4 = .ok (.getfield 14, 3) := by decide +kernel
theorem dX3_side_7 : decode cX3_side 7 = .ok (.iload_n 3, 1) := by decide +kernel
theorem dX3_side_8 : decode cX3_side 8 = .ok (.invokevirtual 40, 3) := by decide +kernel
theorem dX3_side_11 : decode cX3_side 11 = .ok (.aload_n 0, 1) := by decide +kernel
theorem dX3_side_12 : decode cX3_side 12 = .ok (.getfield 20, 3) := by decide +kernel
theorem dX3_side_15 : decode cX3_side 15 = .ok (.iload_n 3, 1) := by decide +kernel
theorem dX3_side_16 : decode cX3_side 16 = .ok (.invokevirtual 40, 3) := by decide +kernel
theorem dX3_side_19 : decode cX3_side 19 = .ok (.invokevirtual 87, 3) := by decide +kernel
theorem dX3_side_22 : decode cX3_side 22 = .ok (.i2l, 1) := by decide +kernel
theorem dX3_side_23 : decode cX3_side 23 = .ok (.invokestatic 91, 3) := by decide +kernel
theorem dX3_side_26 : decode cX3_side 26 = .ok (.ireturn, 1) := by decide +kernel
theorem dX3_covers_0 : decode cX3_covers 0 = .ok (.aload_n 0, 1) := by decide +kernel
theorem dX3_covers_1 : decode cX3_covers 1 = .ok (.iload_n 1, 1) := by decide +kernel
theorem dX3_covers_2 : decode cX3_covers 2 = .ok (.iload_n 2, 1) := by decide +kernel
theorem dX3_covers_3 : decode cX3_covers 3 = .ok (.iload_n 3, 1) := by decide +kernel
theorem dX3_covers_4 : decode cX3_covers 4 = .ok (.iload 4, 2) := by decide +kernel
theorem dX3_covers_6 : decode cX3_covers 6 = .ok (.invokevirtual 87, 3) := by decide +kernel
theorem dX3_covers_9 : decode cX3_covers 9 = .ok (.ifCond .eq 5, 3) := by decide +kernel
theorem dX3_covers_12 : decode cX3_covers 12 = .ok (.iconst 0, 1) := by decide +kernel
theorem dX3_covers_13 : decode cX3_covers 13 = .ok (.ireturn, 1) := by decide +kernel
theorem dX3_covers_14 : decode cX3_covers 14 = .ok (.aload_n 0, 1) := by decide +kernel
theorem dX3_covers_15 : decode cX3_covers 15 = .ok (.getfield 14, 3) := by decide +kernel
theorem dX3_covers_18 : decode cX3_covers 18 = .ok (.iload_n 1, 1) := by decide +kernel
theorem dX3_covers_19 : decode cX3_covers 19 = .ok (.invokevirtual 40, 3) := by decide +kernel
theorem dX3_covers_22 : decode cX3_covers 22 = .ok (.iload_n 3, 1) := by decide +kernel
theorem dX3_covers_23 : decode cX3_covers 23 = .ok (.isub, 1) := by decide +kernel
theorem dX3_covers_24 : decode cX3_covers 24 = .ok (.aload_n 0, 1) := by decide +kernel
theorem dX3_covers_25 : decode cX3_covers 25 = .ok (.getfield 14, 3) := by decide +kernel
theorem dX3_covers_28 : decode cX3_covers 28 = .ok (.iload_n 2, 1) := by decide +kernel
theorem dX3_covers_29 : decode cX3_covers 29 = .ok (.invokevirtual 40, 3) := by decide +kernel
theorem dX3_covers_32 : decode cX3_covers 32 = .ok (.iload_n 3, 1) := by decide +kernel
theorem dX3_covers_33 : decode cX3_covers 33 = .ok (.isub, 1) := by decide +kernel
theorem dX3_covers_34 : decode cX3_covers 34 = .ok (.imul, 1) := by decide +kernel
theorem dX3_covers_35 : decode cX3_covers 35 = .ok (.aload_n 0, 1) := by decide +kernel
theorem dX3_covers_36 : decode cX3_covers 36 = .ok (.getfield 20, 3) := by decide +kernel
theorem dX3_covers_39 : decode cX3_covers 39 = .ok (.iload_n 1, 1) := by decide +kernel
theorem dX3_covers_40 : decode cX3_covers 40 = .ok (.invokevirtual 40, 3) := by decide +kernel
theorem dX3_covers_43 : decode cX3_covers 43 = .ok (.iload 4, 2) := by decide +kernel
theorem dX3_covers_45 : decode cX3_covers 45 = .ok (.isub, 1) := by decide +kernel
theorem dX3_covers_46 : decode cX3_covers 46 = .ok (.aload_n 0, 1) := by decide +kernel
theorem dX3_covers_47 : decode cX3_covers 47 = .ok (.getfield 20, 3) := by decide +kernel
theorem dX3_covers_50 : decode cX3_covers 50 = .ok (.iload_n 2, 1) := by decide +kernel
theorem dX3_covers_51 : decode cX3_covers 51 = .ok (.invokevirtual 40, 3) := by decide +kernel
theorem dX3_covers_54 : decode cX3_covers 54 = .ok (.iload 4, 2) := by decide +kernel
theorem dX3_covers_56 : decode cX3_covers 56 = .ok (.isub, 1) := by decide +kernel
theorem dX3_covers_57 : decode cX3_covers 57 = .ok (.imul, 1) := by decide +kernel
theorem dX3_covers_58 : decode cX3_covers 58 = .ok (.iadd, 1) := by decide +kernel
theorem dX3_covers_59 : decode cX3_covers 59 = .ok (.ifCond .ge 7, 3) := by decide +kernel
theorem dX3_covers_62 : decode cX3_covers 62 = .ok (.iconst 1, 1) := by decide +kernel
theorem dX3_covers_63 : decode cX3_covers 63 = .ok (.goto 4, 3) := by decide +kernel
theorem dX3_covers_66 : decode cX3_covers 66 = .ok (.iconst 0, 1) := by decide +kernel
theorem dX3_covers_67 : decode cX3_covers 67 = .ok (.ireturn, 1) := by decide +kernel
theorem dX3_coversPoint_0 : decode cX3_coversPoint 0 = .ok (.iconst 0, 1) := by decide +kernel
theorem dX3_coversPoint_1 : decode cX3_coversPoint 1 = .ok (.istore_n 3, 1) := by decide +kernel
theorem dX3_coversPoint_2 : decode cX3_coversPoint 2 = .ok (.iload_n 3, 1) := by decide +kernel
theorem dX3_coversPoint_3 : decode cX3_coversPoint 3 = .ok (.aload_n 0, 1) := by decide +kernel
theorem dX3_coversPoint_4 : decode cX3_coversPoint 4 = .ok (.getfield 29, 3) := by decide +kernel
theorem dX3_coversPoint_7 : decode cX3_coversPoint 7 = .ok (.if_icmp .ge 36, 3) := by decide +kernel
theorem dX3_coversPoint_10 : decode cX3_coversPoint 10 = .ok (.aload_n 0, 1) := by decide +kernel
theorem dX3_coversPoint_11 : decode cX3_coversPoint 11 = .ok (.iload_n 1, 1) := by decide +kernel
theorem dX3_coversPoint_12 : decode cX3_coversPoint 12 = .ok (.iload_n 2, 1) := by decide +kernel
theorem dX3_coversPoint_13 : decode cX3_coversPoint 13 = .ok (.aload_n 0, 1) := by decide +kernel
theorem dX3_coversPoint_14 : decode cX3_coversPoint 14 = .ok (.getfield 14, 3) := by decide +kernel
theorem dX3_coversPoint_17 : decode cX3_coversPoint 17 = .ok (.iload_n 3, 1) := by decide +kernel
theorem dX3_coversPoint_18 : decode cX3_coversPoint 18 = .ok (.invokevirtual 40, 3) := by decide +kernel
theorem dX3_coversPoint_21 : decode cX3_coversPoint 21 = .ok (.aload_n 0, 1) := by decide +kernel
theorem dX3_coversPoint_22 : decode cX3_coversPoint 22 = .ok (.getfield 20, 3) := by decide +kernel
theorem dX3_coversPoint_25 : decode cX3_coversPoint 25 = .ok (.iload_n 3, 1) := by decide +kernel
theorem dX3_coversPoint_26 : decode cX3_coversPoint 26 = .ok (.invokevirtual 40, 3) := by decide +kernel
theorem dX3_coversPoint_29 : decode cX3_coversPoint 29 = .ok (.invokevirtual 53, 3) := by decide +kernel
theorem dX3_coversPoint_32 : decode cX3_coversPoint 32 = .ok (.ifCond .eq 5, 3) := by decide +kernel
theorem dX3_coversPoint_35 : decode cX3_coversPoint 35 = .ok (.iconst 1, 1) := by decide +kernel
theorem dX3_coversPoint_36 : decode cX3_coversPoint 36 = .ok (.ireturn, 1) := by decide +kernel
theorem dX3_coversPoint_37 : decode cX3_coversPoint 37 = .ok (.iinc 3 1, 3) := by decide +kernel
theorem dX3_coversPoint_40 : decode cX3_coversPoint 40 = .ok (.goto (-38), 3) := by decide +kernel
theorem dX3_coversPoint_43 : decode cX3_coversPoint 43 = .ok (.iconst 0, 1) := by decide +kernel
theorem dX3_coversPoint_44 : decode cX3_coversPoint 44 = .ok (.ireturn, 1) := by decide +kernel
theorem dX3_crosses_0 : decode cX3_crosses 0 = .ok (.aload_n 0, 1) := by decide +kernel
theorem dX3_crosses_1 : decode cX3_crosses 1 = .ok (.iload_n 1, 1) := by decide +kernel
theorem dX3_crosses_2 : decode cX3_crosses 2 = .ok (.iload_n 2, 1) := by decide +kernel
theorem dX3_crosses_3 : decode cX3_crosses 3 = .ok (.iload_n 3, 1) := by decide +kernel
theorem dX3_crosses_4 : decode cX3_crosses 4 = .ok (.invokevirtual 95, 3) := by decide +kernel
theorem dX3_crosses_7 : decode cX3_crosses 7 = .ok (.aload_n 0, 1) := by decide +kernel
theorem dX3_crosses_8 : decode cX3_crosses 8 = .ok (.iload_n 1, 1) := by decide +kernel
theorem dX3_crosses_9 : decode cX3_crosses 9 = .ok (.iload_n 2, 1) := by decide +kernel
theorem dX3_crosses_10 : decode cX3_crosses 10 = .ok (.iload 4, 2) := by decide +kernel
theorem dX3_crosses_12 : decode cX3_crosses 12 = .ok (.invokevirtual 95, 3) := by decide +kernel
theorem dX3_crosses_15 : decode cX3_crosses 15 = .ok (.imul, 1) := by decide +kernel
theorem dX3_crosses_16 : decode cX3_crosses 16 = .ok (.ifCond .ge 27, 3) := by decide +kernel
theorem dX3_crosses_19 : decode cX3_crosses 19 = .ok (.aload_n 0, 1) := by decide +kernel
theorem dX3_crosses_20 : decode cX3_crosses 20 = .ok (.iload_n 3, 1) := by decide +kernel
theorem dX3_crosses_21 : decode cX3_crosses 21 = .ok (.iload 4, 2) := by decide +kernel
theorem dX3_crosses_23 : decode cX3_crosses 23 = .ok (.iload_n 1, 1) := by decide +kernel
theorem dX3_crosses_24 : decode cX3_crosses 24 = .ok (.invokevirtual 95, 3) := by decide +kernel
theorem dX3_crosses_27 : decode cX3_crosses 27 = .ok (.aload_n 0, 1) := by decide +kernel
theorem dX3_crosses_28 : decode cX3_crosses 28 = .ok (.iload_n 3, 1) := by decide +kernel
theorem dX3_crosses_29 : decode cX3_crosses 29 = .ok (.iload 4, 2) := by decide +kernel
theorem dX3_crosses_31 : decode cX3_crosses 31 = .ok (.iload_n 2, 1) := by decide +kernel
theorem dX3_crosses_32 : decode cX3_crosses 32 = .ok (.invokevirtual 95, 3) := by decide +kernel
theorem dX3_crosses_35 : decode cX3_crosses 35 = .ok (.imul, 1) := by decide +kernel
theorem dX3_crosses_36 : decode cX3_crosses 36 = .ok (.ifCond .ge 7, 3) := by decide +kernel
theorem dX3_crosses_39 : decode cX3_crosses 39 = .ok (.iconst 1, 1) := by decide +kernel
theorem dX3_crosses_40 : decode cX3_crosses 40 = .ok (.goto 4, 3) := by decide +kernel
theorem dX3_crosses_43 : decode cX3_crosses 43 = .ok (.iconst 0, 1) := by decide +kernel
theorem dX3_crosses_44 : decode cX3_crosses 44 = .ok (.ireturn, 1) := by decide +kernel
theorem dX3_squaredDistance_0 : decode cX3_squaredDistance 0 = .ok (.aload_n 0, 1) := by decide +kernel
theorem dX3_squaredDistance_1 : decode cX3_squaredDistance 1 = .ok (.getfield 14, 3) := by decide +kernel
theorem dX3_squaredDistance_4 : decode cX3_squaredDistance 4 = .ok (.iload_n 1, 1) := by decide +kernel
theorem dX3_squaredDistance_5 : decode cX3_squaredDistance 5 = .ok (.invokevirtual 40, 3) := by decide +kernel
theorem dX3_squaredDistance_8 : decode cX3_squaredDistance 8 = .ok (.aload_n 0, 1) := by decide +kernel
theorem dX3_squaredDistance_9 : decode cX3_squaredDistance 9 = .ok (.getfield 14, 3) := by decide +kernel
theorem dX3_squaredDistance_12 : decode cX3_squaredDistance 12 = .ok (.iload_n 2, 1) := by decide +kernel
theorem dX3_squaredDistance_13 : decode cX3_squaredDistance 13 = .ok (.invokevirtual 40, 3) := by decide +kernel
theorem dX3_squaredDistance_16 : decode cX3_squaredDistance 16 = .ok (.isub, 1) := by decide +kernel
theorem dX3_squaredDistance_17 : decode cX3_squaredDistance 17 = .ok (.istore_n 3, 1) := by decide +kernel
theorem dX3_squaredDistance_18 : decode cX3_squaredDistance 18 = .ok (.aload_n 0, 1) := by decide +kernel
theorem dX3_squaredDistance_19 : decode cX3_squaredDistance 19 = .ok (.getfield 20, 3) := by decide +kernel
theorem dX3_squaredDistance_22 : decode cX3_squaredDistance 22 = .ok (.iload_n 1, 1) := by decide +kernel
theorem dX3_squaredDistance_23 : decode cX3_squaredDistance 23 = .ok (.invokevirtual 40, 3) := by decide +kernel
theorem dX3_squaredDistance_26 : decode cX3_squaredDistance 26 = .ok (.aload_n 0, 1) := by decide +kernel
theorem dX3_squaredDistance_27 : decode cX3_squaredDistance 27 = .ok (.getfield 20, 3) := by decide +kernel
theorem dX3_squaredDistance_30 : decode cX3_squaredDistance 30 = .ok (.iload_n 2, 1) := by decide +kernel
theorem dX3_squaredDistance_31 : decode cX3_squaredDistance 31 = .ok (.invokevirtual 40, 3) := by decide +kernel
theorem dX3_squaredDistance_34 : decode cX3_squaredDistance 34 = .ok (.isub, 1) := by decide +kernel
theorem dX3_squaredDistance_35 : decode cX3_squaredDistance 35 = .ok (.istore 4, 2) := by decide +kernel
theorem dX3_squaredDistance_37 : decode cX3_squaredDistance 37 = .ok (.iload_n 3, 1) := by decide +kernel
theorem dX3_squaredDistance_38 : decode cX3_squaredDistance 38 = .ok (.iload_n 3, 1) := by decide +kernel
theorem dX3_squaredDistance_39 : decode cX3_squaredDistance 39 = .ok (.imul, 1) := by decide +kernel
theorem dX3_squaredDistance_40 : decode cX3_squaredDistance 40 = .ok (.iload 4, 2) := by decide +kernel
theorem dX3_squaredDistance_42 : decode cX3_squaredDistance 42 = .ok (.iload 4, 2) := by decide +kernel
theorem dX3_squaredDistance_44 : decode cX3_squaredDistance 44 = .ok (.imul, 1) := by decide +kernel
theorem dX3_squaredDistance_45 : decode cX3_squaredDistance 45 = .ok (.iadd, 1) := by decide +kernel
theorem dX3_squaredDistance_46 : decode cX3_squaredDistance 46 = .ok (.ireturn, 1) := by decide +kernel
theorem dX3_circleSide_0 : decode cX3_circleSide 0 = .ok (.aload_n 0, 1) := by decide +kernel
theorem dX3_circleSide_1 : decode cX3_circleSide 1 = .ok (.getfield 14, 3) := by decide +kernel
theorem dX3_circleSide_4 : decode cX3_circleSide 4 = .ok (.iload 4, 2) := by decide +kernel
theorem dX3_circleSide_6 : decode cX3_circleSide 6 = .ok (.invokevirtual 40, 3) := by decide +kernel
theorem dX3_circleSide_9 : decode cX3_circleSide 9 = .ok (.istore 5, 2) := by decide +kernel
theorem dX3_circleSide_11 : decode cX3_circleSide 11 = .ok (.aload_n 0, 1) := by decide +kernel
theorem dX3_circleSide_12 : decode cX3_circleSide 12 = .ok (.getfield 20, 3) := by decide +kernel
theorem dX3_circleSide_15 : decode cX3_circleSide 15 = .ok (.iload 4, 2) := by decide +kernel
theorem dX3_circleSide_17 : decode cX3_circleSide 17 = .ok (.invokevirtual 40, 3) := by decide +kernel
theorem dX3_circleSide_20 : decode cX3_circleSide 20 = .ok (.istore 6, 2) := by decide +kernel
theorem dX3_circleSide_22 : decode cX3_circleSide 22 = .ok (.aload_n 0, 1) := by decide +kernel
theorem dX3_circleSide_23 : decode cX3_circleSide 23 = .ok (.iload_n 1, 1) := by decide +kernel
theorem dX3_circleSide_24 : decode cX3_circleSide 24 = .ok (.iload 4, 2) := by decide +kernel
theorem dX3_circleSide_26 : decode cX3_circleSide 26 = .ok (.invokevirtual 99, 3) := by decide +kernel
theorem dX3_circleSide_29 : decode cX3_circleSide 29 = .ok (.i2l, 1) := by decide +kernel
theorem dX3_circleSide_30 : decode cX3_circleSide 30 = .ok (.aload_n 0, 1) := by decide +kernel
theorem dX3_circleSide_31 : decode cX3_circleSide 31 = .ok (.iload 5, 2) := by decide +kernel
theorem dX3_circleSide_33 : decode cX3_circleSide 33 = .ok (.iload 6, 2) := by decide +kernel
theorem dX3_circleSide_35 : decode cX3_circleSide 35 = .ok (.iload_n 2, 1) := by decide +kernel
theorem dX3_circleSide_36 : decode cX3_circleSide 36 = .ok (.iload_n 3, 1) := by decide +kernel
theorem dX3_circleSide_37 : decode cX3_circleSide 37 = .ok (.invokevirtual 102, 3) := by decide +kernel
theorem dX3_circleSide_40 : decode cX3_circleSide 40 = .ok (.i2l, 1) := by decide +kernel
theorem dX3_circleSide_41 : decode cX3_circleSide 41 = .ok (.lmul, 1) := by decide +kernel
theorem dX3_circleSide_42 : decode cX3_circleSide 42 = .ok (.aload_n 0, 1) := by decide +kernel
theorem dX3_circleSide_43 : decode cX3_circleSide 43 = .ok (.iload_n 2, 1) := by decide +kernel
theorem dX3_circleSide_44 : decode cX3_circleSide 44 = .ok (.iload 4, 2) := by decide +kernel
theorem dX3_circleSide_46 : decode cX3_circleSide 46 = .ok (.invokevirtual 99, 3) := by decide +kernel
theorem dX3_circleSide_49 : decode cX3_circleSide 49 = .ok (.i2l, 1) := by decide +kernel
theorem dX3_circleSide_50 : decode cX3_circleSide 50 = .ok (.aload_n 0, 1) := by decide +kernel
theorem dX3_circleSide_51 : decode cX3_circleSide 51 = .ok (.iload 5, 2) := by decide +kernel
theorem dX3_circleSide_53 : decode cX3_circleSide 53 = .ok (.iload 6, 2) := by decide +kernel
theorem dX3_circleSide_55 : decode cX3_circleSide 55 = .ok (.iload_n 3, 1) := by decide +kernel
theorem dX3_circleSide_56 : decode cX3_circleSide 56 = .ok (.iload_n 1, 1) := by decide +kernel
theorem dX3_circleSide_57 : decode cX3_circleSide 57 = .ok (.invokevirtual 102, 3) := by decide +kernel
theorem dX3_circleSide_60 : decode cX3_circleSide 60 = .ok (.i2l, 1) := by decide +kernel
theorem dX3_circleSide_61 : decode cX3_circleSide 61 = .ok (.lmul, 1) := by decide +kernel
theorem dX3_circleSide_62 : decode cX3_circleSide 62 = .ok (.ladd, 1) := by decide +kernel
theorem dX3_circleSide_63 : decode cX3_circleSide 63 = .ok (.aload_n 0, 1) := by decide +kernel
theorem dX3_circleSide_64 : decode cX3_circleSide 64 = .ok (.iload_n 3, 1) := by decide +kernel
theorem dX3_circleSide_65 : decode cX3_circleSide 65 = .ok (.iload 4, 2) := by decide +kernel
theorem dX3_circleSide_67 : decode cX3_circleSide 67 = .ok (.invokevirtual 99, 3) := by decide +kernel
theorem dX3_circleSide_70 : decode cX3_circleSide 70 = .ok (.i2l, 1) := by decide +kernel
theorem dX3_circleSide_71 : decode cX3_circleSide 71 = .ok (.aload_n 0, 1) := by decide +kernel
theorem dX3_circleSide_72 : decode cX3_circleSide 72 = .ok (.iload 5, 2) := by decide +kernel
theorem dX3_circleSide_74 : decode cX3_circleSide 74 = .ok (.iload 6, 2) := by decide +kernel
theorem dX3_circleSide_76 : decode cX3_circleSide 76 = .ok (.iload_n 1, 1) := by decide +kernel
theorem dX3_circleSide_77 : decode cX3_circleSide 77 = .ok (.iload_n 2, 1) := by decide +kernel
theorem dX3_circleSide_78 : decode cX3_circleSide 78 = .ok (.invokevirtual 102, 3) := by decide +kernel
theorem dX3_circleSide_81 : decode cX3_circleSide 81 = .ok (.i2l, 1) := by decide +kernel
theorem dX3_circleSide_82 : decode cX3_circleSide 82 = .ok (.lmul, 1) := by decide +kernel
theorem dX3_circleSide_83 : decode cX3_circleSide 83 = .ok (.ladd, 1) := by decide +kernel
theorem dX3_circleSide_84 : decode cX3_circleSide 84 = .ok (.lstore 7, 2) := by decide +kernel
theorem dX3_circleSide_86 : decode cX3_circleSide 86 = .ok (.lload 7, 2) := by decide +kernel
theorem dX3_circleSide_88 : decode cX3_circleSide 88 = .ok (.invokestatic 91, 3) := by decide +kernel
theorem dX3_circleSide_91 : decode cX3_circleSide 91 = .ok (.aload_n 0, 1) := by decide +kernel
theorem dX3_circleSide_92 : decode cX3_circleSide 92 = .ok (.iload_n 1, 1) := by decide +kernel
theorem dX3_circleSide_93 : decode cX3_circleSide 93 = .ok (.iload_n 2, 1) := by decide +kernel
theorem dX3_circleSide_94 : decode cX3_circleSide 94 = .ok (.iload_n 3, 1) := by decide +kernel
theorem dX3_circleSide_95 : decode cX3_circleSide 95 = .ok (.invokevirtual 95, 3) := by decide +kernel
theorem dX3_circleSide_98 : decode cX3_circleSide 98 = .ok (.imul, 1) := by decide +kernel
theorem dX3_circleSide_99 : decode cX3_circleSide 99 = .ok (.ireturn, 1) := by decide +kernel
theorem dX3_twiceAreaFrom_0 : decode cX3_twiceAreaFrom 0 = .ok (.aload_n 0, 1) := by decide +kernel
theorem dX3_twiceAreaFrom_1 : decode cX3_twiceAreaFrom 1 = .ok (.getfield 14, 3) := by decide +kernel
theorem dX3_twiceAreaFrom_4 : decode cX3_twiceAreaFrom 4 = .ok (.iload_n 3, 1) := by decide +kernel
theorem dX3_twiceAreaFrom_5 : decode cX3_twiceAreaFrom 5 = .ok (.invokevirtual 40, 3) := by decide +kernel
theorem dX3_twiceAreaFrom_8 : decode cX3_twiceAreaFrom 8 = .ok (.iload_n 1, 1) := by decide +kernel
theorem dX3_twiceAreaFrom_9 : decode cX3_twiceAreaFrom 9 = .ok (.isub, 1) := by decide +kernel
theorem dX3_twiceAreaFrom_10 : decode cX3_twiceAreaFrom 10 = .ok (.aload_n 0, 1) := by decide +kernel
theorem dX3_twiceAreaFrom_11 : decode cX3_twiceAreaFrom 11 = .ok (.getfield 20, 3) := by decide +kernel
theorem dX3_twiceAreaFrom_14 : decode cX3_twiceAreaFrom 14 = .ok (.iload 4, 2) := by decide +kernel
theorem dX3_twiceAreaFrom_16 : decode cX3_twiceAreaFrom 16 = .ok (.invokevirtual 40, 3) := by decide +kernel
theorem dX3_twiceAreaFrom_19 : decode cX3_twiceAreaFrom 19 = .ok (.iload_n 2, 1) := by decide +kernel
theorem dX3_twiceAreaFrom_20 : decode cX3_twiceAreaFrom 20 = .ok (.isub, 1) := by decide +kernel
theorem dX3_twiceAreaFrom_21 : decode cX3_twiceAreaFrom 21 = .ok (.imul, 1) := by decide +kernel
theorem dX3_twiceAreaFrom_22 : decode cX3_twiceAreaFrom 22 = .ok (.aload_n 0, 1) := by decide +kernel
theorem dX3_twiceAreaFrom_23 : decode cX3_twiceAreaFrom 23 = .ok (.getfield 20, 3) := by decide +kernel
theorem dX3_twiceAreaFrom_26 : decode cX3_twiceAreaFrom 26 = .ok (.iload_n 3, 1) := by decide +kernel
theorem dX3_twiceAreaFrom_27 : decode cX3_twiceAreaFrom 27 = .ok (.invokevirtual 40, 3) := by decide +kernel
theorem dX3_twiceAreaFrom_30 : decode cX3_twiceAreaFrom 30 = .ok (.iload_n 2, 1) := by decide +kernel
theorem dX3_twiceAreaFrom_31 : decode cX3_twiceAreaFrom 31 = .ok (.isub, 1) := by decide +kernel
theorem dX3_twiceAreaFrom_32 : decode cX3_twiceAreaFrom 32 = .ok (.aload_n 0, 1) := by decide +kernel
theorem dX3_twiceAreaFrom_33 : decode cX3_twiceAreaFrom 33 = .ok (.getfield 14, 3) := by decide +kernel
theorem dX3_twiceAreaFrom_36 : decode cX3_twiceAreaFrom 36 = .ok (.iload 4, 2) := by decide +kernel
theorem dX3_twiceAreaFrom_38 : decode cX3_twiceAreaFrom 38 = .ok (.invokevirtual 40, 3) := by decide +kernel
theorem dX3_twiceAreaFrom_41 : decode cX3_twiceAreaFrom 41 = .ok (.iload_n 1, 1) := by decide +kernel
theorem dX3_twiceAreaFrom_42 : decode cX3_twiceAreaFrom 42 = .ok (.isub, 1) := by decide +kernel
theorem dX3_twiceAreaFrom_43 : decode cX3_twiceAreaFrom 43 = .ok (.imul, 1) := by decide +kernel
theorem dX3_twiceAreaFrom_44 : decode cX3_twiceAreaFrom 44 = .ok (.isub, 1) := by decide +kernel
theorem dX3_twiceAreaFrom_45 : decode cX3_twiceAreaFrom 45 = .ok (.ireturn, 1) := by decide +kernel
theorem dX4_init_0 : decode cX4_init 0 = .ok (.aload_n 0, 1) := by decide +kernel
theorem dX4_init_1 : decode cX4_init 1 = .ok (.invokespecial 1, 3) := by decide +kernel
theorem dX4_init_4 : decode cX4_init 4 = .ok (.aload_n 0, 1) := by decide +kernel
theorem dX4_init_5 : decode cX4_init 5 = .ok (.iconst 0, 1) := by decide +kernel
theorem dX4_init_6 : decode cX4_init 6 = .ok (.iload_n 1, 1) := by decide +kernel
theorem dX4_init_7 : decode cX4_init 7 = .ok (.invokestatic 7, 3) := by decide +kernel
theorem dX4_init_10 : decode cX4_init 10 = .ok (.newarray .int, 2) := by decide +kernel
theorem dX4_init_12 : decode cX4_init 12 = .ok (.putfield 13, 3) := by decide +kernel
theorem dX4_init_15 : decode cX4_init 15 = .ok (.return_, 1) := by decide +kernel
theorem dX4_get_0 : decode cX4_get 0 = .ok (.iload_n 1, 1) := by decide +kernel
theorem dX4_get_1 : decode cX4_get 1 = .ok (.ifCond .lt 21, 3) := by decide +kernel
theorem dX4_get_4 : decode cX4_get 4 = .ok (.iload_n 1, 1) := by decide +kernel
theorem dX4_get_5 : decode cX4_get 5 = .ok (.aload_n 0, 1) := by decide +kernel
theorem dX4_get_6 : decode cX4_get 6 = .ok (.getfield 13, 3) := by decide +kernel
theorem dX4_get_9 : decode cX4_get 9 = .ok (.arraylength, 1) := by decide +kernel
theorem dX4_get_10 : decode cX4_get 10 = .ok (.if_icmp .ge 12, 3) := by decide +kernel
theorem dX4_get_13 : decode cX4_get 13 = .ok (.aload_n 0, 1) := by decide +kernel
theorem dX4_get_14 : decode cX4_get 14 = .ok (.getfield 13, 3) := by decide +kernel
theorem dX4_get_17 : decode cX4_get 17 = .ok (.iload_n 1, 1) := by decide +kernel
theorem dX4_get_18 : decode cX4_get 18 = .ok (.iaload, 1) := by decide +kernel
theorem dX4_get_19 : decode cX4_get 19 = .ok (.goto 4, 3) := by decide +kernel
theorem dX4_get_22 : decode cX4_get 22 = .ok (.iconst 0, 1) := by decide +kernel
theorem dX4_get_23 : decode cX4_get 23 = .ok (.ireturn, 1) := by decide +kernel
theorem dX4_set_0 : decode cX4_set 0 = .ok (.iload_n 1, 1) := by decide +kernel
theorem dX4_set_1 : decode cX4_set 1 = .ok (.ifCond .lt 19, 3) := by decide +kernel
theorem dX4_set_4 : decode cX4_set 4 = .ok (.iload_n 1, 1) := by decide +kernel
theorem dX4_set_5 : decode cX4_set 5 = .ok (.aload_n 0, 1) := by decide +kernel
theorem dX4_set_6 : decode cX4_set 6 = .ok (.getfield 13, 3) := by decide +kernel
theorem dX4_set_9 : decode cX4_set 9 = .ok (.arraylength, 1) := by decide +kernel
theorem dX4_set_10 : decode cX4_set 10 = .ok (.if_icmp .ge 10, 3) := by decide +kernel
theorem dX4_set_13 : decode cX4_set 13 = .ok (.aload_n 0, 1) := by decide +kernel
theorem dX4_set_14 : decode cX4_set 14 = .ok (.getfield 13, 3) := by decide +kernel
theorem dX4_set_17 : decode cX4_set 17 = .ok (.iload_n 1, 1) := by decide +kernel
theorem dX4_set_18 : decode cX4_set 18 = .ok (.iload_n 2, 1) := by decide +kernel
theorem dX4_set_19 : decode cX4_set 19 = .ok (.iastore, 1) := by decide +kernel
theorem dX4_set_20 : decode cX4_set 20 = .ok (.return_, 1) := by decide +kernel
theorem dX4_closeGap_0 : decode cX4_closeGap 0 = .ok (.iconst 0, 1) := by decide +kernel
theorem dX4_closeGap_1 : decode cX4_closeGap 1 = .ok (.iload_n 1, 1) := by decide +kernel
theorem dX4_closeGap_2 : decode cX4_closeGap 2 = .ok (.invokestatic 7, 3) := by decide +kernel
theorem dX4_closeGap_5 : decode cX4_closeGap 5 = .ok (.istore_n 2, 1) := by decide +kernel
theorem dX4_closeGap_6 : decode cX4_closeGap 6 = .ok (.iload_n 2, 1) := by decide +kernel
theorem dX4_closeGap_7 : decode cX4_closeGap 7 = .ok (.aload_n 0, 1) := by decide +kernel
theorem dX4_closeGap_8 : decode cX4_closeGap 8 = .ok (.getfield 13, 3) := by decide +kernel
theorem dX4_closeGap_11 : decode cX4_closeGap 11 = .ok (.arraylength, 1) := by decide +kernel
theorem dX4_closeGap_12 : decode cX4_closeGap 12 = .ok (.iconst 1, 1) := by decide +kernel
theorem dX4_closeGap_13 : decode cX4_closeGap 13 = .ok (.isub, 1) := by decide +kernel
theorem dX4_closeGap_14 : decode cX4_closeGap 14 = .ok (.if_icmp .ge 23, 3) := by decide +kernel
theorem dX4_closeGap_17 : decode cX4_closeGap 17 = .ok (.aload_n 0, 1) := by decide +kernel
theorem dX4_closeGap_18 : decode cX4_closeGap 18 = .ok (.getfield 13, 3) := by decide +kernel
theorem dX4_closeGap_21 : decode cX4_closeGap 21 = .ok (.iload_n 2, 1) := by decide +kernel
theorem dX4_closeGap_22 : decode cX4_closeGap 22 = .ok (.aload_n 0, 1) := by decide +kernel
theorem dX4_closeGap_23 : decode cX4_closeGap 23 = .ok (.getfield 13, 3) := by decide +kernel
theorem dX4_closeGap_26 : decode cX4_closeGap 26 = .ok (.iload_n 2, 1) := by decide +kernel
theorem dX4_closeGap_27 : decode cX4_closeGap 27 = .ok (.iconst 1, 1) := by decide +kernel
theorem dX4_closeGap_28 : decode cX4_closeGap 28 = .ok (.iadd, 1) := by decide +kernel
theorem dX4_closeGap_29 : decode cX4_closeGap 29 = .ok (.iaload, 1) := by decide +kernel
theorem dX4_closeGap_30 : decode cX4_closeGap 30 = .ok (.iastore, 1) := by decide +kernel
theorem dX4_closeGap_31 : decode cX4_closeGap 31 = .ok (.iinc 2 1, 3) := by decide +kernel
theorem dX4_closeGap_34 : decode cX4_closeGap 34 = .ok (.goto (-28), 3) := by decide +kernel
theorem dX4_closeGap_37 : decode cX4_closeGap 37 = .ok (.return_, 1) := by decide +kernel
theorem dX4_copyFrom_0 : decode cX4_copyFrom 0 = .ok (.iconst 0, 1) := by decide +kernel
theorem dX4_copyFrom_1 : decode cX4_copyFrom 1 = .ok (.istore_n 2, 1) := by decide +kernel
theorem dX4_copyFrom_2 : decode cX4_copyFrom 2 = .ok (.iload_n 2, 1) := by decide +kernel
theorem dX4_copyFrom_3 : decode cX4_copyFrom 3 = .ok (.aload_n 0, 1) := by decide +kernel
theorem dX4_copyFrom_4 : decode cX4_copyFrom 4 = .ok (.getfield 13, 3) := by decide +kernel
theorem dX4_copyFrom_7 : decode cX4_copyFrom 7 = .ok (.arraylength, 1) := by decide +kernel
theorem dX4_copyFrom_8 : decode cX4_copyFrom 8 = .ok (.if_icmp .ge 20, 3) := by decide +kernel
theorem dX4_copyFrom_11 : decode cX4_copyFrom 11 = .ok (.aload_n 0, 1) := by decide +kernel
theorem dX4_copyFrom_12 : decode cX4_copyFrom 12 = .ok (.getfield 13, 3) := by decide +kernel
theorem dX4_copyFrom_15 : decode cX4_copyFrom 15 = .ok (.iload_n 2, 1) := by decide +kernel
theorem dX4_copyFrom_16 : decode cX4_copyFrom 16 = .ok (.aload_n 1, 1) := by decide +kernel
theorem dX4_copyFrom_17 : decode cX4_copyFrom 17 = .ok (.iload_n 2, 1) := by decide +kernel
theorem dX4_copyFrom_18 : decode cX4_copyFrom 18 = .ok (.invokevirtual 19, 3) := by decide +kernel
theorem dX4_copyFrom_21 : decode cX4_copyFrom 21 = .ok (.iastore, 1) := by decide +kernel
theorem dX4_copyFrom_22 : decode cX4_copyFrom 22 = .ok (.iinc 2 1, 3) := by decide +kernel
theorem dX4_copyFrom_25 : decode cX4_copyFrom 25 = .ok (.goto (-23), 3) := by decide +kernel
theorem dX4_copyFrom_28 : decode cX4_copyFrom 28 = .ok (.return_, 1) := by decide +kernel
theorem dX5_init_0 : decode cX5_init 0 = .ok (.aload_n 0, 1) := by decide +kernel
theorem dX5_init_1 : decode cX5_init 1 = .ok (.invokespecial 3, 3) := by decide +kernel
theorem dX5_init_4 : decode cX5_init 4 = .ok (.aload_n 0, 1) := by decide +kernel
theorem dX5_init_5 : decode cX5_init 5 = .ok (.sipush 256, 3) := by decide +kernel
theorem dX5_init_8 : decode cX5_init 8 = .ok (.newarray .int, 2) := by decide +kernel
theorem dX5_init_10 : decode cX5_init 10 = .ok (.putfield 9, 3) := by decide +kernel
theorem dX5_init_13 : decode cX5_init 13 = .ok (.aload_n 0, 1) := by decide +kernel
theorem dX5_init_14 : decode cX5_init 14 = .ok (.iload_n 1, 1) := by decide +kernel
theorem dX5_init_15 : decode cX5_init 15 = .ok (.putfield 15, 3) := by decide +kernel
theorem dX5_init_18 : decode cX5_init 18 = .ok (.return_, 1) := by decide +kernel
theorem dX5_clear_0 : decode cX5_clear 0 = .ok (.iconst 0, 1) := by decide +kernel
theorem dX5_clear_1 : decode cX5_clear 1 = .ok (.istore_n 1, 1) := by decide +kernel
theorem dX5_clear_2 : decode cX5_clear 2 = .ok (.iload_n 1, 1) := by decide +kernel
theorem dX5_clear_3 : decode cX5_clear 3 = .ok (.aload_n 0, 1) := by decide +kernel
theorem dX5_clear_4 : decode cX5_clear 4 = .ok (.getfield 9, 3) := by decide +kernel
theorem dX5_clear_7 : decode cX5_clear 7 = .ok (.arraylength, 1) := by decide +kernel
theorem dX5_clear_8 : decode cX5_clear 8 = .ok (.if_icmp .ge 19, 3) := by decide +kernel
theorem dX5_clear_11 : decode cX5_clear 11 = .ok (.aload_n 0, 1) := by decide +kernel
theorem dX5_clear_12 : decode cX5_clear 12 = .ok (.getfield 9, 3) := by decide +kernel
theorem dX5_clear_15 : decode cX5_clear 15 = .ok (.iload_n 1, 1) := by decide +kernel
theorem dX5_clear_16 : decode cX5_clear 16 = .ok (.aload_n 0, 1) := by decide +kernel
theorem dX5_clear_17 : decode cX5_clear 17 = .ok (.getfield 15, 3) := by decide +kernel
theorem dX5_clear_20 : decode cX5_clear 20 = .ok (.iastore, 1) := by decide +kernel
theorem dX5_clear_21 : decode cX5_clear 21 = .ok (.iinc 1 1, 3) := by decide +kernel
theorem dX5_clear_24 : decode cX5_clear 24 = .ok (.goto (-22), 3) := by decide +kernel
theorem dX5_clear_27 : decode cX5_clear 27 = .ok (.return_, 1) := by decide +kernel
theorem dX5_get_0 : decode cX5_get 0 = .ok (.iload_n 1, 1) := by decide +kernel
theorem dX5_get_1 : decode cX5_get 1 = .ok (.bipush 16, 2) := by decide +kernel
theorem dX5_get_3 : decode cX5_get 3 = .ok (.imul, 1) := by decide +kernel
theorem dX5_get_4 : decode cX5_get 4 = .ok (.iload_n 2, 1) := by decide +kernel
theorem dX5_get_5 : decode cX5_get 5 = .ok (.iadd, 1) := by decide +kernel
theorem dX5_get_6 : decode cX5_get 6 = .ok (.istore_n 3, 1) := by decide +kernel
theorem dX5_get_7 : decode cX5_get 7 = .ok (.iload_n 3, 1) := by decide +kernel
theorem dX5_get_8 : decode cX5_get 8 = .ok (.ifCond .lt 21, 3) := by decide +kernel
theorem dX5_get_11 : decode cX5_get 11 = .ok (.iload_n 3, 1) := by decide +kernel
theorem dX5_get_12 : decode cX5_get 12 = .ok (.aload_n 0, 1) := by decide +kernel
theorem dX5_get_13 : decode cX5_get 13 = .ok (.getfield 9, 3) := by decide +kernel
theorem dX5_get_16 : decode cX5_get 16 = .ok (.arraylength, 1) := by decide +kernel
theorem dX5_get_17 : decode cX5_get 17 = .ok (.if_icmp .ge 12, 3) := by decide +kernel
theorem dX5_get_20 : decode cX5_get 20 = .ok (.aload_n 0, 1) := by decide +kernel
theorem dX5_get_21 : decode cX5_get 21 = .ok (.getfield 9, 3) := by decide +kernel
theorem dX5_get_24 : decode cX5_get 24 = .ok (.iload_n 3, 1) := by decide +kernel
theorem dX5_get_25 : decode cX5_get 25 = .ok (.iaload, 1) := by decide +kernel
theorem dX5_get_26 : decode cX5_get 26 = .ok (.goto 7, 3) := by decide +kernel
theorem dX5_get_29 : decode cX5_get 29 = .ok (.aload_n 0, 1) := by decide +kernel
theorem dX5_get_30 : decode cX5_get 30 = .ok (.getfield 15, 3) := by decide +kernel
theorem dX5_get_33 : decode cX5_get 33 = .ok (.ireturn, 1) := by decide +kernel
theorem dX5_set_0 : decode cX5_set 0 = .ok (.iload_n 1, 1) := by decide +kernel
theorem dX5_set_1 : decode cX5_set 1 = .ok (.bipush 16, 2) := by decide +kernel
theorem dX5_set_3 : decode cX5_set 3 = .ok (.imul, 1) := by decide +kernel
theorem dX5_set_4 : decode cX5_set 4 = .ok (.iload_n 2, 1) := by decide +kernel
theorem dX5_set_5 : decode cX5_set 5 = .ok (.iadd, 1) := by decide +kernel
theorem dX5_set_6 : decode cX5_set 6 = .ok (.istore 4, 2) := by decide +kernel
theorem dX5_set_8 : decode cX5_set 8 = .ok (.iload 4, 2) := by decide +kernel
theorem dX5_set_10 : decode cX5_set 10 = .ok (.ifCond .lt 21, 3) := by decide +kernel
theorem dX5_set_13 : decode cX5_set 13 = .ok (.iload 4, 2) := by decide +kernel
theorem dX5_set_15 : decode cX5_set 15 = .ok (.aload_n 0, 1) := by decide +kernel
theorem dX5_set_16 : decode cX5_set 16 = .ok (.getfield 9, 3) := by decide +kernel
theorem dX5_set_19 : decode cX5_set 19 = .ok (.arraylength, 1) := by decide +kernel
theorem dX5_set_20 : decode cX5_set 20 = .ok (.if_icmp .ge 11, 3) := by decide +kernel
theorem dX5_set_23 : decode cX5_set 23 = .ok (.aload_n 0, 1) := by decide +kernel
theorem dX5_set_24 : decode cX5_set 24 = .ok (.getfield 9, 3) := by decide +kernel
theorem dX5_set_27 : decode cX5_set 27 = .ok (.iload 4, 2) := by decide +kernel
theorem dX5_set_29 : decode cX5_set 29 = .ok (.iload_n 3, 1) := by decide +kernel
theorem dX5_set_30 : decode cX5_set 30 = .ok (.iastore, 1) := by decide +kernel
theorem dX5_set_31 : decode cX5_set 31 = .ok (.return_, 1) := by decide +kernel
theorem dX5_turnRound_0 : decode cX5_turnRound 0 = .ok (.aload_n 0, 1) := by decide +kernel
theorem dX5_turnRound_1 : decode cX5_turnRound 1 = .ok (.iload_n 1, 1) := by decide +kernel
theorem dX5_turnRound_2 : decode cX5_turnRound 2 = .ok (.iload_n 2, 1) := by decide +kernel
theorem dX5_turnRound_3 : decode cX5_turnRound 3 = .ok (.iload_n 3, 1) := by decide +kernel
theorem dX5_turnRound_4 : decode cX5_turnRound 4 = .ok (.invokevirtual 19, 3) := by decide +kernel
theorem dX5_turnRound_7 : decode cX5_turnRound 7 = .ok (.aload_n 0, 1) := by decide +kernel
theorem dX5_turnRound_8 : decode cX5_turnRound 8 = .ok (.iload_n 2, 1) := by decide +kernel
theorem dX5_turnRound_9 : decode cX5_turnRound 9 = .ok (.iload_n 3, 1) := by decide +kernel
theorem dX5_turnRound_10 : decode cX5_turnRound 10 = .ok (.iload_n 1, 1) := by decide +kernel
theorem dX5_turnRound_11 : decode cX5_turnRound 11 = .ok (.invokevirtual 19, 3) := by decide +kernel
theorem dX5_turnRound_14 : decode cX5_turnRound 14 = .ok (.aload_n 0, 1) := by decide +kernel
theorem dX5_turnRound_15 : decode cX5_turnRound 15 = .ok (.iload_n 3, 1) := by decide +kernel
theorem dX5_turnRound_16 : decode cX5_turnRound 16 = .ok (.iload_n 1, 1) := by decide +kernel
theorem dX5_turnRound_17 : decode cX5_turnRound 17 = .ok (.iload_n 2, 1) := by decide +kernel
theorem dX5_turnRound_18 : decode cX5_turnRound 18 = .ok (.invokevirtual 19, 3) := by decide +kernel
theorem dX5_turnRound_21 : decode cX5_turnRound 21 = .ok (.return_, 1) := by decide +kernel
theorem dX6_init_0 : decode cX6_init 0 = .ok (.aload_n 0, 1) := by decide +kernel
theorem dX6_init_1 : decode cX6_init 1 = .ok (.invokespecial 1, 3) := by decide +kernel
theorem dX6_init_4 : decode cX6_init 4 = .ok (.aload_n 0, 1) := by decide +kernel
theorem dX6_init_5 : decode cX6_init 5 = .ok (.new 7, 3) := by decide +kernel
theorem dX6_init_8 : decode cX6_init 8 = .ok (.dup, 1) := by decide +kernel
theorem dX6_init_9 : decode cX6_init 9 = .ok (.invokespecial 9, 3) := by decide +kernel
theorem dX6_init_12 : decode cX6_init 12 = .ok (.putfield 10, 3) := by decide +kernel
theorem dX6_init_15 : decode cX6_init 15 = .ok (.aload_n 0, 1) := by decide +kernel
theorem dX6_init_16 : decode cX6_init 16 = .ok (.new 16, 3) := by decide +kernel
theorem dX6_init_19 : decode cX6_init 19 = .ok (.dup, 1) := by decide +kernel
theorem dX6_init_20 : decode cX6_init 20 = .ok (.aload_n 0, 1) := by decide +kernel
theorem dX6_init_21 : decode cX6_init 21 = .ok (.getfield 10, 3) := by decide +kernel
theorem dX6_init_24 : decode cX6_init 24 = .ok (.invokespecial 18, 3) := by decide +kernel
theorem dX6_init_27 : decode cX6_init 27 = .ok (.putfield 21, 3) := by decide +kernel
theorem dX6_init_30 : decode cX6_init 30 = .ok (.aload_n 0, 1) := by decide +kernel
theorem dX6_init_31 : decode cX6_init 31 = .ok (.new 7, 3) := by decide +kernel
theorem dX6_init_34 : decode cX6_init 34 = .ok (.dup, 1) := by decide +kernel
theorem dX6_init_35 : decode cX6_init 35 = .ok (.invokespecial 9, 3) := by decide +kernel
theorem dX6_init_38 : decode cX6_init 38 = .ok (.putfield 25, 3) := by decide +kernel
theorem dX6_init_41 : decode cX6_init 41 = .ok (.aload_n 0, 1) := by decide +kernel
theorem dX6_init_42 : decode cX6_init 42 = .ok (.new 16, 3) := by decide +kernel
theorem dX6_init_45 : decode cX6_init 45 = .ok (.dup, 1) := by decide +kernel
theorem dX6_init_46 : decode cX6_init 46 = .ok (.aload_n 0, 1) := by decide +kernel
theorem dX6_init_47 : decode cX6_init 47 = .ok (.getfield 25, 3) := by decide +kernel
theorem dX6_init_50 : decode cX6_init 50 = .ok (.invokespecial 18, 3) := by decide +kernel
theorem dX6_init_53 : decode cX6_init 53 = .ok (.putfield 28, 3) := by decide +kernel
theorem dX6_init_56 : decode cX6_init 56 = .ok (.aload_n 0, 1) := by decide +kernel
theorem dX6_init_57 : decode cX6_init 57 = .ok (.new 7, 3) := by decide +kernel
theorem dX6_init_60 : decode cX6_init 60 = .ok (.dup, 1) := by decide +kernel
theorem dX6_init_61 : decode cX6_init 61 = .ok (.invokespecial 9, 3) := by decide +kernel
theorem dX6_init_64 : decode cX6_init 64 = .ok (.putfield 31, 3) := by decide +kernel
theorem dX6_init_67 : decode cX6_init 67 = .ok (.aload_n 0, 1) := by decide +kernel
theorem dX6_init_68 : decode cX6_init 68 = .ok (.new 34, 3) := by decide +kernel
theorem dX6_init_71 : decode cX6_init 71 = .ok (.dup, 1) := by decide +kernel
theorem dX6_init_72 : decode cX6_init 72 = .ok (.invokespecial 36, 3) := by decide +kernel
theorem dX6_init_75 : decode cX6_init 75 = .ok (.putfield 37, 3) := by decide +kernel
theorem dX6_init_78 : decode cX6_init 78 = .ok (.aload_n 0, 1) := by decide +kernel
theorem dX6_init_79 : decode cX6_init 79 = .ok (.new 41, 3) := by decide +kernel
theorem dX6_init_82 : decode cX6_init 82 = .ok (.dup, 1) := by decide +kernel
theorem dX6_init_83 : decode cX6_init 83 = .ok (.invokespecial 43, 3) := by decide +kernel
theorem dX6_init_86 : decode cX6_init 86 = .ok (.putfield 44, 3) := by decide +kernel
theorem dX6_init_89 : decode cX6_init 89 = .ok (.aload_n 0, 1) := by decide +kernel
theorem dX6_init_90 : decode cX6_init 90 = .ok (.iconst 0, 1) := by decide +kernel
theorem dX6_init_91 : decode cX6_init 91 = .ok (.putfield 48, 3) := by decide +kernel
theorem dX6_init_94 : decode cX6_init 94 = .ok (.return_, 1) := by decide +kernel
theorem dX6_addPoint_0 : decode cX6_addPoint 0 = .ok (.aload_n 0, 1) := by decide +kernel
theorem dX6_addPoint_1 : decode cX6_addPoint 1 = .ok (.iload_n 1, 1) := by decide +kernel
theorem dX6_addPoint_2 : decode cX6_addPoint 2 = .ok (.iload_n 2, 1) := by decide +kernel
theorem dX6_addPoint_3 : decode cX6_addPoint 3 = .ok (.invokevirtual 52, 3) := by decide +kernel
theorem dX6_addPoint_6 : decode cX6_addPoint 6 = .ok (.aload_n 0, 1) := by decide +kernel
theorem dX6_addPoint_7 : decode cX6_addPoint 7 = .ok (.iload_n 1, 1) := by decide +kernel
theorem dX6_addPoint_8 : decode cX6_addPoint 8 = .ok (.iload_n 2, 1) := by decide +kernel
theorem dX6_addPoint_9 : decode cX6_addPoint 9 = .ok (.invokevirtual 56, 3) := by decide +kernel
theorem dX6_addPoint_12 : decode cX6_addPoint 12 = .ok (.aload_n 0, 1) := by decide +kernel
theorem dX6_addPoint_13 : decode cX6_addPoint 13 = .ok (.getfield 37, 3) := by decide +kernel
theorem dX6_addPoint_16 : decode cX6_addPoint 16 = .ok (.aload_n 0, 1) := by decide +kernel
theorem dX6_addPoint_17 : decode cX6_addPoint 17 = .ok (.getfield 10, 3) := by decide +kernel
theorem dX6_addPoint_20 : decode cX6_addPoint 20 = .ok (.invokevirtual 59, 3) := by decide +kernel
theorem dX6_addPoint_23 : decode cX6_addPoint 23 = .ok (.aload_n 0, 1) := by decide +kernel
theorem dX6_addPoint_24 : decode cX6_addPoint 24 = .ok (.getfield 10, 3) := by decide +kernel
theorem dX6_addPoint_27 : decode cX6_addPoint 27 = .ok (.iload_n 1, 1) := by decide +kernel
theorem dX6_addPoint_28 : decode cX6_addPoint 28 = .ok (.iload_n 2, 1) := by decide +kernel
theorem dX6_addPoint_29 : decode cX6_addPoint 29 = .ok (.invokevirtual 62, 3) := by decide +kernel
theorem dX6_addPoint_32 : decode cX6_addPoint 32 = .ok (.aload_n 0, 1) := by decide +kernel
theorem dX6_addPoint_33 : decode cX6_addPoint 33 = .ok (.getfield 21, 3) := by decide +kernel
theorem dX6_addPoint_36 : decode cX6_addPoint 36 = .ok (.invokevirtual 65, 3) := by decide +kernel
theorem dX6_addPoint_39 : decode cX6_addPoint 39 = .ok (.aload_n 0, 1) := by decide +kernel
theorem dX6_addPoint_40 : decode cX6_addPoint 40 = .ok (.getfield 10, 3) := by decide +kernel
theorem dX6_addPoint_43 : decode cX6_addPoint 43 = .ok (.invokevirtual 68, 3) := by decide +kernel
theorem dX6_addPoint_46 : decode cX6_addPoint 46 = .ok (.iconst 1, 1) := by decide +kernel
theorem dX6_addPoint_47 : decode cX6_addPoint 47 = .ok (.isub, 1) := by decide +kernel
theorem dX6_addPoint_48 : decode cX6_addPoint 48 = .ok (.ireturn, 1) := by decide +kernel
theorem dX6_removePoint_0 : decode cX6_removePoint 0 = .ok (.aload_n 0, 1) := by decide +kernel
theorem dX6_removePoint_1 : decode cX6_removePoint 1 = .ok (.iload_n 1, 1) := by decide +kernel
theorem dX6_removePoint_2 : decode cX6_removePoint 2 = .ok (.invokevirtual 72, 3) := by decide +kernel
theorem dX6_removePoint_5 : decode cX6_removePoint 5 = .ok (.aload_n 0, 1) := by decide +kernel
theorem dX6_removePoint_6 : decode cX6_removePoint 6 = .ok (.iload_n 1, 1) := by decide +kernel
theorem dX6_removePoint_7 : decode cX6_removePoint 7 = .ok (.invokevirtual 76, 3) := by decide +kernel
theorem dX6_removePoint_10 : decode cX6_removePoint 10 = .ok (.aload_n 0, 1) := by decide +kernel
theorem dX6_removePoint_11 : decode cX6_removePoint 11 = .ok (.getfield 37, 3) := by decide +kernel
theorem dX6_removePoint_14 : decode cX6_removePoint 14 = .ok (.aload_n 0, 1) := by decide +kernel
theorem dX6_removePoint_15 : decode cX6_removePoint 15 = .ok (.getfield 10, 3) := by decide +kernel
theorem dX6_removePoint_18 : decode cX6_removePoint 18 = .ok (.invokevirtual 59, 3) := by decide +kernel
theorem dX6_removePoint_21 : decode cX6_removePoint 21 = .ok (.aload_n 0, 1) := by decide +kernel
theorem dX6_removePoint_22 : decode cX6_removePoint 22 = .ok (.getfield 10, 3) := by decide +kernel
theorem dX6_removePoint_25 : decode cX6_removePoint 25 = .ok (.iload_n 1, 1) := by decide +kernel
theorem dX6_removePoint_26 : decode cX6_removePoint 26 = .ok (.invokevirtual 79, 3) := by decide +kernel
theorem dX6_removePoint_29 : decode cX6_removePoint 29 = .ok (.aload_n 0, 1) := by decide +kernel
theorem dX6_removePoint_30 : decode cX6_removePoint 30 = .ok (.getfield 21, 3) := by decide +kernel
theorem dX6_removePoint_33 : decode cX6_removePoint 33 = .ok (.invokevirtual 65, 3) := by decide +kernel
theorem dX6_removePoint_36 : decode cX6_removePoint 36 = .ok (.aload_n 0, 1) := by decide +kernel
theorem dX6_removePoint_37 : decode cX6_removePoint 37 = .ok (.getfield 10, 3) := by decide +kernel
theorem dX6_removePoint_40 : decode cX6_removePoint 40 = .ok (.invokevirtual 68, 3) := by decide +kernel
theorem dX6_removePoint_43 : decode cX6_removePoint 43 = .ok (.ireturn, 1) := by decide +kernel
theorem dX6_movePoint_0 : decode cX6_movePoint 0 = .ok (.aload_n 0, 1) := by decide +kernel
theorem dX6_movePoint_1 : decode cX6_movePoint 1 = .ok (.iload_n 1, 1) := by decide +kernel
theorem dX6_movePoint_2 : decode cX6_movePoint 2 = .ok (.invokevirtual 72, 3) := by decide +kernel
theorem dX6_movePoint_5 : decode cX6_movePoint 5 = .ok (.aload_n 0, 1) := by decide +kernel
theorem dX6_movePoint_6 : decode cX6_movePoint 6 = .ok (.iload_n 2, 1) := by decide +kernel
theorem dX6_movePoint_7 : decode cX6_movePoint 7 = .ok (.iload_n 3, 1) := by decide +kernel
theorem dX6_movePoint_8 : decode cX6_movePoint 8 = .ok (.invokevirtual 52, 3) := by decide +kernel
theorem dX6_movePoint_11 : decode cX6_movePoint 11 = .ok (.aload_n 0, 1) := by decide +kernel
theorem dX6_movePoint_12 : decode cX6_movePoint 12 = .ok (.iload_n 1, 1) := by decide +kernel
theorem dX6_movePoint_13 : decode cX6_movePoint 13 = .ok (.invokevirtual 76, 3) := by decide +kernel
theorem dX6_movePoint_16 : decode cX6_movePoint 16 = .ok (.aload_n 0, 1) := by decide +kernel
theorem dX6_movePoint_17 : decode cX6_movePoint 17 = .ok (.getfield 10, 3) := by decide +kernel
theorem dX6_movePoint_20 : decode cX6_movePoint 20 = .ok (.iload_n 2, 1) := by decide +kernel
theorem dX6_movePoint_21 : decode cX6_movePoint 21 = .ok (.iload_n 3, 1) := by decide +kernel
theorem dX6_movePoint_22 : decode cX6_movePoint 22 = .ok (.invokevirtual 82, 3) := by decide +kernel
theorem dX6_movePoint_25 : decode cX6_movePoint 25 = .ok (.istore 4, 2) := by decide +kernel
theorem dX6_movePoint_27 : decode cX6_movePoint 27 = .ok (.iload 4, 2) := by decide +kernel
theorem dX6_movePoint_29 : decode cX6_movePoint 29 = .ok (.iconst (-1), 1) := by decide +kernel
theorem dX6_movePoint_30 : decode cX6_movePoint 30 = .ok (.if_icmp .eq 9, 3) := by decide +kernel
theorem dX6_movePoint_33 : decode cX6_movePoint 33 = .ok (.iload 4, 2) := by decide +kernel
theorem dX6_movePoint_35 : decode cX6_movePoint 35 = .ok (.iload_n 1, 1) := by decide +kernel
theorem dX6_movePoint_36 : decode cX6_movePoint 36 = .ok (.if_icmp .ne 15, 3) := by decide +kernel
theorem dX6_movePoint_39 : decode cX6_movePoint 39 = .ok (.aload_n 0, 1) := by decide +kernel
theorem dX6_movePoint_40 : decode cX6_movePoint 40 = .ok (.getfield 10, 3) := by decide +kernel
theorem dX6_movePoint_43 : decode cX6_movePoint 43 = .ok (.iload_n 2, 1) := by decide +kernel
theorem dX6_movePoint_44 : decode cX6_movePoint 44 = .ok (.iload_n 3, 1) := by decide +kernel
theorem dX6_movePoint_45 : decode cX6_movePoint 45 = .ok (.invokevirtual 86, 3) := by decide +kernel
theorem dX6_movePoint_48 : decode cX6_movePoint 48 = .ok (.ifCond .eq 13, 3) := by decide +kernel
theorem dX6_movePoint_51 : decode cX6_movePoint 51 = .ok (.new 90, 3) := by decide +kernel
theorem dX6_movePoint_54 : decode cX6_movePoint 54 = .ok (.dup, 1) := by decide +kernel
theorem dX6_movePoint_55 : decode cX6_movePoint 55 = .ok (.ldc 92, 2) := by decide +kernel
theorem dX6_movePoint_57 : decode cX6_movePoint 57 = .ok (.invokespecial 94, 3) := by decide +kernel
theorem dX6_movePoint_60 : decode cX6_movePoint 60 = .ok (.athrow, 1) := by decide +kernel
theorem dX6_movePoint_61 : decode cX6_movePoint 61 = .ok (.aload_n 0, 1) := by decide +kernel
theorem dX6_movePoint_62 : decode cX6_movePoint 62 = .ok (.getfield 37, 3) := by decide +kernel
theorem dX6_movePoint_65 : decode cX6_movePoint 65 = .ok (.aload_n 0, 1) := by decide +kernel
theorem dX6_movePoint_66 : decode cX6_movePoint 66 = .ok (.getfield 10, 3) := by decide +kernel
theorem dX6_movePoint_69 : decode cX6_movePoint 69 = .ok (.invokevirtual 59, 3) := by decide +kernel
theorem dX6_movePoint_72 : decode cX6_movePoint 72 = .ok (.aload_n 0, 1) := by decide +kernel
theorem dX6_movePoint_73 : decode cX6_movePoint 73 = .ok (.getfield 10, 3) := by decide +kernel
theorem dX6_movePoint_76 : decode cX6_movePoint 76 = .ok (.iload_n 1, 1) := by decide +kernel
theorem dX6_movePoint_77 : decode cX6_movePoint 77 = .ok (.iload_n 2, 1) := by decide +kernel
theorem dX6_movePoint_78 : decode cX6_movePoint 78 = .ok (.iload_n 3, 1) := by decide +kernel
theorem dX6_movePoint_79 : decode cX6_movePoint 79 = .ok (.invokevirtual 97, 3) := by decide +kernel
theorem dX6_movePoint_82 : decode cX6_movePoint 82 = .ok (.aload_n 0, 1) := by decide +kernel
theorem dX6_movePoint_83 : decode cX6_movePoint 83 = .ok (.getfield 21, 3) := by decide +kernel
theorem dX6_movePoint_86 : decode cX6_movePoint 86 = .ok (.invokevirtual 65, 3) := by decide +kernel
theorem dX6_movePoint_89 : decode cX6_movePoint 89 = .ok (.iload 4, 2) := by decide +kernel
theorem dX6_movePoint_91 : decode cX6_movePoint 91 = .ok (.iload_n 1, 1) := by decide +kernel
theorem dX6_movePoint_92 : decode cX6_movePoint 92 = .ok (.if_icmp .eq 7, 3) := by decide +kernel
theorem dX6_movePoint_95 : decode cX6_movePoint 95 = .ok (.iconst 1, 1) := by decide +kernel
theorem dX6_movePoint_96 : decode cX6_movePoint 96 = .ok (.goto 4, 3) := by decide +kernel
theorem dX6_movePoint_99 : decode cX6_movePoint 99 = .ok (.iconst 0, 1) := by decide +kernel
theorem dX6_movePoint_100 : decode cX6_movePoint 100 = .ok (.ireturn, 1) := by decide +kernel
theorem dX6_pointCount_0 : decode cX6_pointCount 0 = .ok (.aload_n 0, 1) := by decide +kernel
theorem dX6_pointCount_1 : decode cX6_pointCount 1 = .ok (.getfield 10, 3) := by decide +kernel
theorem dX6_pointCount_4 : decode cX6_pointCount 4 = .ok (.invokevirtual 68, 3) := by decide +kernel
theorem dX6_pointCount_7 : decode cX6_pointCount 7 = .ok (.ireturn, 1) := by decide +kernel
theorem dX6_coordinate_0 : decode cX6_coordinate 0 = .ok (.aload_n 0, 1) := by decide +kernel
theorem dX6_coordinate_1 : decode cX6_coordinate 1 = .ok (.iload_n 1, 1) := by decide +kernel
theorem dX6_coordinate_2 : decode cX6_coordinate 2 = .ok (.invokevirtual 72, 3) := by decide +kernel
theorem dX6_coordinate_5 : decode cX6_coordinate 5 = .ok (.aload_n 0, 1) := by decide +kernel
theorem dX6_coordinate_6 : decode cX6_coordinate 6 = .ok (.iload_n 2, 1) := by decide +kernel
theorem dX6_coordinate_7 : decode cX6_coordinate 7 = .ok (.invokevirtual 101, 3) := by decide +kernel
theorem dX6_coordinate_10 : decode cX6_coordinate 10 = .ok (.iload_n 2, 1) := by decide +kernel
theorem dX6_coordinate_11 : decode cX6_coordinate 11 = .ok (.ifCond .ne 14, 3) := by decide +kernel
theorem dX6_coordinate_14 : decode cX6_coordinate 14 = .ok (.aload_n 0, 1) := by decide +kernel
theorem dX6_coordinate_15 : decode cX6_coordinate 15 = .ok (.getfield 10, 3) := by decide +kernel
theorem dX6_coordinate_18 : decode cX6_coordinate 18 = .ok (.iload_n 1, 1) := by decide +kernel
theorem dX6_coordinate_19 : decode cX6_coordinate 19 = .ok (.invokevirtual 104, 3) := by decide +kernel
theorem dX6_coordinate_22 : decode cX6_coordinate 22 = .ok (.goto 11, 3) := by decide +kernel
theorem dX6_coordinate_25 : decode cX6_coordinate 25 = .ok (.aload_n 0, 1) := by decide +kernel
theorem dX6_coordinate_26 : decode cX6_coordinate 26 = .ok (.getfield 10, 3) := by decide +kernel
theorem dX6_coordinate_29 : decode cX6_coordinate 29 = .ok (.iload_n 1, 1) := by decide +kernel
theorem dX6_coordinate_30 : decode cX6_coordinate 30 = .ok (.invokevirtual 108, 3) := by decide +kernel
theorem dX6_coordinate_33 : decode cX6_coordinate 33 = .ok (.ireturn, 1) := by decide +kernel
theorem dX6_addConstraint_0 : decode cX6_addConstraint 0 = .ok (.aload_n 0, 1) := by decide +kernel
theorem dX6_addConstraint_1 : decode cX6_addConstraint 1 = .ok (.iload_n 1, 1) := by decide +kernel
theorem dX6_addConstraint_2 : decode cX6_addConstraint 2 = .ok (.invokevirtual 72, 3) := by decide +kernel
theorem dX6_addConstraint_5 : decode cX6_addConstraint 5 = .ok (.aload_n 0, 1) := by decide +kernel
theorem dX6_addConstraint_6 : decode cX6_addConstraint 6 = .ok (.iload_n 2, 1) := by decide +kernel
theorem dX6_addConstraint_7 : decode cX6_addConstraint 7 = .ok (.invokevirtual 72, 3) := by decide +kernel
theorem dX6_addConstraint_10 : decode cX6_addConstraint 10 = .ok (.aload_n 0, 1) := by decide +kernel
theorem dX6_addConstraint_11 : decode cX6_addConstraint 11 = .ok (.iload_n 1, 1) := by decide +kernel
theorem dX6_addConstraint_12 : decode cX6_addConstraint 12 = .ok (.iload_n 2, 1) := by decide +kernel
theorem dX6_addConstraint_13 : decode cX6_addConstraint 13 = .ok (.invokevirtual 111, 3) := by decide +kernel
theorem dX6_addConstraint_16 : decode cX6_addConstraint 16 = .ok (.aload_n 0, 1) := by decide +kernel
theorem dX6_addConstraint_17 : decode cX6_addConstraint 17 = .ok (.getfield 10, 3) := by decide +kernel
theorem dX6_addConstraint_20 : decode cX6_addConstraint 20 = .ok (.invokevirtual 114, 3) := by decide +kernel
theorem dX6_addConstraint_23 : decode cX6_addConstraint 23 = .ok (.bipush 10, 2) := by decide +kernel
theorem dX6_addConstraint_25 : decode cX6_addConstraint 25 = .ok (.if_icmp .lt 13, 3) := by decide +kernel
theorem dX6_addConstraint_28 : decode cX6_addConstraint 28 = .ok (.new 117, 3) := by decide +kernel
theorem dX6_addConstraint_31 : decode cX6_addConstraint 31 = .ok (.dup, 1) := by decide +kernel
theorem dX6_addConstraint_32 : decode cX6_addConstraint 32 = .ok (.ldc 119, 2) := by decide +kernel
theorem dX6_addConstraint_34 : decode cX6_addConstraint 34 = .ok (.invokespecial 121, 3) := by decide +kernel
theorem dX6_addConstraint_37 : decode cX6_addConstraint 37 = .ok (.athrow, 1) := by decide +kernel
theorem dX6_addConstraint_38 : decode cX6_addConstraint 38 = .ok (.aload_n 0, 1) := by decide +kernel
theorem dX6_addConstraint_39 : decode cX6_addConstraint 39 = .ok (.getfield 10, 3) := by decide +kernel
theorem dX6_addConstraint_42 : decode cX6_addConstraint 42 = .ok (.iload_n 1, 1) := by decide +kernel
theorem dX6_addConstraint_43 : decode cX6_addConstraint 43 = .ok (.iload_n 2, 1) := by decide +kernel
theorem dX6_addConstraint_44 : decode cX6_addConstraint 44 = .ok (.invokevirtual 122, 3) := by decide +kernel
theorem dX6_addConstraint_47 : decode cX6_addConstraint 47 = .ok (.ifCond .ne 13, 3) := by decide +kernel
theorem dX6_addConstraint_50 : decode cX6_addConstraint 50 = .ok (.new 90, 3) := by decide +kernel
theorem dX6_addConstraint_53 : decode cX6_addConstraint 53 = .ok (.dup, 1) := by decide +kernel
theorem dX6_addConstraint_54 : decode cX6_addConstraint 54 = .ok (.ldc 125, 2) := by decide +kernel
theorem dX6_addConstraint_56 : decode cX6_addConstraint 56 = .ok (.invokespecial 94, 3) := by decide +kernel
theorem dX6_addConstraint_59 : decode cX6_addConstraint 59 = .ok (.athrow, 1) := by decide +kernel
theorem dX6_addConstraint_60 : decode cX6_addConstraint 60 = .ok (.aload_n 0, 1) := by decide +kernel
theorem dX6_addConstraint_61 : decode cX6_addConstraint 61 = .ok (.getfield 37, 3) := by decide +kernel
theorem dX6_addConstraint_64 : decode cX6_addConstraint 64 = .ok (.aload_n 0, 1) := by decide +kernel
theorem dX6_addConstraint_65 : decode cX6_addConstraint 65 = .ok (.getfield 10, 3) := by decide +kernel
theorem dX6_addConstraint_68 : decode cX6_addConstraint 68 = .ok (.invokevirtual 59, 3) := by decide +kernel
theorem dX6_addConstraint_71 : decode cX6_addConstraint 71 = .ok (.aload_n 0, 1) := by decide +kernel
theorem dX6_addConstraint_72 : decode cX6_addConstraint 72 = .ok (.getfield 10, 3) := by decide +kernel
theorem dX6_addConstraint_75 : decode cX6_addConstraint 75 = .ok (.iload_n 1, 1) := by decide +kernel
theorem dX6_addConstraint_76 : decode cX6_addConstraint 76 = .ok (.iload_n 2, 1) := by decide +kernel
theorem dX6_addConstraint_77 : decode cX6_addConstraint 77 = .ok (.invokevirtual 127, 3) := by decide +kernel
theorem dX6_addConstraint_80 : decode cX6_addConstraint 80 = .ok (.aload_n 0, 1) := by decide +kernel
theorem dX6_addConstraint_81 : decode cX6_addConstraint 81 = .ok (.getfield 21, 3) := by decide +kernel
theorem dX6_addConstraint_84 : decode cX6_addConstraint 84 = .ok (.invokevirtual 65, 3) := by decide +kernel
theorem dX6_addConstraint_87 : decode cX6_addConstraint 87 = .ok (.aload_n 0, 1) := by decide +kernel
theorem dX6_addConstraint_88 : decode cX6_addConstraint 88 = .ok (.getfield 10, 3) := by decide +kernel
theorem dX6_addConstraint_91 : decode cX6_addConstraint 91 = .ok (.invokevirtual 114, 3) := by decide +kernel
theorem dX6_addConstraint_94 : decode cX6_addConstraint 94 = .ok (.iconst 1, 1) := by decide +kernel
theorem dX6_addConstraint_95 : decode cX6_addConstraint 95 = .ok (.isub, 1) := by decide +kernel
theorem dX6_addConstraint_96 : decode cX6_addConstraint 96 = .ok (.ireturn, 1) := by decide +kernel
theorem dX6_removeConstraint_0 : decode cX6_removeConstraint 0 = .ok (.aload_n 0, 1) := by decide +kernel
theorem dX6_removeConstraint_1 : decode cX6_removeConstraint 1 = .ok (.iload_n 1, 1) := by decide +kernel
theorem dX6_removeConstraint_2 : decode cX6_removeConstraint 2 = .ok (.invokevirtual 130, 3) := by decide +kernel
theorem dX6_removeConstraint_5 : decode cX6_removeConstraint 5 = .ok (.aload_n 0, 1) := by decide +kernel
theorem dX6_removeConstraint_6 : decode cX6_removeConstraint 6 = .ok (.getfield 37, 3) := by decide +kernel
theorem dX6_removeConstraint_9 : decode cX6_removeConstraint 9 = .ok (.aload_n 0, 1) := by decide +kernel
theorem dX6_removeConstraint_10 : decode cX6_removeConstraint 10 = .ok (.getfield 10, 3) := by decide +kernel
theorem dX6_removeConstraint_13 : decode cX6_removeConstraint 13 = .ok (.invokevirtual 59, 3) := by decide +kernel
theorem dX6_removeConstraint_16 : decode cX6_removeConstraint 16 = .ok (.aload_n 0, 1) := by decide +kernel
theorem dX6_removeConstraint_17 : decode cX6_removeConstraint 17 = .ok (.getfield 10, 3) := by decide +kernel
theorem dX6_removeConstraint_20 : decode cX6_removeConstraint 20 = .ok (.iload_n 1, 1) := by decide +kernel
theorem dX6_removeConstraint_21 : decode cX6_removeConstraint 21 = .ok (.invokevirtual 133, 3) := by decide +kernel
theorem dX6_removeConstraint_24 : decode cX6_removeConstraint 24 = .ok (.aload_n 0, 1) := by decide +kernel
theorem dX6_removeConstraint_25 : decode cX6_removeConstraint 25 = .ok (.getfield 21, 3) := by decide +kernel
theorem dX6_removeConstraint_28 : decode cX6_removeConstraint 28 = .ok (.invokevirtual 65, 3) := by decide +kernel
theorem dX6_removeConstraint_31 : decode cX6_removeConstraint 31 = .ok (.aload_n 0, 1) := by decide +kernel
theorem dX6_removeConstraint_32 : decode cX6_removeConstraint 32 = .ok (.getfield 10, 3) := by decide +kernel
theorem dX6_removeConstraint_35 : decode cX6_removeConstraint 35 = .ok (.invokevirtual 114, 3) := by decide +kernel
theorem dX6_removeConstraint_38 : decode cX6_removeConstraint 38 = .ok (.ireturn, 1) := by decide +kernel
theorem dX6_constraintCount_0 : decode cX6_constraintCount 0 = .ok (.aload_n 0, 1) := by decide +kernel
theorem dX6_constraintCount_1 : decode cX6_constraintCount 1 = .ok (.getfield 10, 3) := by decide +kernel
theorem dX6_constraintCount_4 : decode cX6_constraintCount 4 = .ok (.invokevirtual 114, 3) := by decide +kernel
theorem dX6_constraintCount_7 : decode cX6_constraintCount 7 = .ok (.ireturn, 1) := by decide +kernel
theorem dX6_constraintEnd_0 : decode cX6_constraintEnd 0 = .ok (.aload_n 0, 1) := by decide +kernel
theorem dX6_constraintEnd_1 : decode cX6_constraintEnd 1 = .ok (.iload_n 1, 1) := by decide +kernel
theorem dX6_constraintEnd_2 : decode cX6_constraintEnd 2 = .ok (.invokevirtual 130, 3) := by decide +kernel
theorem dX6_constraintEnd_5 : decode cX6_constraintEnd 5 = .ok (.aload_n 0, 1) := by decide +kernel
theorem dX6_constraintEnd_6 : decode cX6_constraintEnd 6 = .ok (.iload_n 2, 1) := by decide +kernel
theorem dX6_constraintEnd_7 : decode cX6_constraintEnd 7 = .ok (.invokevirtual 101, 3) := by decide +kernel
theorem dX6_constraintEnd_10 : decode cX6_constraintEnd 10 = .ok (.iload_n 2, 1) := by decide +kernel
theorem dX6_constraintEnd_11 : decode cX6_constraintEnd 11 = .ok (.ifCond .ne 14, 3) := by decide +kernel
theorem dX6_constraintEnd_14 : decode cX6_constraintEnd 14 = .ok (.aload_n 0, 1) := by decide +kernel
theorem dX6_constraintEnd_15 : decode cX6_constraintEnd 15 = .ok (.getfield 10, 3) := by decide +kernel
theorem dX6_constraintEnd_18 : decode cX6_constraintEnd 18 = .ok (.iload_n 1, 1) := by decide +kernel
theorem dX6_constraintEnd_19 : decode cX6_constraintEnd 19 = .ok (.invokevirtual 136, 3) := by decide +kernel
theorem dX6_constraintEnd_22 : decode cX6_constraintEnd 22 = .ok (.goto 11, 3) := by decide +kernel
theorem dX6_constraintEnd_25 : decode cX6_constraintEnd 25 = .ok (.aload_n 0, 1) := by decide +kernel
theorem dX6_constraintEnd_26 : decode cX6_constraintEnd 26 = .ok (.getfield 10, 3) := by decide +kernel
theorem dX6_constraintEnd_29 : decode cX6_constraintEnd 29 = .ok (.iload_n 1, 1) := by decide +kernel
theorem dX6_constraintEnd_30 : decode cX6_constraintEnd 30 = .ok (.invokevirtual 139, 3) := by decide +kernel
theorem dX6_constraintEnd_33 : decode cX6_constraintEnd 33 = .ok (.ireturn, 1) := by decide +kernel
theorem dX6_readInput_0 : decode cX6_readInput 0 = .ok (.aload_n 0, 1) := by decide +kernel
theorem dX6_readInput_1 : decode cX6_readInput 1 = .ok (.getfield 44, 3) := by decide +kernel
theorem dX6_readInput_4 : decode cX6_readInput 4 = .ok (.invokevirtual 151, 3) := by decide +kernel
theorem dX6_readInput_7 : decode cX6_readInput 7 = .ok (.istore_n 1, 1) := by decide +kernel
theorem dX6_readInput_8 : decode cX6_readInput 8 = .ok (.iconst 0, 1) := by decide +kernel
theorem dX6_readInput_9 : decode cX6_readInput 9 = .ok (.istore_n 2, 1) := by decide +kernel
theorem dX6_readInput_10 : decode cX6_readInput 10 = .ok (.iload_n 1, 1) := by decide +kernel
theorem dX6_readInput_11 : decode cX6_readInput 11 = .ok (.iconst (-1), 1) := by decide +kernel
theorem dX6_readInput_12 : decode cX6_readInput 12 = .ok (.if_icmp .ne 28, 3) := by decide +kernel
theorem dX6_readInput_15 : decode cX6_readInput 15 = .ok (.iload_n 2, 1) := by decide +kernel
theorem dX6_readInput_16 : decode cX6_readInput 16 = .ok (.aload_n 0, 1) := by decide +kernel
theorem dX6_readInput_17 : decode cX6_readInput 17 = .ok (.getfield 44, 3) := by decide +kernel
theorem dX6_readInput_20 : decode cX6_readInput 20 = .ok (.invokevirtual 154, 3) := by decide +kernel
theorem dX6_readInput_23 : decode cX6_readInput 23 = .ok (.if_icmp .ge 17, 3) := by decide +kernel
theorem dX6_readInput_26 : decode cX6_readInput 26 = .ok (.aload_n 0, 1) := by decide +kernel
theorem dX6_readInput_27 : decode cX6_readInput 27 = .ok (.iload_n 2, 1) := by decide +kernel
theorem dX6_readInput_28 : decode cX6_readInput 28 = .ok (.invokevirtual 157, 3) := by decide +kernel
theorem dX6_readInput_31 : decode cX6_readInput 31 = .ok (.ifCond .eq 9, 3) := by decide +kernel
theorem dX6_readInput_34 : decode cX6_readInput 34 = .ok (.iinc 2 1, 3) := by decide +kernel
theorem dX6_readInput_37 : decode cX6_readInput 37 = .ok (.goto (-27), 3) := by decide +kernel
theorem dX6_readInput_40 : decode cX6_readInput 40 = .ok (.aload_n 0, 1) := by decide +kernel
theorem dX6_readInput_41 : decode cX6_readInput 41 = .ok (.getfield 44, 3) := by decide +kernel
theorem dX6_readInput_44 : decode cX6_readInput 44 = .ok (.invokevirtual 161, 3) := by decide +kernel
theorem dX6_readInput_47 : decode cX6_readInput 47 = .ok (.aload_n 0, 1) := by decide +kernel
theorem dX6_readInput_48 : decode cX6_readInput 48 = .ok (.getfield 21, 3) := by decide +kernel
theorem dX6_readInput_51 : decode cX6_readInput 51 = .ok (.invokevirtual 65, 3) := by decide +kernel
theorem dX6_readInput_54 : decode cX6_readInput 54 = .ok (.iload_n 1, 1) := by decide +kernel
theorem dX6_readInput_55 : decode cX6_readInput 55 = .ok (.iconst (-1), 1) := by decide +kernel
theorem dX6_readInput_56 : decode cX6_readInput 56 = .ok (.if_icmp .ne 7, 3) := by decide +kernel
theorem dX6_readInput_59 : decode cX6_readInput 59 = .ok (.iload_n 2, 1) := by decide +kernel
theorem dX6_readInput_60 : decode cX6_readInput 60 = .ok (.goto 7, 3) := by decide +kernel
theorem dX6_readInput_63 : decode cX6_readInput 63 = .ok (.bipush (-100), 2) := by decide +kernel
theorem dX6_readInput_65 : decode cX6_readInput 65 = .ok (.iload_n 1, 1) := by decide +kernel
theorem dX6_readInput_66 : decode cX6_readInput 66 = .ok (.isub, 1) := by decide +kernel
theorem dX6_readInput_67 : decode cX6_readInput 67 = .ok (.ireturn, 1) := by decide +kernel
theorem dX6_triangleCount_0 : decode cX6_triangleCount 0 = .ok (.aload_n 0, 1) := by decide +kernel
theorem dX6_triangleCount_1 : decode cX6_triangleCount 1 = .ok (.getfield 21, 3) := by decide +kernel
theorem dX6_triangleCount_4 : decode cX6_triangleCount 4 = .ok (.invokevirtual 164, 3) := by decide +kernel
theorem dX6_triangleCount_7 : decode cX6_triangleCount 7 = .ok (.ireturn, 1) := by decide +kernel
theorem dX6_corner_0 : decode cX6_corner 0 = .ok (.aload_n 0, 1) := by decide +kernel
theorem dX6_corner_1 : decode cX6_corner 1 = .ok (.iload_n 1, 1) := by decide +kernel
theorem dX6_corner_2 : decode cX6_corner 2 = .ok (.invokevirtual 167, 3) := by decide +kernel
theorem dX6_corner_5 : decode cX6_corner 5 = .ok (.aload_n 0, 1) := by decide +kernel
theorem dX6_corner_6 : decode cX6_corner 6 = .ok (.iload_n 2, 1) := by decide +kernel
theorem dX6_corner_7 : decode cX6_corner 7 = .ok (.invokevirtual 170, 3) := by decide +kernel
theorem dX6_corner_10 : decode cX6_corner 10 = .ok (.aload_n 0, 1) := by decide +kernel
theorem dX6_corner_11 : decode cX6_corner 11 = .ok (.getfield 21, 3) := by decide +kernel
theorem dX6_corner_14 : decode cX6_corner 14 = .ok (.iload_n 1, 1) := by decide +kernel
theorem dX6_corner_15 : decode cX6_corner 15 = .ok (.iload_n 2, 1) := by decide +kernel
theorem dX6_corner_16 : decode cX6_corner 16 = .ok (.invokevirtual 173, 3) := by decide +kernel
theorem dX6_corner_19 : decode cX6_corner 19 = .ok (.ireturn, 1) := by decide +kernel
theorem dX6_beyond_0 : decode cX6_beyond 0 = .ok (.aload_n 0, 1) := by decide +kernel
theorem dX6_beyond_1 : decode cX6_beyond 1 = .ok (.iload_n 1, 1) := by decide +kernel
theorem dX6_beyond_2 : decode cX6_beyond 2 = .ok (.invokevirtual 167, 3) := by decide +kernel
theorem dX6_beyond_5 : decode cX6_beyond 5 = .ok (.aload_n 0, 1) := by decide +kernel
theorem dX6_beyond_6 : decode cX6_beyond 6 = .ok (.iload_n 2, 1) := by decide +kernel
theorem dX6_beyond_7 : decode cX6_beyond 7 = .ok (.invokevirtual 170, 3) := by decide +kernel
theorem dX6_beyond_10 : decode cX6_beyond 10 = .ok (.aload_n 0, 1) := by decide +kernel
theorem dX6_beyond_11 : decode cX6_beyond 11 = .ok (.getfield 21, 3) := by decide +kernel
theorem dX6_beyond_14 : decode cX6_beyond 14 = .ok (.iload_n 1, 1) := by decide +kernel
theorem dX6_beyond_15 : decode cX6_beyond 15 = .ok (.iload_n 2, 1) := by decide +kernel
theorem dX6_beyond_16 : decode cX6_beyond 16 = .ok (.invokevirtual 176, 3) := by decide +kernel
theorem dX6_beyond_19 : decode cX6_beyond 19 = .ok (.ireturn, 1) := by decide +kernel
theorem dX6_edgeCount_0 : decode cX6_edgeCount 0 = .ok (.aload_n 0, 1) := by decide +kernel
theorem dX6_edgeCount_1 : decode cX6_edgeCount 1 = .ok (.getfield 21, 3) := by decide +kernel
theorem dX6_edgeCount_4 : decode cX6_edgeCount 4 = .ok (.invokevirtual 179, 3) := by decide +kernel
theorem dX6_edgeCount_7 : decode cX6_edgeCount 7 = .ok (.ireturn, 1) := by decide +kernel
theorem dX6_edgeEnd_0 : decode cX6_edgeEnd 0 = .ok (.aload_n 0, 1) := by decide +kernel
theorem dX6_edgeEnd_1 : decode cX6_edgeEnd 1 = .ok (.iload_n 1, 1) := by decide +kernel
theorem dX6_edgeEnd_2 : decode cX6_edgeEnd 2 = .ok (.invokevirtual 182, 3) := by decide +kernel
theorem dX6_edgeEnd_5 : decode cX6_edgeEnd 5 = .ok (.aload_n 0, 1) := by decide +kernel
theorem dX6_edgeEnd_6 : decode cX6_edgeEnd 6 = .ok (.iload_n 2, 1) := by decide +kernel
theorem dX6_edgeEnd_7 : decode cX6_edgeEnd 7 = .ok (.invokevirtual 101, 3) := by decide +kernel
theorem dX6_edgeEnd_10 : decode cX6_edgeEnd 10 = .ok (.iload_n 2, 1) := by decide +kernel
theorem dX6_edgeEnd_11 : decode cX6_edgeEnd 11 = .ok (.ifCond .ne 14, 3) := by decide +kernel
theorem dX6_edgeEnd_14 : decode cX6_edgeEnd 14 = .ok (.aload_n 0, 1) := by decide +kernel
theorem dX6_edgeEnd_15 : decode cX6_edgeEnd 15 = .ok (.getfield 21, 3) := by decide +kernel
theorem dX6_edgeEnd_18 : decode cX6_edgeEnd 18 = .ok (.iload_n 1, 1) := by decide +kernel
theorem dX6_edgeEnd_19 : decode cX6_edgeEnd 19 = .ok (.invokevirtual 185, 3) := by decide +kernel
theorem dX6_edgeEnd_22 : decode cX6_edgeEnd 22 = .ok (.goto 11, 3) := by decide +kernel
theorem dX6_edgeEnd_25 : decode cX6_edgeEnd 25 = .ok (.aload_n 0, 1) := by decide +kernel
theorem dX6_edgeEnd_26 : decode cX6_edgeEnd 26 = .ok (.getfield 21, 3) := by decide +kernel
theorem dX6_edgeEnd_29 : decode cX6_edgeEnd 29 = .ok (.iload_n 1, 1) := by decide +kernel
theorem dX6_edgeEnd_30 : decode cX6_edgeEnd 30 = .ok (.invokevirtual 186, 3) := by decide +kernel
theorem dX6_edgeEnd_33 : decode cX6_edgeEnd 33 = .ok (.ireturn, 1) := by decide +kernel
theorem dX6_edgeBetween_0 : decode cX6_edgeBetween 0 = .ok (.aload_n 0, 1) := by decide +kernel
theorem dX6_edgeBetween_1 : decode cX6_edgeBetween 1 = .ok (.iload_n 1, 1) := by decide +kernel
theorem dX6_edgeBetween_2 : decode cX6_edgeBetween 2 = .ok (.invokevirtual 72, 3) := by decide +kernel
theorem dX6_edgeBetween_5 : decode cX6_edgeBetween 5 = .ok (.aload_n 0, 1) := by decide +kernel
theorem dX6_edgeBetween_6 : decode cX6_edgeBetween 6 = .ok (.iload_n 2, 1) := by decide +kernel
theorem dX6_edgeBetween_7 : decode cX6_edgeBetween 7 = .ok (.invokevirtual 72, 3) := by decide +kernel
theorem dX6_edgeBetween_10 : decode cX6_edgeBetween 10 = .ok (.aload_n 0, 1) := by decide +kernel
theorem dX6_edgeBetween_11 : decode cX6_edgeBetween 11 = .ok (.getfield 21, 3) := by decide +kernel
theorem dX6_edgeBetween_14 : decode cX6_edgeBetween 14 = .ok (.iload_n 1, 1) := by decide +kernel
theorem dX6_edgeBetween_15 : decode cX6_edgeBetween 15 = .ok (.iload_n 2, 1) := by decide +kernel
theorem dX6_edgeBetween_16 : decode cX6_edgeBetween 16 = .ok (.invokevirtual 187, 3) := by decide +kernel
theorem dX6_edgeBetween_19 : decode cX6_edgeBetween 19 = .ok (.istore_n 3, 1) := by decide +kernel
theorem dX6_edgeBetween_20 : decode cX6_edgeBetween 20 = .ok (.iload_n 3, 1) := by decide +kernel
theorem dX6_edgeBetween_21 : decode cX6_edgeBetween 21 = .ok (.iconst (-1), 1) := by decide +kernel
theorem dX6_edgeBetween_22 : decode cX6_edgeBetween 22 = .ok (.if_icmp .ne 13, 3) := by decide +kernel
theorem dX6_edgeBetween_25 : decode cX6_edgeBetween 25 = .ok (.new 190, 3) := by decide +kernel
theorem dX6_edgeBetween_28 : decode cX6_edgeBetween 28 = .ok (.dup, 1) := by decide +kernel
theorem dX6_edgeBetween_29 : decode cX6_edgeBetween 29 = .ok (.ldc 192, 2) := by decide +kernel
theorem dX6_edgeBetween_31 : decode cX6_edgeBetween 31 = .ok (.invokespecial 194, 3) := by decide +kernel
theorem dX6_edgeBetween_34 : decode cX6_edgeBetween 34 = .ok (.athrow, 1) := by decide +kernel
theorem dX6_edgeBetween_35 : decode cX6_edgeBetween 35 = .ok (.iload_n 3, 1) := by decide +kernel
theorem dX6_edgeBetween_36 : decode cX6_edgeBetween 36 = .ok (.ireturn, 1) := by decide +kernel
theorem dX6_degree_0 : decode cX6_degree 0 = .ok (.aload_n 0, 1) := by decide +kernel
theorem dX6_degree_1 : decode cX6_degree 1 = .ok (.iload_n 1, 1) := by decide +kernel
theorem dX6_degree_2 : decode cX6_degree 2 = .ok (.invokevirtual 72, 3) := by decide +kernel
theorem dX6_degree_5 : decode cX6_degree 5 = .ok (.aload_n 0, 1) := by decide +kernel
theorem dX6_degree_6 : decode cX6_degree 6 = .ok (.getfield 21, 3) := by decide +kernel
theorem dX6_degree_9 : decode cX6_degree 9 = .ok (.iload_n 1, 1) := by decide +kernel
theorem dX6_degree_10 : decode cX6_degree 10 = .ok (.invokevirtual 195, 3) := by decide +kernel
theorem dX6_degree_13 : decode cX6_degree 13 = .ok (.ireturn, 1) := by decide +kernel
theorem dX6_neighbour_0 : decode cX6_neighbour 0 = .ok (.aload_n 0, 1) := by decide +kernel
theorem dX6_neighbour_1 : decode cX6_neighbour 1 = .ok (.iload_n 1, 1) := by decide +kernel
theorem dX6_neighbour_2 : decode cX6_neighbour 2 = .ok (.invokevirtual 72, 3) := by decide +kernel
theorem dX6_neighbour_5 : decode cX6_neighbour 5 = .ok (.iload_n 2, 1) := by decide +kernel
theorem dX6_neighbour_6 : decode cX6_neighbour 6 = .ok (.ifCond .lt 15, 3) := by decide +kernel
theorem dX6_neighbour_9 : decode cX6_neighbour 9 = .ok (.iload_n 2, 1) := by decide +kernel
theorem dX6_neighbour_10 : decode cX6_neighbour 10 = .ok (.aload_n 0, 1) := by decide +kernel
theorem dX6_neighbour_11 : decode cX6_neighbour 11 = .ok (.getfield 21, 3) := by decide +kernel
theorem dX6_neighbour_14 : decode cX6_neighbour 14 = .ok (.iload_n 1, 1) := by decide +kernel
theorem dX6_neighbour_15 : decode cX6_neighbour 15 = .ok (.invokevirtual 195, 3) := by decide +kernel
theorem dX6_neighbour_18 : decode cX6_neighbour 18 = .ok (.if_icmp .lt 13, 3) := by decide +kernel
theorem dX6_neighbour_21 : decode cX6_neighbour 21 = .ok (.new 190, 3) := by decide +kernel
theorem dX6_neighbour_24 : decode cX6_neighbour 24 = .ok (.dup, 1) := by decide +kernel
theorem dX6_neighbour_25 : decode cX6_neighbour 25 = .ok (.ldc 198, 2) := by decide +kernel
theorem dX6_neighbour_27 : decode cX6_neighbour 27 = .ok (.invokespecial 194, 3) := by decide +kernel
theorem dX6_neighbour_30 : decode cX6_neighbour 30 = .ok (.athrow, 1) := by decide +kernel
theorem dX6_neighbour_31 : decode cX6_neighbour 31 = .ok (.aload_n 0, 1) := by decide +kernel
theorem dX6_neighbour_32 : decode cX6_neighbour 32 = .ok (.getfield 21, 3) := by decide +kernel
theorem dX6_neighbour_35 : decode cX6_neighbour 35 = .ok (.iload_n 1, 1) := by decide +kernel
theorem dX6_neighbour_36 : decode cX6_neighbour 36 = .ok (.iload_n 2, 1) := by decide +kernel
theorem dX6_neighbour_37 : decode cX6_neighbour 37 = .ok (.invokevirtual 200, 3) := by decide +kernel
theorem dX6_neighbour_40 : decode cX6_neighbour 40 = .ok (.ireturn, 1) := by decide +kernel
theorem dX6_hullSize_0 : decode cX6_hullSize 0 = .ok (.aload_n 0, 1) := by decide +kernel
theorem dX6_hullSize_1 : decode cX6_hullSize 1 = .ok (.getfield 21, 3) := by decide +kernel
theorem dX6_hullSize_4 : decode cX6_hullSize 4 = .ok (.invokevirtual 203, 3) := by decide +kernel
theorem dX6_hullSize_7 : decode cX6_hullSize 7 = .ok (.ireturn, 1) := by decide +kernel
theorem dX6_hullPoint_0 : decode cX6_hullPoint 0 = .ok (.iload_n 1, 1) := by decide +kernel
theorem dX6_hullPoint_1 : decode cX6_hullPoint 1 = .ok (.ifCond .lt 14, 3) := by decide +kernel
theorem dX6_hullPoint_4 : decode cX6_hullPoint 4 = .ok (.iload_n 1, 1) := by decide +kernel
theorem dX6_hullPoint_5 : decode cX6_hullPoint 5 = .ok (.aload_n 0, 1) := by decide +kernel
theorem dX6_hullPoint_6 : decode cX6_hullPoint 6 = .ok (.getfield 21, 3) := by decide +kernel
theorem dX6_hullPoint_9 : decode cX6_hullPoint 9 = .ok (.invokevirtual 203, 3) := by decide +kernel
theorem dX6_hullPoint_12 : decode cX6_hullPoint 12 = .ok (.if_icmp .lt 13, 3) := by decide +kernel
theorem dX6_hullPoint_15 : decode cX6_hullPoint 15 = .ok (.new 206, 3) := by decide +kernel
theorem dX6_hullPoint_18 : decode cX6_hullPoint 18 = .ok (.dup, 1) := by decide +kernel
theorem dX6_hullPoint_19 : decode cX6_hullPoint 19 = .ok (.ldc 198, 2) := by decide +kernel
theorem dX6_hullPoint_21 : decode cX6_hullPoint 21 = .ok (.invokespecial 208, 3) := by decide +kernel
theorem dX6_hullPoint_24 : decode cX6_hullPoint 24 = .ok (.athrow, 1) := by decide +kernel
theorem dX6_hullPoint_25 : decode cX6_hullPoint 25 = .ok (.aload_n 0, 1) := by decide +kernel
theorem dX6_hullPoint_26 : decode cX6_hullPoint 26 = .ok (.getfield 21, 3) := by decide +kernel
theorem dX6_hullPoint_29 : decode cX6_hullPoint 29 = .ok (.iload_n 1, 1) := by decide +kernel
theorem dX6_hullPoint_30 : decode cX6_hullPoint 30 = .ok (.invokevirtual 209, 3) := by decide +kernel
theorem dX6_hullPoint_33 : decode cX6_hullPoint 33 = .ok (.ireturn, 1) := by decide +kernel
theorem dX6_twiceArea_0 : decode cX6_twiceArea 0 = .ok (.aload_n 0, 1) := by decide +kernel
theorem dX6_twiceArea_1 : decode cX6_twiceArea 1 = .ok (.iload_n 1, 1) := by decide +kernel
theorem dX6_twiceArea_2 : decode cX6_twiceArea 2 = .ok (.invokevirtual 167, 3) := by decide +kernel
theorem dX6_twiceArea_5 : decode cX6_twiceArea 5 = .ok (.aload_n 0, 1) := by decide +kernel
theorem dX6_twiceArea_6 : decode cX6_twiceArea 6 = .ok (.getfield 21, 3) := by decide +kernel
theorem dX6_twiceArea_9 : decode cX6_twiceArea 9 = .ok (.iload_n 1, 1) := by decide +kernel
theorem dX6_twiceArea_10 : decode cX6_twiceArea 10 = .ok (.invokevirtual 212, 3) := by decide +kernel
theorem dX6_twiceArea_13 : decode cX6_twiceArea 13 = .ok (.ireturn, 1) := by decide +kernel
theorem dX6_areaShare_0 : decode cX6_areaShare 0 = .ok (.aload_n 0, 1) := by decide +kernel
theorem dX6_areaShare_1 : decode cX6_areaShare 1 = .ok (.iload_n 1, 1) := by decide +kernel
theorem dX6_areaShare_2 : decode cX6_areaShare 2 = .ok (.invokevirtual 167, 3) := by decide +kernel
theorem dX6_areaShare_5 : decode cX6_areaShare 5 = .ok (.aload_n 0, 1) := by decide +kernel
theorem dX6_areaShare_6 : decode cX6_areaShare 6 = .ok (.getfield 21, 3) := by decide +kernel
theorem dX6_areaShare_9 : decode cX6_areaShare 9 = .ok (.invokevirtual 215, 3) := by decide +kernel
theorem dX6_areaShare_12 : decode cX6_areaShare 12 = .ok (.istore_n 2, 1) := by decide +kernel
theorem dX6_areaShare_13 : decode cX6_areaShare 13 = .ok (.iload_n 2, 1) := by decide +kernel
theorem dX6_areaShare_14 : decode cX6_areaShare 14 = .ok (.ifCond .ne 7, 3) := by decide +kernel
theorem dX6_areaShare_17 : decode cX6_areaShare 17 = .ok (.dconst 0, 1) := by decide +kernel
theorem dX6_areaShare_18 : decode cX6_areaShare 18 = .ok (.goto 15, 3) := by decide +kernel
theorem dX6_areaShare_21 : decode cX6_areaShare 21 = .ok (.aload_n 0, 1) := by decide +kernel
theorem dX6_areaShare_22 : decode cX6_areaShare 22 = .ok (.getfield 21, 3) := by decide +kernel
theorem dX6_areaShare_25 : decode cX6_areaShare 25 = .ok (.iload_n 1, 1) := by decide +kernel
theorem dX6_areaShare_26 : decode cX6_areaShare 26 = .ok (.invokevirtual 212, 3) := by decide +kernel
theorem dX6_areaShare_29 : decode cX6_areaShare 29 = .ok (.i2d, 1) := by decide +kernel
theorem dX6_areaShare_30 : decode cX6_areaShare 30 = .ok (.iload_n 2, 1) := by decide +kernel
theorem dX6_areaShare_31 : decode cX6_areaShare 31 = .ok (.i2d, 1) := by decide +kernel
theorem dX6_areaShare_32 : decode cX6_areaShare 32 = .ok (.ddiv, 1) := by decide +kernel
theorem dX6_areaShare_33 : decode cX6_areaShare 33 = .ok (.dreturn, 1) := by decide +kernel
theorem dX6_meanDegree_0 : decode cX6_meanDegree 0 = .ok (.aload_n 0, 1) := by decide +kernel
theorem dX6_meanDegree_1 : decode cX6_meanDegree 1 = .ok (.getfield 10, 3) := by decide +kernel
theorem dX6_meanDegree_4 : decode cX6_meanDegree 4 = .ok (.invokevirtual 68, 3) := by decide +kernel
theorem dX6_meanDegree_7 : decode cX6_meanDegree 7 = .ok (.istore_n 1, 1) := by decide +kernel
theorem dX6_meanDegree_8 : decode cX6_meanDegree 8 = .ok (.iload_n 1, 1) := by decide +kernel
theorem dX6_meanDegree_9 : decode cX6_meanDegree 9 = .ok (.ifCond .ne 13, 3) := by decide +kernel
theorem dX6_meanDegree_12 : decode cX6_meanDegree 12 = .ok (.new 190, 3) := by decide +kernel
theorem dX6_meanDegree_15 : decode cX6_meanDegree 15 = .ok (.dup, 1) := by decide +kernel
theorem dX6_meanDegree_16 : decode cX6_meanDegree 16 = .ok (.ldc 218, 2) := by decide +kernel
theorem dX6_meanDegree_18 : decode cX6_meanDegree 18 = .ok (.invokespecial 194, 3) := by decide +kernel
theorem dX6_meanDegree_21 : decode cX6_meanDegree 21 = .ok (.athrow, 1) := by decide +kernel
theorem dX6_meanDegree_22 : decode cX6_meanDegree 22 = .ok (.iconst 2, 1) := by decide +kernel
theorem dX6_meanDegree_23 : decode cX6_meanDegree 23 = .ok (.aload_n 0, 1) := by decide +kernel
theorem dX6_meanDegree_24 : decode cX6_meanDegree 24 = .ok (.getfield 21, 3) := by decide +kernel
theorem dX6_meanDegree_27 : decode cX6_meanDegree 27 = .ok (.invokevirtual 179, 3) := by decide +kernel
theorem dX6_meanDegree_30 : decode cX6_meanDegree 30 = .ok (.imul, 1) := by decide +kernel
theorem dX6_meanDegree_31 : decode cX6_meanDegree 31 = .ok (.i2d, 1) := by decide +kernel
theorem dX6_meanDegree_32 : decode cX6_meanDegree 32 = .ok (.iload_n 1, 1) := by decide +kernel
theorem dX6_meanDegree_33 : decode cX6_meanDegree 33 = .ok (.i2d, 1) := by decide +kernel
theorem dX6_meanDegree_34 : decode cX6_meanDegree 34 = .ok (.ddiv, 1) := by decide +kernel
theorem dX6_meanDegree_35 : decode cX6_meanDegree 35 = .ok (.dreturn, 1) := by decide +kernel
theorem dX6_squaredLength_0 : decode cX6_squaredLength 0 = .ok (.iload_n 1, 1) := by decide +kernel
theorem dX6_squaredLength_1 : decode cX6_squaredLength 1 = .ok (.ifCond .lt 8, 3) := by decide +kernel
theorem dX6_squaredLength_4 : decode cX6_squaredLength 4 = .ok (.iload_n 1, 1) := by decide +kernel
theorem dX6_squaredLength_5 : decode cX6_squaredLength 5 = .ok (.iconst 2, 1) := by decide +kernel
theorem dX6_squaredLength_6 : decode cX6_squaredLength 6 = .ok (.if_icmp .le 13, 3) := by decide +kernel
theorem dX6_squaredLength_9 : decode cX6_squaredLength 9 = .ok (.new 220, 3) := by decide +kernel
theorem dX6_squaredLength_12 : decode cX6_squaredLength 12 = .ok (.dup, 1) := by decide +kernel
theorem dX6_squaredLength_13 : decode cX6_squaredLength 13 = .ok (.ldc 222, 2) := by decide +kernel
theorem dX6_squaredLength_15 : decode cX6_squaredLength 15 = .ok (.invokespecial 224, 3) := by decide +kernel
theorem dX6_squaredLength_18 : decode cX6_squaredLength 18 = .ok (.athrow, 1) := by decide +kernel
theorem dX6_squaredLength_19 : decode cX6_squaredLength 19 = .ok (.aload_n 0, 1) := by decide +kernel
theorem dX6_squaredLength_20 : decode cX6_squaredLength 20 = .ok (.getfield 21, 3) := by decide +kernel
theorem dX6_squaredLength_23 : decode cX6_squaredLength 23 = .ok (.invokevirtual 179, 3) := by decide +kernel
theorem dX6_squaredLength_26 : decode cX6_squaredLength 26 = .ok (.ifCond .ne 13, 3) := by decide +kernel
theorem dX6_squaredLength_29 : decode cX6_squaredLength 29 = .ok (.new 190, 3) := by decide +kernel
theorem dX6_squaredLength_32 : decode cX6_squaredLength 32 = .ok (.dup, 1) := by decide +kernel
theorem dX6_squaredLength_33 : decode cX6_squaredLength 33 = .ok (.ldc 225, 2) := by decide +kernel
theorem dX6_squaredLength_35 : decode cX6_squaredLength 35 = .ok (.invokespecial 194, 3) := by decide +kernel
theorem dX6_squaredLength_38 : decode cX6_squaredLength 38 = .ok (.athrow, 1) := by decide +kernel
theorem dX6_squaredLength_39 : decode cX6_squaredLength 39 = .ok (.iload_n 1, 1) := by decide +kernel
theorem dX6_squaredLength_40 : decode cX6_squaredLength 40 = .ok (.ifCond .ne 11, 3) := by decide +kernel
theorem dX6_squaredLength_43 : decode cX6_squaredLength 43 = .ok (.aload_n 0, 1) := by decide +kernel
theorem dX6_squaredLength_44 : decode cX6_squaredLength 44 = .ok (.getfield 21, 3) := by decide +kernel
theorem dX6_squaredLength_47 : decode cX6_squaredLength 47 = .ok (.invokevirtual 227, 3) := by decide +kernel
theorem dX6_squaredLength_50 : decode cX6_squaredLength 50 = .ok (.ireturn, 1) := by decide +kernel
theorem dX6_squaredLength_51 : decode cX6_squaredLength 51 = .ok (.iload_n 1, 1) := by decide +kernel
theorem dX6_squaredLength_52 : decode cX6_squaredLength 52 = .ok (.iconst 1, 1) := by decide +kernel
theorem dX6_squaredLength_53 : decode cX6_squaredLength 53 = .ok (.if_icmp .ne 13, 3) := by decide +kernel
theorem dX6_squaredLength_56 : decode cX6_squaredLength 56 = .ok (.aload_n 0, 1) := by decide +kernel
theorem dX6_squaredLength_57 : decode cX6_squaredLength 57 = .ok (.getfield 21, 3) := by decide +kernel
theorem dX6_squaredLength_60 : decode cX6_squaredLength 60 = .ok (.invokevirtual 230, 3) := by decide +kernel
theorem dX6_squaredLength_63 : decode cX6_squaredLength 63 = .ok (.goto 10, 3) := by decide +kernel
theorem dX6_squaredLength_66 : decode cX6_squaredLength 66 = .ok (.aload_n 0, 1) := by decide +kernel
theorem dX6_squaredLength_67 : decode cX6_squaredLength 67 = .ok (.getfield 21, 3) := by decide +kernel
theorem dX6_squaredLength_70 : decode cX6_squaredLength 70 = .ok (.invokevirtual 233, 3) := by decide +kernel
theorem dX6_squaredLength_73 : decode cX6_squaredLength 73 = .ok (.ireturn, 1) := by decide +kernel
theorem dX6_turn_0 : decode cX6_turn 0 = .ok (.aload_n 0, 1) := by decide +kernel
theorem dX6_turn_1 : decode cX6_turn 1 = .ok (.iload_n 1, 1) := by decide +kernel
theorem dX6_turn_2 : decode cX6_turn 2 = .ok (.invokevirtual 72, 3) := by decide +kernel
theorem dX6_turn_5 : decode cX6_turn 5 = .ok (.aload_n 0, 1) := by decide +kernel
theorem dX6_turn_6 : decode cX6_turn 6 = .ok (.iload_n 2, 1) := by decide +kernel
theorem dX6_turn_7 : decode cX6_turn 7 = .ok (.invokevirtual 72, 3) := by decide +kernel
theorem dX6_turn_10 : decode cX6_turn 10 = .ok (.aload_n 0, 1) := by decide +kernel
theorem dX6_turn_11 : decode cX6_turn 11 = .ok (.iload_n 3, 1) := by decide +kernel
theorem dX6_turn_12 : decode cX6_turn 12 = .ok (.invokevirtual 72, 3) := by decide +kernel
theorem dX6_turn_15 : decode cX6_turn 15 = .ok (.aload_n 0, 1) := by decide +kernel
theorem dX6_turn_16 : decode cX6_turn 16 = .ok (.getfield 10, 3) := by decide +kernel
theorem dX6_turn_19 : decode cX6_turn 19 = .ok (.iload_n 1, 1) := by decide +kernel
theorem dX6_turn_20 : decode cX6_turn 20 = .ok (.iload_n 2, 1) := by decide +kernel
theorem dX6_turn_21 : decode cX6_turn 21 = .ok (.iload_n 3, 1) := by decide +kernel
theorem dX6_turn_22 : decode cX6_turn 22 = .ok (.invokevirtual 236, 3) := by decide +kernel
theorem dX6_turn_25 : decode cX6_turn 25 = .ok (.ireturn, 1) := by decide +kernel
theorem dX6_inCircle_0 : decode cX6_inCircle 0 = .ok (.aload_n 0, 1) := by decide +kernel
theorem dX6_inCircle_1 : decode cX6_inCircle 1 = .ok (.iload_n 1, 1) := by decide +kernel
theorem dX6_inCircle_2 : decode cX6_inCircle 2 = .ok (.invokevirtual 72, 3) := by decide +kernel
theorem dX6_inCircle_5 : decode cX6_inCircle 5 = .ok (.aload_n 0, 1) := by decide +kernel
theorem dX6_inCircle_6 : decode cX6_inCircle 6 = .ok (.iload_n 2, 1) := by decide +kernel
theorem dX6_inCircle_7 : decode cX6_inCircle 7 = .ok (.invokevirtual 72, 3) := by decide +kernel
theorem dX6_inCircle_10 : decode cX6_inCircle 10 = .ok (.aload_n 0, 1) := by decide +kernel
theorem dX6_inCircle_11 : decode cX6_inCircle 11 = .ok (.iload_n 3, 1) := by decide +kernel
theorem dX6_inCircle_12 : decode cX6_inCircle 12 = .ok (.invokevirtual 72, 3) := by decide +kernel
theorem dX6_inCircle_15 : decode cX6_inCircle 15 = .ok (.aload_n 0, 1) := by decide +kernel
theorem dX6_inCircle_16 : decode cX6_inCircle 16 = .ok (.iload 4, 2) := by decide +kernel
theorem dX6_inCircle_18 : decode cX6_inCircle 18 = .ok (.invokevirtual 72, 3) := by decide +kernel
theorem dX6_inCircle_21 : decode cX6_inCircle 21 = .ok (.aload_n 0, 1) := by decide +kernel
theorem dX6_inCircle_22 : decode cX6_inCircle 22 = .ok (.getfield 10, 3) := by decide +kernel
theorem dX6_inCircle_25 : decode cX6_inCircle 25 = .ok (.iload_n 1, 1) := by decide +kernel
theorem dX6_inCircle_26 : decode cX6_inCircle 26 = .ok (.iload_n 2, 1) := by decide +kernel
theorem dX6_inCircle_27 : decode cX6_inCircle 27 = .ok (.iload_n 3, 1) := by decide +kernel
theorem dX6_inCircle_28 : decode cX6_inCircle 28 = .ok (.invokevirtual 236, 3) := by decide +kernel
theorem dX6_inCircle_31 : decode cX6_inCircle 31 = .ok (.ifCond .ne 13, 3) := by decide +kernel
theorem dX6_inCircle_34 : decode cX6_inCircle 34 = .ok (.new 240, 3) := by decide +kernel
theorem dX6_inCircle_37 : decode cX6_inCircle 37 = .ok (.dup, 1) := by decide +kernel
theorem dX6_inCircle_38 : decode cX6_inCircle 38 = .ok (.ldc 242, 2) := by decide +kernel
theorem dX6_inCircle_40 : decode cX6_inCircle 40 = .ok (.invokespecial 244, 3) := by decide +kernel
theorem dX6_inCircle_43 : decode cX6_inCircle 43 = .ok (.athrow, 1) := by decide +kernel
theorem dX6_inCircle_44 : decode cX6_inCircle 44 = .ok (.aload_n 0, 1) := by decide +kernel
theorem dX6_inCircle_45 : decode cX6_inCircle 45 = .ok (.getfield 10, 3) := by decide +kernel
theorem dX6_inCircle_48 : decode cX6_inCircle 48 = .ok (.iload_n 1, 1) := by decide +kernel
theorem dX6_inCircle_49 : decode cX6_inCircle 49 = .ok (.iload_n 2, 1) := by decide +kernel
theorem dX6_inCircle_50 : decode cX6_inCircle 50 = .ok (.iload_n 3, 1) := by decide +kernel
theorem dX6_inCircle_51 : decode cX6_inCircle 51 = .ok (.iload 4, 2) := by decide +kernel
theorem dX6_inCircle_53 : decode cX6_inCircle 53 = .ok (.invokevirtual 245, 3) := by decide +kernel
theorem dX6_inCircle_56 : decode cX6_inCircle 56 = .ok (.ireturn, 1) := by decide +kernel
theorem dX6_isGood_0 : decode cX6_isGood 0 = .ok (.aload_n 0, 1) := by decide +kernel
theorem dX6_isGood_1 : decode cX6_isGood 1 = .ok (.iload_n 1, 1) := by decide +kernel
theorem dX6_isGood_2 : decode cX6_isGood 2 = .ok (.invokevirtual 182, 3) := by decide +kernel
theorem dX6_isGood_5 : decode cX6_isGood 5 = .ok (.aload_n 0, 1) := by decide +kernel
theorem dX6_isGood_6 : decode cX6_isGood 6 = .ok (.getfield 21, 3) := by decide +kernel
theorem dX6_isGood_9 : decode cX6_isGood 9 = .ok (.iload_n 1, 1) := by decide +kernel
theorem dX6_isGood_10 : decode cX6_isGood 10 = .ok (.invokevirtual 185, 3) := by decide +kernel
theorem dX6_isGood_13 : decode cX6_isGood 13 = .ok (.istore_n 2, 1) := by decide +kernel
theorem dX6_isGood_14 : decode cX6_isGood 14 = .ok (.aload_n 0, 1) := by decide +kernel
theorem dX6_isGood_15 : decode cX6_isGood 15 = .ok (.getfield 21, 3) := by decide +kernel
theorem dX6_isGood_18 : decode cX6_isGood 18 = .ok (.iload_n 1, 1) := by decide +kernel
theorem dX6_isGood_19 : decode cX6_isGood 19 = .ok (.invokevirtual 186, 3) := by decide +kernel
theorem dX6_isGood_22 : decode cX6_isGood 22 = .ok (.istore_n 3, 1) := by decide +kernel
theorem dX6_isGood_23 : decode cX6_isGood 23 = .ok (.aload_n 0, 1) := by decide +kernel
theorem dX6_isGood_24 : decode cX6_isGood 24 = .ok (.getfield 21, 3) := by decide +kernel
theorem dX6_isGood_27 : decode cX6_isGood 27 = .ok (.iload_n 2, 1) := by decide +kernel
theorem dX6_isGood_28 : decode cX6_isGood 28 = .ok (.iload_n 3, 1) := by decide +kernel
theorem dX6_isGood_29 : decode cX6_isGood 29 = .ok (.invokevirtual 249, 3) := by decide +kernel
theorem dX6_isGood_32 : decode cX6_isGood 32 = .ok (.ifCond .ne 13, 3) := by decide +kernel
theorem dX6_isGood_35 : decode cX6_isGood 35 = .ok (.new 90, 3) := by decide +kernel
theorem dX6_isGood_38 : decode cX6_isGood 38 = .ok (.dup, 1) := by decide +kernel
theorem dX6_isGood_39 : decode cX6_isGood 39 = .ok (.ldc 252, 2) := by decide +kernel
theorem dX6_isGood_41 : decode cX6_isGood 41 = .ok (.invokespecial 94, 3) := by decide +kernel
theorem dX6_isGood_44 : decode cX6_isGood 44 = .ok (.athrow, 1) := by decide +kernel
theorem dX6_isGood_45 : decode cX6_isGood 45 = .ok (.aload_n 0, 1) := by decide +kernel
theorem dX6_isGood_46 : decode cX6_isGood 46 = .ok (.getfield 21, 3) := by decide +kernel
theorem dX6_isGood_49 : decode cX6_isGood 49 = .ok (.iload_n 2, 1) := by decide +kernel
theorem dX6_isGood_50 : decode cX6_isGood 50 = .ok (.iload_n 3, 1) := by decide +kernel
theorem dX6_isGood_51 : decode cX6_isGood 51 = .ok (.invokevirtual 254, 3) := by decide +kernel
theorem dX6_isGood_54 : decode cX6_isGood 54 = .ok (.ireturn, 1) := by decide +kernel
theorem dX6_forcedConstraints_0 : decode cX6_forcedConstraints 0 = .ok (.iconst 0, 1) := by decide +kernel
theorem dX6_forcedConstraints_1 : decode cX6_forcedConstraints 1 = .ok (.istore_n 1, 1) := by decide +kernel
theorem dX6_forcedConstraints_2 : decode cX6_forcedConstraints 2 = .ok (.iconst 0, 1) := by decide +kernel
theorem dX6_forcedConstraints_3 : decode cX6_forcedConstraints 3 = .ok (.istore_n 2, 1) := by decide +kernel
theorem dX6_forcedConstraints_4 : decode cX6_forcedConstraints 4 = .ok (.iload_n 2, 1) := by decide +kernel
theorem dX6_forcedConstraints_5 : decode cX6_forcedConstraints 5 = .ok (.aload_n 0, 1) := by decide +kernel
theorem dX6_forcedConstraints_6 : decode cX6_forcedConstraints 6 = .ok (.getfield 10, 3) := by decide +kernel
theorem dX6_forcedConstraints_9 : decode cX6_forcedConstraints 9 = .ok (.invokevirtual 114, 3) := by decide +kernel
theorem dX6_forcedConstraints_12 : decode cX6_forcedConstraints 12 = .ok (.if_icmp .ge 57, 3) := by decide +kernel
theorem dX6_forcedConstraints_15 : decode cX6_forcedConstraints 15 = .ok (.aload_n 0, 1) := by decide +kernel
theorem dX6_forcedConstraints_16 : decode cX6_forcedConstraints 16 = .ok (.getfield 10, 3) := by decide +kernel
theorem dX6_forcedConstraints_19 : decode cX6_forcedConstraints 19 = .ok (.iload_n 2, 1) := by decide +kernel
theorem dX6_forcedConstraints_20 : decode cX6_forcedConstraints 20 = .ok (.invokevirtual 136, 3) := by decide +kernel
theorem dX6_forcedConstraints_23 : decode cX6_forcedConstraints 23 = .ok (.istore_n 3, 1) := by decide +kernel
theorem dX6_forcedConstraints_24 : decode cX6_forcedConstraints 24 = .ok (.aload_n 0, 1) := by decide +kernel
theorem dX6_forcedConstraints_25 : decode cX6_forcedConstraints 25 = .ok (.getfield 10, 3) := by decide +kernel
theorem dX6_forcedConstraints_28 : decode cX6_forcedConstraints 28 = .ok (.iload_n 2, 1) := by decide +kernel
theorem dX6_forcedConstraints_29 : decode cX6_forcedConstraints 29 = .ok (.invokevirtual 139, 3) := by decide +kernel
theorem dX6_forcedConstraints_32 : decode cX6_forcedConstraints 32 = .ok (.istore 4, 2) := by decide +kernel
theorem dX6_forcedConstraints_34 : decode cX6_forcedConstraints 34 = .ok (.aload_n 0, 1) := by decide +kernel
theorem dX6_forcedConstraints_35 : decode cX6_forcedConstraints 35 = .ok (.getfield 21, 3) := by decide +kernel
theorem dX6_forcedConstraints_38 : decode cX6_forcedConstraints 38 = .ok (.iload_n 3, 1) := by decide +kernel
theorem dX6_forcedConstraints_39 : decode cX6_forcedConstraints 39 = .ok (.iload 4, 2) := by decide +kernel
theorem dX6_forcedConstraints_41 : decode cX6_forcedConstraints 41 = .ok (.invokevirtual 249, 3) := by decide +kernel
theorem dX6_forcedConstraints_44 : decode cX6_forcedConstraints 44 = .ok (.ifCond .eq 19, 3) := by decide +kernel
theorem dX6_forcedConstraints_47 : decode cX6_forcedConstraints 47 = .ok (.aload_n 0, 1) := by decide +kernel
theorem dX6_forcedConstraints_48 : decode cX6_forcedConstraints 48 = .ok (.getfield 21, 3) := by decide +kernel
theorem dX6_forcedConstraints_51 : decode cX6_forcedConstraints 51 = .ok (.iload_n 3, 1) := by decide +kernel
theorem dX6_forcedConstraints_52 : decode cX6_forcedConstraints 52 = .ok (.iload 4, 2) := by decide +kernel
theorem dX6_forcedConstraints_54 : decode cX6_forcedConstraints 54 = .ok (.invokevirtual 254, 3) := by decide +kernel
theorem dX6_forcedConstraints_57 : decode cX6_forcedConstraints 57 = .ok (.ifCond .ne 6, 3) := by decide +kernel
theorem dX6_forcedConstraints_60 : decode cX6_forcedConstraints 60 = .ok (.iinc 1 1, 3) := by decide +kernel
theorem dX6_forcedConstraints_63 : decode cX6_forcedConstraints 63 = .ok (.iinc 2 1, 3) := by decide +kernel
theorem dX6_forcedConstraints_66 : decode cX6_forcedConstraints 66 = .ok (.goto (-62), 3) := by decide +kernel
theorem dX6_forcedConstraints_69 : decode cX6_forcedConstraints 69 = .ok (.iload_n 1, 1) := by decide +kernel
theorem dX6_forcedConstraints_70 : decode cX6_forcedConstraints 70 = .ok (.ireturn, 1) := by decide +kernel
theorem dX6_kindAt_0 : decode cX6_kindAt 0 = .ok (.aload_n 0, 1) := by decide +kernel
theorem dX6_kindAt_1 : decode cX6_kindAt 1 = .ok (.iload_n 1, 1) := by decide +kernel
theorem dX6_kindAt_2 : decode cX6_kindAt 2 = .ok (.iload_n 2, 1) := by decide +kernel
theorem dX6_kindAt_3 : decode cX6_kindAt 3 = .ok (.invokevirtual 52, 3) := by decide +kernel
theorem dX6_kindAt_6 : decode cX6_kindAt 6 = .ok (.aload_n 0, 1) := by decide +kernel
theorem dX6_kindAt_7 : decode cX6_kindAt 7 = .ok (.iload_n 1, 1) := by decide +kernel
theorem dX6_kindAt_8 : decode cX6_kindAt 8 = .ok (.iload_n 2, 1) := by decide +kernel
theorem dX6_kindAt_9 : decode cX6_kindAt 9 = .ok (.invokevirtual 257, 3) := by decide +kernel
theorem dX6_kindAt_12 : decode cX6_kindAt 12 = .ok (.ireturn, 1) := by decide +kernel
theorem dX6_numberAt_0 : decode cX6_numberAt 0 = .ok (.aload_n 0, 1) := by decide +kernel
theorem dX6_numberAt_1 : decode cX6_numberAt 1 = .ok (.iload_n 1, 1) := by decide +kernel
theorem dX6_numberAt_2 : decode cX6_numberAt 2 = .ok (.iload_n 2, 1) := by decide +kernel
theorem dX6_numberAt_3 : decode cX6_numberAt 3 = .ok (.invokevirtual 52, 3) := by decide +kernel
theorem dX6_numberAt_6 : decode cX6_numberAt 6 = .ok (.aload_n 0, 1) := by decide +kernel
theorem dX6_numberAt_7 : decode cX6_numberAt 7 = .ok (.iload_n 1, 1) := by decide +kernel
theorem dX6_numberAt_8 : decode cX6_numberAt 8 = .ok (.iload_n 2, 1) := by decide +kernel
theorem dX6_numberAt_9 : decode cX6_numberAt 9 = .ok (.invokevirtual 257, 3) := by decide +kernel
theorem dX6_numberAt_12 : decode cX6_numberAt 12 = .ok (.tableswitch 58 1 3 #[28, 38, 48], 28) := by decide +kernel
theorem dX6_numberAt_40 : decode cX6_numberAt 40 = .ok (.aload_n 0, 1) := by decide +kernel
theorem dX6_numberAt_41 : decode cX6_numberAt 41 = .ok (.getfield 10, 3) := by decide +kernel
theorem dX6_numberAt_44 : decode cX6_numberAt 44 = .ok (.iload_n 1, 1) := by decide +kernel
theorem dX6_numberAt_45 : decode cX6_numberAt 45 = .ok (.iload_n 2, 1) := by decide +kernel
theorem dX6_numberAt_46 : decode cX6_numberAt 46 = .ok (.invokevirtual 82, 3) := by decide +kernel
theorem dX6_numberAt_49 : decode cX6_numberAt 49 = .ok (.ireturn, 1) := by decide +kernel
theorem dX6_numberAt_50 : decode cX6_numberAt 50 = .ok (.aload_n 0, 1) := by decide +kernel
theorem dX6_numberAt_51 : decode cX6_numberAt 51 = .ok (.getfield 21, 3) := by decide +kernel
theorem dX6_numberAt_54 : decode cX6_numberAt 54 = .ok (.iload_n 1, 1) := by decide +kernel
theorem dX6_numberAt_55 : decode cX6_numberAt 55 = .ok (.iload_n 2, 1) := by decide +kernel
theorem dX6_numberAt_56 : decode cX6_numberAt 56 = .ok (.invokevirtual 260, 3) := by decide +kernel
theorem dX6_numberAt_59 : decode cX6_numberAt 59 = .ok (.ireturn, 1) := by decide +kernel
theorem dX6_numberAt_60 : decode cX6_numberAt 60 = .ok (.aload_n 0, 1) := by decide +kernel
theorem dX6_numberAt_61 : decode cX6_numberAt 61 = .ok (.getfield 21, 3) := by decide +kernel
theorem dX6_numberAt_64 : decode cX6_numberAt 64 = .ok (.iload_n 1, 1) := by decide +kernel
theorem dX6_numberAt_65 : decode cX6_numberAt 65 = .ok (.iload_n 2, 1) := by decide +kernel
theorem dX6_numberAt_66 : decode cX6_numberAt 66 = .ok (.invokevirtual 263, 3) := by decide +kernel
theorem dX6_numberAt_69 : decode cX6_numberAt 69 = .ok (.ireturn, 1) := by decide +kernel
theorem dX6_numberAt_70 : decode cX6_numberAt 70 = .ok (.new 190, 3) := by decide +kernel
theorem dX6_numberAt_73 : decode cX6_numberAt 73 = .ok (.dup, 1) := by decide +kernel
theorem dX6_numberAt_74 : decode cX6_numberAt 74 = .ok (.ldc_w 266, 3) := by decide +kernel
theorem dX6_numberAt_77 : decode cX6_numberAt 77 = .ok (.invokespecial 194, 3) := by decide +kernel
theorem dX6_numberAt_80 : decode cX6_numberAt 80 = .ok (.athrow, 1) := by decide +kernel
theorem dX6_walk_0 : decode cX6_walk 0 = .ok (.aload_n 0, 1) := by decide +kernel
theorem dX6_walk_1 : decode cX6_walk 1 = .ok (.iload_n 1, 1) := by decide +kernel
theorem dX6_walk_2 : decode cX6_walk 2 = .ok (.invokevirtual 167, 3) := by decide +kernel
theorem dX6_walk_5 : decode cX6_walk 5 = .ok (.aload_n 0, 1) := by decide +kernel
theorem dX6_walk_6 : decode cX6_walk 6 = .ok (.iload_n 2, 1) := by decide +kernel
theorem dX6_walk_7 : decode cX6_walk 7 = .ok (.iload_n 3, 1) := by decide +kernel
theorem dX6_walk_8 : decode cX6_walk 8 = .ok (.invokevirtual 52, 3) := by decide +kernel
theorem dX6_walk_11 : decode cX6_walk 11 = .ok (.iload_n 1, 1) := by decide +kernel
theorem dX6_walk_12 : decode cX6_walk 12 = .ok (.istore 5, 2) := by decide +kernel
theorem dX6_walk_14 : decode cX6_walk 14 = .ok (.iconst 0, 1) := by decide +kernel
theorem dX6_walk_15 : decode cX6_walk 15 = .ok (.istore 6, 2) := by decide +kernel
theorem dX6_walk_17 : decode cX6_walk 17 = .ok (.aload_n 0, 1) := by decide +kernel
theorem dX6_walk_18 : decode cX6_walk 18 = .ok (.getfield 21, 3) := by decide +kernel
theorem dX6_walk_21 : decode cX6_walk 21 = .ok (.iload 5, 2) := by decide +kernel
theorem dX6_walk_23 : decode cX6_walk 23 = .ok (.iload_n 2, 1) := by decide +kernel
theorem dX6_walk_24 : decode cX6_walk 24 = .ok (.iload_n 3, 1) := by decide +kernel
theorem dX6_walk_25 : decode cX6_walk 25 = .ok (.invokevirtual 268, 3) := by decide +kernel
theorem dX6_walk_28 : decode cX6_walk 28 = .ok (.istore 7, 2) := by decide +kernel
theorem dX6_walk_30 : decode cX6_walk 30 = .ok (.iload 6, 2) := by decide +kernel
theorem dX6_walk_32 : decode cX6_walk 32 = .ok (.bipush 50, 2) := by decide +kernel
theorem dX6_walk_34 : decode cX6_walk 34 = .ok (.if_icmp .ge 54, 3) := by decide +kernel
theorem dX6_walk_37 : decode cX6_walk 37 = .ok (.iload 7, 2) := by decide +kernel
theorem dX6_walk_39 : decode cX6_walk 39 = .ok (.iconst (-1), 1) := by decide +kernel
theorem dX6_walk_40 : decode cX6_walk 40 = .ok (.if_icmp .eq 48, 3) := by decide +kernel
theorem dX6_walk_43 : decode cX6_walk 43 = .ok (.aload_n 0, 1) := by decide +kernel
theorem dX6_walk_44 : decode cX6_walk 44 = .ok (.getfield 21, 3) := by decide +kernel
theorem dX6_walk_47 : decode cX6_walk 47 = .ok (.iload 5, 2) := by decide +kernel
theorem dX6_walk_49 : decode cX6_walk 49 = .ok (.iload 7, 2) := by decide +kernel
theorem dX6_walk_51 : decode cX6_walk 51 = .ok (.invokevirtual 176, 3) := by decide +kernel
theorem dX6_walk_54 : decode cX6_walk 54 = .ok (.istore 8, 2) := by decide +kernel
theorem dX6_walk_56 : decode cX6_walk 56 = .ok (.iload 8, 2) := by decide +kernel
theorem dX6_walk_58 : decode cX6_walk 58 = .ok (.iconst (-1), 1) := by decide +kernel
theorem dX6_walk_59 : decode cX6_walk 59 = .ok (.if_icmp .ne 6, 3) := by decide +kernel
theorem dX6_walk_62 : decode cX6_walk 62 = .ok (.goto 26, 3) := by decide +kernel
theorem dX6_walk_65 : decode cX6_walk 65 = .ok (.iload 8, 2) := by decide +kernel
theorem dX6_walk_67 : decode cX6_walk 67 = .ok (.istore 5, 2) := by decide +kernel
theorem dX6_walk_69 : decode cX6_walk 69 = .ok (.iinc 6 1, 3) := by decide +kernel
theorem dX6_walk_72 : decode cX6_walk 72 = .ok (.aload_n 0, 1) := by decide +kernel
theorem dX6_walk_73 : decode cX6_walk 73 = .ok (.getfield 21, 3) := by decide +kernel
theorem dX6_walk_76 : decode cX6_walk 76 = .ok (.iload 5, 2) := by decide +kernel
theorem dX6_walk_78 : decode cX6_walk 78 = .ok (.iload_n 2, 1) := by decide +kernel
theorem dX6_walk_79 : decode cX6_walk 79 = .ok (.iload_n 3, 1) := by decide +kernel
theorem dX6_walk_80 : decode cX6_walk 80 = .ok (.invokevirtual 268, 3) := by decide +kernel
theorem dX6_walk_83 : decode cX6_walk 83 = .ok (.istore 7, 2) := by decide +kernel
theorem dX6_walk_85 : decode cX6_walk 85 = .ok (.goto (-55), 3) := by decide +kernel
theorem dX6_walk_88 : decode cX6_walk 88 = .ok (.iload 4, 2) := by decide +kernel
theorem dX6_walk_90 : decode cX6_walk 90 = .ok (.ifCond .ne 6, 3) := by decide +kernel
theorem dX6_walk_93 : decode cX6_walk 93 = .ok (.iload 6, 2) := by decide +kernel
theorem dX6_walk_95 : decode cX6_walk 95 = .ok (.ireturn, 1) := by decide +kernel
theorem dX6_walk_96 : decode cX6_walk 96 = .ok (.iload 7, 2) := by decide +kernel
theorem dX6_walk_98 : decode cX6_walk 98 = .ok (.iconst (-1), 1) := by decide +kernel
theorem dX6_walk_99 : decode cX6_walk 99 = .ok (.if_icmp .ne 8, 3) := by decide +kernel
theorem dX6_walk_102 : decode cX6_walk 102 = .ok (.iload 5, 2) := by decide +kernel
theorem dX6_walk_104 : decode cX6_walk 104 = .ok (.goto 4, 3) := by decide +kernel
theorem dX6_walk_107 : decode cX6_walk 107 = .ok (.iconst (-1), 1) := by decide +kernel
theorem dX6_walk_108 : decode cX6_walk 108 = .ok (.ireturn, 1) := by decide +kernel
theorem dX6_cavity_0 : decode cX6_cavity 0 = .ok (.aload_n 0, 1) := by decide +kernel
theorem dX6_cavity_1 : decode cX6_cavity 1 = .ok (.iload_n 1, 1) := by decide +kernel
theorem dX6_cavity_2 : decode cX6_cavity 2 = .ok (.iload_n 2, 1) := by decide +kernel
theorem dX6_cavity_3 : decode cX6_cavity 3 = .ok (.invokevirtual 52, 3) := by decide +kernel
theorem dX6_cavity_6 : decode cX6_cavity 6 = .ok (.aload_n 0, 1) := by decide +kernel
theorem dX6_cavity_7 : decode cX6_cavity 7 = .ok (.iload_n 1, 1) := by decide +kernel
theorem dX6_cavity_8 : decode cX6_cavity 8 = .ok (.iload_n 2, 1) := by decide +kernel
theorem dX6_cavity_9 : decode cX6_cavity 9 = .ok (.invokevirtual 56, 3) := by decide +kernel
theorem dX6_cavity_12 : decode cX6_cavity 12 = .ok (.aload_n 0, 1) := by decide +kernel
theorem dX6_cavity_13 : decode cX6_cavity 13 = .ok (.getfield 25, 3) := by decide +kernel
theorem dX6_cavity_16 : decode cX6_cavity 16 = .ok (.aload_n 0, 1) := by decide +kernel
theorem dX6_cavity_17 : decode cX6_cavity 17 = .ok (.getfield 10, 3) := by decide +kernel
theorem dX6_cavity_20 : decode cX6_cavity 20 = .ok (.invokevirtual 271, 3) := by decide +kernel
theorem dX6_cavity_23 : decode cX6_cavity 23 = .ok (.aload_n 0, 1) := by decide +kernel
theorem dX6_cavity_24 : decode cX6_cavity 24 = .ok (.getfield 25, 3) := by decide +kernel
theorem dX6_cavity_27 : decode cX6_cavity 27 = .ok (.iload_n 1, 1) := by decide +kernel
theorem dX6_cavity_28 : decode cX6_cavity 28 = .ok (.iload_n 2, 1) := by decide +kernel
theorem dX6_cavity_29 : decode cX6_cavity 29 = .ok (.invokevirtual 62, 3) := by decide +kernel
theorem dX6_cavity_32 : decode cX6_cavity 32 = .ok (.aload_n 0, 1) := by decide +kernel
theorem dX6_cavity_33 : decode cX6_cavity 33 = .ok (.getfield 28, 3) := by decide +kernel
theorem dX6_cavity_36 : decode cX6_cavity 36 = .ok (.invokevirtual 65, 3) := by decide +kernel
theorem dX6_cavity_39 : decode cX6_cavity 39 = .ok (.iconst 0, 1) := by decide +kernel
theorem dX6_cavity_40 : decode cX6_cavity 40 = .ok (.istore_n 3, 1) := by decide +kernel
theorem dX6_cavity_41 : decode cX6_cavity 41 = .ok (.iconst 0, 1) := by decide +kernel
theorem dX6_cavity_42 : decode cX6_cavity 42 = .ok (.istore 4, 2) := by decide +kernel
theorem dX6_cavity_44 : decode cX6_cavity 44 = .ok (.iload 4, 2) := by decide +kernel
theorem dX6_cavity_46 : decode cX6_cavity 46 = .ok (.aload_n 0, 1) := by decide +kernel
theorem dX6_cavity_47 : decode cX6_cavity 47 = .ok (.getfield 21, 3) := by decide +kernel
theorem dX6_cavity_50 : decode cX6_cavity 50 = .ok (.invokevirtual 164, 3) := by decide +kernel
theorem dX6_cavity_53 : decode cX6_cavity 53 = .ok (.if_icmp .ge 52, 3) := by decide +kernel
theorem dX6_cavity_56 : decode cX6_cavity 56 = .ok (.aload_n 0, 1) := by decide +kernel
theorem dX6_cavity_57 : decode cX6_cavity 57 = .ok (.getfield 28, 3) := by decide +kernel
theorem dX6_cavity_60 : decode cX6_cavity 60 = .ok (.aload_n 0, 1) := by decide +kernel
theorem dX6_cavity_61 : decode cX6_cavity 61 = .ok (.getfield 21, 3) := by decide +kernel
theorem dX6_cavity_64 : decode cX6_cavity 64 = .ok (.iload 4, 2) := by decide +kernel
theorem dX6_cavity_66 : decode cX6_cavity 66 = .ok (.iconst 0, 1) := by decide +kernel
theorem dX6_cavity_67 : decode cX6_cavity 67 = .ok (.invokevirtual 173, 3) := by decide +kernel
theorem dX6_cavity_70 : decode cX6_cavity 70 = .ok (.aload_n 0, 1) := by decide +kernel
theorem dX6_cavity_71 : decode cX6_cavity 71 = .ok (.getfield 21, 3) := by decide +kernel
theorem dX6_cavity_74 : decode cX6_cavity 74 = .ok (.iload 4, 2) := by decide +kernel
theorem dX6_cavity_76 : decode cX6_cavity 76 = .ok (.iconst 1, 1) := by decide +kernel
theorem dX6_cavity_77 : decode cX6_cavity 77 = .ok (.invokevirtual 173, 3) := by decide +kernel
theorem dX6_cavity_80 : decode cX6_cavity 80 = .ok (.aload_n 0, 1) := by decide +kernel
theorem dX6_cavity_81 : decode cX6_cavity 81 = .ok (.getfield 21, 3) := by decide +kernel
theorem dX6_cavity_84 : decode cX6_cavity 84 = .ok (.iload 4, 2) := by decide +kernel
theorem dX6_cavity_86 : decode cX6_cavity 86 = .ok (.iconst 2, 1) := by decide +kernel
theorem dX6_cavity_87 : decode cX6_cavity 87 = .ok (.invokevirtual 173, 3) := by decide +kernel
theorem dX6_cavity_90 : decode cX6_cavity 90 = .ok (.invokevirtual 274, 3) := by decide +kernel
theorem dX6_cavity_93 : decode cX6_cavity 93 = .ok (.ifCond .ne 6, 3) := by decide +kernel
theorem dX6_cavity_96 : decode cX6_cavity 96 = .ok (.iinc 3 1, 3) := by decide +kernel
theorem dX6_cavity_99 : decode cX6_cavity 99 = .ok (.iinc 4 1, 3) := by decide +kernel
theorem dX6_cavity_102 : decode cX6_cavity 102 = .ok (.goto (-58), 3) := by decide +kernel
theorem dX6_cavity_105 : decode cX6_cavity 105 = .ok (.iload_n 3, 1) := by decide +kernel
theorem dX6_cavity_106 : decode cX6_cavity 106 = .ok (.ireturn, 1) := by decide +kernel
theorem dX6_hole_0 : decode cX6_hole 0 = .ok (.aload_n 0, 1) := by decide +kernel
theorem dX6_hole_1 : decode cX6_hole 1 = .ok (.iload_n 1, 1) := by decide +kernel
theorem dX6_hole_2 : decode cX6_hole 2 = .ok (.invokevirtual 72, 3) := by decide +kernel
theorem dX6_hole_5 : decode cX6_hole 5 = .ok (.aload_n 0, 1) := by decide +kernel
theorem dX6_hole_6 : decode cX6_hole 6 = .ok (.iload_n 1, 1) := by decide +kernel
theorem dX6_hole_7 : decode cX6_hole 7 = .ok (.invokevirtual 76, 3) := by decide +kernel
theorem dX6_hole_10 : decode cX6_hole 10 = .ok (.aload_n 0, 1) := by decide +kernel
theorem dX6_hole_11 : decode cX6_hole 11 = .ok (.getfield 25, 3) := by decide +kernel
theorem dX6_hole_14 : decode cX6_hole 14 = .ok (.aload_n 0, 1) := by decide +kernel
theorem dX6_hole_15 : decode cX6_hole 15 = .ok (.getfield 10, 3) := by decide +kernel
theorem dX6_hole_18 : decode cX6_hole 18 = .ok (.invokevirtual 271, 3) := by decide +kernel
theorem dX6_hole_21 : decode cX6_hole 21 = .ok (.aload_n 0, 1) := by decide +kernel
theorem dX6_hole_22 : decode cX6_hole 22 = .ok (.getfield 25, 3) := by decide +kernel
theorem dX6_hole_25 : decode cX6_hole 25 = .ok (.iload_n 1, 1) := by decide +kernel
theorem dX6_hole_26 : decode cX6_hole 26 = .ok (.invokevirtual 79, 3) := by decide +kernel
theorem dX6_hole_29 : decode cX6_hole 29 = .ok (.aload_n 0, 1) := by decide +kernel
theorem dX6_hole_30 : decode cX6_hole 30 = .ok (.getfield 28, 3) := by decide +kernel
theorem dX6_hole_33 : decode cX6_hole 33 = .ok (.invokevirtual 65, 3) := by decide +kernel
theorem dX6_hole_36 : decode cX6_hole 36 = .ok (.iconst 0, 1) := by decide +kernel
theorem dX6_hole_37 : decode cX6_hole 37 = .ok (.istore_n 2, 1) := by decide +kernel
theorem dX6_hole_38 : decode cX6_hole 38 = .ok (.iconst 0, 1) := by decide +kernel
theorem dX6_hole_39 : decode cX6_hole 39 = .ok (.istore_n 3, 1) := by decide +kernel
theorem dX6_hole_40 : decode cX6_hole 40 = .ok (.iload_n 3, 1) := by decide +kernel
theorem dX6_hole_41 : decode cX6_hole 41 = .ok (.aload_n 0, 1) := by decide +kernel
theorem dX6_hole_42 : decode cX6_hole 42 = .ok (.getfield 28, 3) := by decide +kernel
theorem dX6_hole_45 : decode cX6_hole 45 = .ok (.invokevirtual 164, 3) := by decide +kernel
theorem dX6_hole_48 : decode cX6_hole 48 = .ok (.if_icmp .ge 73, 3) := by decide +kernel
theorem dX6_hole_51 : decode cX6_hole 51 = .ok (.aload_n 0, 1) := by decide +kernel
theorem dX6_hole_52 : decode cX6_hole 52 = .ok (.getfield 28, 3) := by decide +kernel
theorem dX6_hole_55 : decode cX6_hole 55 = .ok (.iload_n 3, 1) := by decide +kernel
theorem dX6_hole_56 : decode cX6_hole 56 = .ok (.iconst 0, 1) := by decide +kernel
theorem dX6_hole_57 : decode cX6_hole 57 = .ok (.invokevirtual 173, 3) := by decide +kernel
theorem dX6_hole_60 : decode cX6_hole 60 = .ok (.iload_n 1, 1) := by decide +kernel
theorem dX6_hole_61 : decode cX6_hole 61 = .ok (.invokestatic 278, 3) := by decide +kernel
theorem dX6_hole_64 : decode cX6_hole 64 = .ok (.istore 4, 2) := by decide +kernel
theorem dX6_hole_66 : decode cX6_hole 66 = .ok (.aload_n 0, 1) := by decide +kernel
theorem dX6_hole_67 : decode cX6_hole 67 = .ok (.getfield 28, 3) := by decide +kernel
theorem dX6_hole_70 : decode cX6_hole 70 = .ok (.iload_n 3, 1) := by decide +kernel
theorem dX6_hole_71 : decode cX6_hole 71 = .ok (.iconst 1, 1) := by decide +kernel
theorem dX6_hole_72 : decode cX6_hole 72 = .ok (.invokevirtual 173, 3) := by decide +kernel
theorem dX6_hole_75 : decode cX6_hole 75 = .ok (.iload_n 1, 1) := by decide +kernel
theorem dX6_hole_76 : decode cX6_hole 76 = .ok (.invokestatic 278, 3) := by decide +kernel
theorem dX6_hole_79 : decode cX6_hole 79 = .ok (.istore 5, 2) := by decide +kernel
theorem dX6_hole_81 : decode cX6_hole 81 = .ok (.aload_n 0, 1) := by decide +kernel
theorem dX6_hole_82 : decode cX6_hole 82 = .ok (.getfield 28, 3) := by decide +kernel
theorem dX6_hole_85 : decode cX6_hole 85 = .ok (.iload_n 3, 1) := by decide +kernel
theorem dX6_hole_86 : decode cX6_hole 86 = .ok (.iconst 2, 1) := by decide +kernel
theorem dX6_hole_87 : decode cX6_hole 87 = .ok (.invokevirtual 173, 3) := by decide +kernel
theorem dX6_hole_90 : decode cX6_hole 90 = .ok (.iload_n 1, 1) := by decide +kernel
theorem dX6_hole_91 : decode cX6_hole 91 = .ok (.invokestatic 278, 3) := by decide +kernel
theorem dX6_hole_94 : decode cX6_hole 94 = .ok (.istore 6, 2) := by decide +kernel
theorem dX6_hole_96 : decode cX6_hole 96 = .ok (.aload_n 0, 1) := by decide +kernel
theorem dX6_hole_97 : decode cX6_hole 97 = .ok (.getfield 21, 3) := by decide +kernel
theorem dX6_hole_100 : decode cX6_hole 100 = .ok (.iload 4, 2) := by decide +kernel
theorem dX6_hole_102 : decode cX6_hole 102 = .ok (.iload 5, 2) := by decide +kernel
theorem dX6_hole_104 : decode cX6_hole 104 = .ok (.iload 6, 2) := by decide +kernel
theorem dX6_hole_106 : decode cX6_hole 106 = .ok (.invokevirtual 274, 3) := by decide +kernel
theorem dX6_hole_109 : decode cX6_hole 109 = .ok (.ifCond .ne 6, 3) := by decide +kernel
theorem dX6_hole_112 : decode cX6_hole 112 = .ok (.iinc 2 1, 3) := by decide +kernel
theorem dX6_hole_115 : decode cX6_hole 115 = .ok (.iinc 3 1, 3) := by decide +kernel
theorem dX6_hole_118 : decode cX6_hole 118 = .ok (.goto (-78), 3) := by decide +kernel
theorem dX6_hole_121 : decode cX6_hole 121 = .ok (.iload_n 2, 1) := by decide +kernel
theorem dX6_hole_122 : decode cX6_hole 122 = .ok (.ireturn, 1) := by decide +kernel
theorem dX6_crossings_0 : decode cX6_crossings 0 = .ok (.aload_n 0, 1) := by decide +kernel
theorem dX6_crossings_1 : decode cX6_crossings 1 = .ok (.iload_n 1, 1) := by decide +kernel
theorem dX6_crossings_2 : decode cX6_crossings 2 = .ok (.invokevirtual 72, 3) := by decide +kernel
theorem dX6_crossings_5 : decode cX6_crossings 5 = .ok (.aload_n 0, 1) := by decide +kernel
theorem dX6_crossings_6 : decode cX6_crossings 6 = .ok (.iload_n 2, 1) := by decide +kernel
theorem dX6_crossings_7 : decode cX6_crossings 7 = .ok (.invokevirtual 72, 3) := by decide +kernel
theorem dX6_crossings_10 : decode cX6_crossings 10 = .ok (.aload_n 0, 1) := by decide +kernel
theorem dX6_crossings_11 : decode cX6_crossings 11 = .ok (.iload_n 1, 1) := by decide +kernel
theorem dX6_crossings_12 : decode cX6_crossings 12 = .ok (.iload_n 2, 1) := by decide +kernel
theorem dX6_crossings_13 : decode cX6_crossings 13 = .ok (.invokevirtual 111, 3) := by decide +kernel
theorem dX6_crossings_16 : decode cX6_crossings 16 = .ok (.iconst 0, 1) := by decide +kernel
theorem dX6_crossings_17 : decode cX6_crossings 17 = .ok (.istore_n 3, 1) := by decide +kernel
theorem dX6_crossings_18 : decode cX6_crossings 18 = .ok (.iconst 0, 1) := by decide +kernel
theorem dX6_crossings_19 : decode cX6_crossings 19 = .ok (.istore 4, 2) := by decide +kernel
theorem dX6_crossings_21 : decode cX6_crossings 21 = .ok (.iload 4, 2) := by decide +kernel
theorem dX6_crossings_23 : decode cX6_crossings 23 = .ok (.aload_n 0, 1) := by decide +kernel
theorem dX6_crossings_24 : decode cX6_crossings 24 = .ok (.getfield 21, 3) := by decide +kernel
theorem dX6_crossings_27 : decode cX6_crossings 27 = .ok (.invokevirtual 179, 3) := by decide +kernel
theorem dX6_crossings_30 : decode cX6_crossings 30 = .ok (.if_icmp .ge 26, 3) := by decide +kernel
theorem dX6_crossings_33 : decode cX6_crossings 33 = .ok (.aload_n 0, 1) := by decide +kernel
theorem dX6_crossings_34 : decode cX6_crossings 34 = .ok (.getfield 21, 3) := by decide +kernel
theorem dX6_crossings_37 : decode cX6_crossings 37 = .ok (.iload 4, 2) := by decide +kernel
theorem dX6_crossings_39 : decode cX6_crossings 39 = .ok (.iload_n 1, 1) := by decide +kernel
theorem dX6_crossings_40 : decode cX6_crossings 40 = .ok (.iload_n 2, 1) := by decide +kernel
theorem dX6_crossings_41 : decode cX6_crossings 41 = .ok (.invokevirtual 281, 3) := by decide +kernel
theorem dX6_crossings_44 : decode cX6_crossings 44 = .ok (.ifCond .eq 6, 3) := by decide +kernel
theorem dX6_crossings_47 : decode cX6_crossings 47 = .ok (.iinc 3 1, 3) := by decide +kernel
theorem dX6_crossings_50 : decode cX6_crossings 50 = .ok (.iinc 4 1, 3) := by decide +kernel
theorem dX6_crossings_53 : decode cX6_crossings 53 = .ok (.goto (-32), 3) := by decide +kernel
theorem dX6_crossings_56 : decode cX6_crossings 56 = .ok (.iload_n 3, 1) := by decide +kernel
theorem dX6_crossings_57 : decode cX6_crossings 57 = .ok (.ireturn, 1) := by decide +kernel
theorem dX6_effect_0 : decode cX6_effect 0 = .ok (.aload_n 0, 1) := by decide +kernel
theorem dX6_effect_1 : decode cX6_effect 1 = .ok (.iload_n 1, 1) := by decide +kernel
theorem dX6_effect_2 : decode cX6_effect 2 = .ok (.invokevirtual 130, 3) := by decide +kernel
theorem dX6_effect_5 : decode cX6_effect 5 = .ok (.aload_n 0, 1) := by decide +kernel
theorem dX6_effect_6 : decode cX6_effect 6 = .ok (.getfield 25, 3) := by decide +kernel
theorem dX6_effect_9 : decode cX6_effect 9 = .ok (.aload_n 0, 1) := by decide +kernel
theorem dX6_effect_10 : decode cX6_effect 10 = .ok (.getfield 10, 3) := by decide +kernel
theorem dX6_effect_13 : decode cX6_effect 13 = .ok (.invokevirtual 271, 3) := by decide +kernel
theorem dX6_effect_16 : decode cX6_effect 16 = .ok (.aload_n 0, 1) := by decide +kernel
theorem dX6_effect_17 : decode cX6_effect 17 = .ok (.getfield 25, 3) := by decide +kernel
theorem dX6_effect_20 : decode cX6_effect 20 = .ok (.iload_n 1, 1) := by decide +kernel
theorem dX6_effect_21 : decode cX6_effect 21 = .ok (.invokevirtual 133, 3) := by decide +kernel
theorem dX6_effect_24 : decode cX6_effect 24 = .ok (.aload_n 0, 1) := by decide +kernel
theorem dX6_effect_25 : decode cX6_effect 25 = .ok (.getfield 28, 3) := by decide +kernel
theorem dX6_effect_28 : decode cX6_effect 28 = .ok (.invokevirtual 65, 3) := by decide +kernel
theorem dX6_effect_31 : decode cX6_effect 31 = .ok (.iconst 0, 1) := by decide +kernel
theorem dX6_effect_32 : decode cX6_effect 32 = .ok (.istore_n 2, 1) := by decide +kernel
theorem dX6_effect_33 : decode cX6_effect 33 = .ok (.iconst 0, 1) := by decide +kernel
theorem dX6_effect_34 : decode cX6_effect 34 = .ok (.istore_n 3, 1) := by decide +kernel
theorem dX6_effect_35 : decode cX6_effect 35 = .ok (.iload_n 3, 1) := by decide +kernel
theorem dX6_effect_36 : decode cX6_effect 36 = .ok (.aload_n 0, 1) := by decide +kernel
theorem dX6_effect_37 : decode cX6_effect 37 = .ok (.getfield 21, 3) := by decide +kernel
theorem dX6_effect_40 : decode cX6_effect 40 = .ok (.invokevirtual 179, 3) := by decide +kernel
theorem dX6_effect_43 : decode cX6_effect 43 = .ok (.if_icmp .ge 39, 3) := by decide +kernel
theorem dX6_effect_46 : decode cX6_effect 46 = .ok (.aload_n 0, 1) := by decide +kernel
theorem dX6_effect_47 : decode cX6_effect 47 = .ok (.getfield 28, 3) := by decide +kernel
theorem dX6_effect_50 : decode cX6_effect 50 = .ok (.aload_n 0, 1) := by decide +kernel
theorem dX6_effect_51 : decode cX6_effect 51 = .ok (.getfield 21, 3) := by decide +kernel
theorem dX6_effect_54 : decode cX6_effect 54 = .ok (.iload_n 3, 1) := by decide +kernel
theorem dX6_effect_55 : decode cX6_effect 55 = .ok (.invokevirtual 185, 3) := by decide +kernel
theorem dX6_effect_58 : decode cX6_effect 58 = .ok (.aload_n 0, 1) := by decide +kernel
theorem dX6_effect_59 : decode cX6_effect 59 = .ok (.getfield 21, 3) := by decide +kernel
theorem dX6_effect_62 : decode cX6_effect 62 = .ok (.iload_n 3, 1) := by decide +kernel
theorem dX6_effect_63 : decode cX6_effect 63 = .ok (.invokevirtual 186, 3) := by decide +kernel
theorem dX6_effect_66 : decode cX6_effect 66 = .ok (.invokevirtual 187, 3) := by decide +kernel
theorem dX6_effect_69 : decode cX6_effect 69 = .ok (.iconst (-1), 1) := by decide +kernel
theorem dX6_effect_70 : decode cX6_effect 70 = .ok (.if_icmp .ne 6, 3) := by decide +kernel
theorem dX6_effect_73 : decode cX6_effect 73 = .ok (.iinc 2 1, 3) := by decide +kernel
theorem dX6_effect_76 : decode cX6_effect 76 = .ok (.iinc 3 1, 3) := by decide +kernel
theorem dX6_effect_79 : decode cX6_effect 79 = .ok (.goto (-44), 3) := by decide +kernel
theorem dX6_effect_82 : decode cX6_effect 82 = .ok (.iload_n 2, 1) := by decide +kernel
theorem dX6_effect_83 : decode cX6_effect 83 = .ok (.ireturn, 1) := by decide +kernel
theorem dX6_undo_0 : decode cX6_undo 0 = .ok (.aload_n 0, 1) := by decide +kernel
theorem dX6_undo_1 : decode cX6_undo 1 = .ok (.getfield 37, 3) := by decide +kernel
theorem dX6_undo_4 : decode cX6_undo 4 = .ok (.invokevirtual 284, 3) := by decide +kernel
theorem dX6_undo_7 : decode cX6_undo 7 = .ok (.ifCond .ne 14, 3) := by decide +kernel
theorem dX6_undo_10 : decode cX6_undo 10 = .ok (.new 117, 3) := by decide +kernel
theorem dX6_undo_13 : decode cX6_undo 13 = .ok (.dup, 1) := by decide +kernel
theorem dX6_undo_14 : decode cX6_undo 14 = .ok (.ldc_w 287, 3) := by decide +kernel
theorem dX6_undo_17 : decode cX6_undo 17 = .ok (.invokespecial 121, 3) := by decide +kernel
theorem dX6_undo_20 : decode cX6_undo 20 = .ok (.athrow, 1) := by decide +kernel
theorem dX6_undo_21 : decode cX6_undo 21 = .ok (.aload_n 0, 1) := by decide +kernel
theorem dX6_undo_22 : decode cX6_undo 22 = .ok (.getfield 37, 3) := by decide +kernel
theorem dX6_undo_25 : decode cX6_undo 25 = .ok (.aload_n 0, 1) := by decide +kernel
theorem dX6_undo_26 : decode cX6_undo 26 = .ok (.getfield 10, 3) := by decide +kernel
theorem dX6_undo_29 : decode cX6_undo 29 = .ok (.invokevirtual 289, 3) := by decide +kernel
theorem dX6_undo_32 : decode cX6_undo 32 = .ok (.aload_n 0, 1) := by decide +kernel
theorem dX6_undo_33 : decode cX6_undo 33 = .ok (.getfield 21, 3) := by decide +kernel
theorem dX6_undo_36 : decode cX6_undo 36 = .ok (.invokevirtual 65, 3) := by decide +kernel
theorem dX6_undo_39 : decode cX6_undo 39 = .ok (.aload_n 0, 1) := by decide +kernel
theorem dX6_undo_40 : decode cX6_undo 40 = .ok (.getfield 37, 3) := by decide +kernel
theorem dX6_undo_43 : decode cX6_undo 43 = .ok (.invokevirtual 284, 3) := by decide +kernel
theorem dX6_undo_46 : decode cX6_undo 46 = .ok (.ireturn, 1) := by decide +kernel
theorem dX6_save_0 : decode cX6_save 0 = .ok (.aload_n 0, 1) := by decide +kernel
theorem dX6_save_1 : decode cX6_save 1 = .ok (.getfield 31, 3) := by decide +kernel
theorem dX6_save_4 : decode cX6_save 4 = .ok (.aload_n 0, 1) := by decide +kernel
theorem dX6_save_5 : decode cX6_save 5 = .ok (.getfield 10, 3) := by decide +kernel
theorem dX6_save_8 : decode cX6_save 8 = .ok (.invokevirtual 271, 3) := by decide +kernel
theorem dX6_save_11 : decode cX6_save 11 = .ok (.aload_n 0, 1) := by decide +kernel
theorem dX6_save_12 : decode cX6_save 12 = .ok (.iconst 1, 1) := by decide +kernel
theorem dX6_save_13 : decode cX6_save 13 = .ok (.putfield 48, 3) := by decide +kernel
theorem dX6_save_16 : decode cX6_save 16 = .ok (.aload_n 0, 1) := by decide +kernel
theorem dX6_save_17 : decode cX6_save 17 = .ok (.getfield 10, 3) := by decide +kernel
theorem dX6_save_20 : decode cX6_save 20 = .ok (.invokevirtual 68, 3) := by decide +kernel
theorem dX6_save_23 : decode cX6_save 23 = .ok (.ireturn, 1) := by decide +kernel
theorem dX6_restore_0 : decode cX6_restore 0 = .ok (.aload_n 0, 1) := by decide +kernel
theorem dX6_restore_1 : decode cX6_restore 1 = .ok (.getfield 48, 3) := by decide +kernel
theorem dX6_restore_4 : decode cX6_restore 4 = .ok (.ifCond .ne 14, 3) := by decide +kernel
theorem dX6_restore_7 : decode cX6_restore 7 = .ok (.new 117, 3) := by decide +kernel
theorem dX6_restore_10 : decode cX6_restore 10 = .ok (.dup, 1) := by decide +kernel
theorem dX6_restore_11 : decode cX6_restore 11 = .ok (.ldc_w 292, 3) := by decide +kernel
theorem dX6_restore_14 : decode cX6_restore 14 = .ok (.invokespecial 121, 3) := by decide +kernel
theorem dX6_restore_17 : decode cX6_restore 17 = .ok (.athrow, 1) := by decide +kernel
theorem dX6_restore_18 : decode cX6_restore 18 = .ok (.aload_n 0, 1) := by decide +kernel
theorem dX6_restore_19 : decode cX6_restore 19 = .ok (.getfield 10, 3) := by decide +kernel
theorem dX6_restore_22 : decode cX6_restore 22 = .ok (.aload_n 0, 1) := by decide +kernel
theorem dX6_restore_23 : decode cX6_restore 23 = .ok (.getfield 31, 3) := by decide +kernel
theorem dX6_restore_26 : decode cX6_restore 26 = .ok (.invokevirtual 271, 3) := by decide +kernel
theorem dX6_restore_29 : decode cX6_restore 29 = .ok (.aload_n 0, 1) := by decide +kernel
theorem dX6_restore_30 : decode cX6_restore 30 = .ok (.getfield 37, 3) := by decide +kernel
theorem dX6_restore_33 : decode cX6_restore 33 = .ok (.invokevirtual 294, 3) := by decide +kernel
theorem dX6_restore_36 : decode cX6_restore 36 = .ok (.aload_n 0, 1) := by decide +kernel
theorem dX6_restore_37 : decode cX6_restore 37 = .ok (.getfield 21, 3) := by decide +kernel
theorem dX6_restore_40 : decode cX6_restore 40 = .ok (.invokevirtual 65, 3) := by decide +kernel
theorem dX6_restore_43 : decode cX6_restore 43 = .ok (.aload_n 0, 1) := by decide +kernel
theorem dX6_restore_44 : decode cX6_restore 44 = .ok (.getfield 10, 3) := by decide +kernel
theorem dX6_restore_47 : decode cX6_restore 47 = .ok (.invokevirtual 68, 3) := by decide +kernel
theorem dX6_restore_50 : decode cX6_restore 50 = .ok (.ireturn, 1) := by decide +kernel
theorem dX6_requirePoint_0 : decode cX6_requirePoint 0 = .ok (.aload_n 0, 1) := by decide +kernel
theorem dX6_requirePoint_1 : decode cX6_requirePoint 1 = .ok (.getfield 10, 3) := by decide +kernel
theorem dX6_requirePoint_4 : decode cX6_requirePoint 4 = .ok (.iload_n 1, 1) := by decide +kernel
theorem dX6_requirePoint_5 : decode cX6_requirePoint 5 = .ok (.invokevirtual 295, 3) := by decide +kernel
theorem dX6_requirePoint_8 : decode cX6_requirePoint 8 = .ok (.ifCond .ne 14, 3) := by decide +kernel
theorem dX6_requirePoint_11 : decode cX6_requirePoint 11 = .ok (.new 206, 3) := by decide +kernel
theorem dX6_requirePoint_14 : decode cX6_requirePoint 14 = .ok (.dup, 1) := by decide +kernel
theorem dX6_requirePoint_15 : decode cX6_requirePoint 15 = .ok (.ldc_w 298, 3) := by decide +kernel
theorem dX6_requirePoint_18 : decode cX6_requirePoint 18 = .ok (.invokespecial 208, 3) := by decide +kernel
theorem dX6_requirePoint_21 : decode cX6_requirePoint 21 = .ok (.athrow, 1) := by decide +kernel
theorem dX6_requirePoint_22 : decode cX6_requirePoint 22 = .ok (.return_, 1) := by decide +kernel
theorem dX6_requireConstraint_0 : decode cX6_requireConstraint 0 = .ok (.iload_n 1, 1) := by decide +kernel
theorem dX6_requireConstraint_1 : decode cX6_requireConstraint 1 = .ok (.ifCond .lt 14, 3) := by decide +kernel
theorem dX6_requireConstraint_4 : decode cX6_requireConstraint 4 = .ok (.iload_n 1, 1) := by decide +kernel
theorem dX6_requireConstraint_5 : decode cX6_requireConstraint 5 = .ok (.aload_n 0, 1) := by decide +kernel
theorem dX6_requireConstraint_6 : decode cX6_requireConstraint 6 = .ok (.getfield 10, 3) := by decide +kernel
theorem dX6_requireConstraint_9 : decode cX6_requireConstraint 9 = .ok (.invokevirtual 114, 3) := by decide +kernel
theorem dX6_requireConstraint_12 : decode cX6_requireConstraint 12 = .ok (.if_icmp .lt 14, 3) := by decide +kernel
theorem dX6_requireConstraint_15 : decode cX6_requireConstraint 15 = .ok (.new 206, 3) := by decide +kernel
theorem dX6_requireConstraint_18 : decode cX6_requireConstraint 18 = .ok (.dup, 1) := by decide +kernel
theorem dX6_requireConstraint_19 : decode cX6_requireConstraint 19 = .ok (.ldc_w 300, 3) := by decide +kernel
theorem dX6_requireConstraint_22 : decode cX6_requireConstraint 22 = .ok (.invokespecial 208, 3) := by decide +kernel
theorem dX6_requireConstraint_25 : decode cX6_requireConstraint 25 = .ok (.athrow, 1) := by decide +kernel
theorem dX6_requireConstraint_26 : decode cX6_requireConstraint 26 = .ok (.return_, 1) := by decide +kernel
theorem dX6_requireTriangle_0 : decode cX6_requireTriangle 0 = .ok (.iload_n 1, 1) := by decide +kernel
theorem dX6_requireTriangle_1 : decode cX6_requireTriangle 1 = .ok (.ifCond .lt 14, 3) := by decide +kernel
theorem dX6_requireTriangle_4 : decode cX6_requireTriangle 4 = .ok (.iload_n 1, 1) := by decide +kernel
theorem dX6_requireTriangle_5 : decode cX6_requireTriangle 5 = .ok (.aload_n 0, 1) := by decide +kernel
theorem dX6_requireTriangle_6 : decode cX6_requireTriangle 6 = .ok (.getfield 21, 3) := by decide +kernel
theorem dX6_requireTriangle_9 : decode cX6_requireTriangle 9 = .ok (.invokevirtual 164, 3) := by decide +kernel
theorem dX6_requireTriangle_12 : decode cX6_requireTriangle 12 = .ok (.if_icmp .lt 14, 3) := by decide +kernel
theorem dX6_requireTriangle_15 : decode cX6_requireTriangle 15 = .ok (.new 206, 3) := by decide +kernel
theorem dX6_requireTriangle_18 : decode cX6_requireTriangle 18 = .ok (.dup, 1) := by decide +kernel
theorem dX6_requireTriangle_19 : decode cX6_requireTriangle 19 = .ok (.ldc_w 302, 3) := by decide +kernel
theorem dX6_requireTriangle_22 : decode cX6_requireTriangle 22 = .ok (.invokespecial 208, 3) := by decide +kernel
theorem dX6_requireTriangle_25 : decode cX6_requireTriangle 25 = .ok (.athrow, 1) := by decide +kernel
theorem dX6_requireTriangle_26 : decode cX6_requireTriangle 26 = .ok (.return_, 1) := by decide +kernel
theorem dX6_requireEdge_0 : decode cX6_requireEdge 0 = .ok (.iload_n 1, 1) := by decide +kernel
theorem dX6_requireEdge_1 : decode cX6_requireEdge 1 = .ok (.ifCond .lt 14, 3) := by decide +kernel
theorem dX6_requireEdge_4 : decode cX6_requireEdge 4 = .ok (.iload_n 1, 1) := by decide +kernel
theorem dX6_requireEdge_5 : decode cX6_requireEdge 5 = .ok (.aload_n 0, 1) := by decide +kernel
theorem dX6_requireEdge_6 : decode cX6_requireEdge 6 = .ok (.getfield 21, 3) := by decide +kernel
theorem dX6_requireEdge_9 : decode cX6_requireEdge 9 = .ok (.invokevirtual 179, 3) := by decide +kernel
theorem dX6_requireEdge_12 : decode cX6_requireEdge 12 = .ok (.if_icmp .lt 14, 3) := by decide +kernel
theorem dX6_requireEdge_15 : decode cX6_requireEdge 15 = .ok (.new 206, 3) := by decide +kernel
theorem dX6_requireEdge_18 : decode cX6_requireEdge 18 = .ok (.dup, 1) := by decide +kernel
theorem dX6_requireEdge_19 : decode cX6_requireEdge 19 = .ok (.ldc_w 304, 3) := by decide +kernel
theorem dX6_requireEdge_22 : decode cX6_requireEdge 22 = .ok (.invokespecial 208, 3) := by decide +kernel
theorem dX6_requireEdge_25 : decode cX6_requireEdge 25 = .ok (.athrow, 1) := by decide +kernel
theorem dX6_requireEdge_26 : decode cX6_requireEdge 26 = .ok (.return_, 1) := by decide +kernel
theorem dX6_requirePosition_0 : decode cX6_requirePosition 0 = .ok (.iload_n 1, 1) := by decide +kernel
theorem dX6_requirePosition_1 : decode cX6_requirePosition 1 = .ok (.invokestatic 306, 3) := by decide +kernel
theorem dX6_requirePosition_4 : decode cX6_requirePosition 4 = .ok (.ifCond .eq 10, 3) := by decide +kernel
theorem dX6_requirePosition_7 : decode cX6_requirePosition 7 = .ok (.iload_n 2, 1) := by decide +kernel
theorem dX6_requirePosition_8 : decode cX6_requirePosition 8 = .ok (.invokestatic 306, 3) := by decide +kernel
theorem dX6_requirePosition_11 : decode cX6_requirePosition 11 = .ok (.ifCond .ne 14, 3) := by decide +kernel
theorem dX6_requirePosition_14 : decode cX6_requirePosition 14 = .ok (.new 220, 3) := by decide +kernel
theorem dX6_requirePosition_17 : decode cX6_requirePosition 17 = .ok (.dup, 1) := by decide +kernel
theorem dX6_requirePosition_18 : decode cX6_requirePosition 18 = .ok (.ldc_w 309, 3) := by decide +kernel
theorem dX6_requirePosition_21 : decode cX6_requirePosition 21 = .ok (.invokespecial 224, 3) := by decide +kernel
theorem dX6_requirePosition_24 : decode cX6_requirePosition 24 = .ok (.athrow, 1) := by decide +kernel
theorem dX6_requirePosition_25 : decode cX6_requirePosition 25 = .ok (.return_, 1) := by decide +kernel
theorem dX6_requireNewPoint_0 : decode cX6_requireNewPoint 0 = .ok (.aload_n 0, 1) := by decide +kernel
theorem dX6_requireNewPoint_1 : decode cX6_requireNewPoint 1 = .ok (.getfield 10, 3) := by decide +kernel
theorem dX6_requireNewPoint_4 : decode cX6_requireNewPoint 4 = .ok (.invokevirtual 68, 3) := by decide +kernel
theorem dX6_requireNewPoint_7 : decode cX6_requireNewPoint 7 = .ok (.bipush 16, 2) := by decide +kernel
theorem dX6_requireNewPoint_9 : decode cX6_requireNewPoint 9 = .ok (.if_icmp .lt 14, 3) := by decide +kernel
theorem dX6_requireNewPoint_12 : decode cX6_requireNewPoint 12 = .ok (.new 117, 3) := by decide +kernel
theorem dX6_requireNewPoint_15 : decode cX6_requireNewPoint 15 = .ok (.dup, 1) := by decide +kernel
theorem dX6_requireNewPoint_16 : decode cX6_requireNewPoint 16 = .ok (.ldc_w 311, 3) := by decide +kernel
theorem dX6_requireNewPoint_19 : decode cX6_requireNewPoint 19 = .ok (.invokespecial 121, 3) := by decide +kernel
theorem dX6_requireNewPoint_22 : decode cX6_requireNewPoint 22 = .ok (.athrow, 1) := by decide +kernel
theorem dX6_requireNewPoint_23 : decode cX6_requireNewPoint 23 = .ok (.aload_n 0, 1) := by decide +kernel
theorem dX6_requireNewPoint_24 : decode cX6_requireNewPoint 24 = .ok (.getfield 10, 3) := by decide +kernel
theorem dX6_requireNewPoint_27 : decode cX6_requireNewPoint 27 = .ok (.iload_n 1, 1) := by decide +kernel
theorem dX6_requireNewPoint_28 : decode cX6_requireNewPoint 28 = .ok (.iload_n 2, 1) := by decide +kernel
theorem dX6_requireNewPoint_29 : decode cX6_requireNewPoint 29 = .ok (.invokevirtual 313, 3) := by decide +kernel
theorem dX6_requireNewPoint_32 : decode cX6_requireNewPoint 32 = .ok (.ifCond .ne 13, 3) := by decide +kernel
theorem dX6_requireNewPoint_35 : decode cX6_requireNewPoint 35 = .ok (.new 90, 3) := by decide +kernel
theorem dX6_requireNewPoint_38 : decode cX6_requireNewPoint 38 = .ok (.dup, 1) := by decide +kernel
theorem dX6_requireNewPoint_39 : decode cX6_requireNewPoint 39 = .ok (.ldc 92, 2) := by decide +kernel
theorem dX6_requireNewPoint_41 : decode cX6_requireNewPoint 41 = .ok (.invokespecial 94, 3) := by decide +kernel
theorem dX6_requireNewPoint_44 : decode cX6_requireNewPoint 44 = .ok (.athrow, 1) := by decide +kernel
theorem dX6_requireNewPoint_45 : decode cX6_requireNewPoint 45 = .ok (.return_, 1) := by decide +kernel
theorem dX6_requireLoosePoint_0 : decode cX6_requireLoosePoint 0 = .ok (.aload_n 0, 1) := by decide +kernel
theorem dX6_requireLoosePoint_1 : decode cX6_requireLoosePoint 1 = .ok (.getfield 10, 3) := by decide +kernel
theorem dX6_requireLoosePoint_4 : decode cX6_requireLoosePoint 4 = .ok (.iload_n 1, 1) := by decide +kernel
theorem dX6_requireLoosePoint_5 : decode cX6_requireLoosePoint 5 = .ok (.invokevirtual 316, 3) := by decide +kernel
theorem dX6_requireLoosePoint_8 : decode cX6_requireLoosePoint 8 = .ok (.ifCond .eq 14, 3) := by decide +kernel
theorem dX6_requireLoosePoint_11 : decode cX6_requireLoosePoint 11 = .ok (.new 117, 3) := by decide +kernel
theorem dX6_requireLoosePoint_14 : decode cX6_requireLoosePoint 14 = .ok (.dup, 1) := by decide +kernel
theorem dX6_requireLoosePoint_15 : decode cX6_requireLoosePoint 15 = .ok (.ldc_w 319, 3) := by decide +kernel
theorem dX6_requireLoosePoint_18 : decode cX6_requireLoosePoint 18 = .ok (.invokespecial 121, 3) := by decide +kernel
theorem dX6_requireLoosePoint_21 : decode cX6_requireLoosePoint 21 = .ok (.athrow, 1) := by decide +kernel
theorem dX6_requireLoosePoint_22 : decode cX6_requireLoosePoint 22 = .ok (.return_, 1) := by decide +kernel
theorem dX6_requireDifferent_0 : decode cX6_requireDifferent 0 = .ok (.iload_n 1, 1) := by decide +kernel
theorem dX6_requireDifferent_1 : decode cX6_requireDifferent 1 = .ok (.iload_n 2, 1) := by decide +kernel
theorem dX6_requireDifferent_2 : decode cX6_requireDifferent 2 = .ok (.if_icmp .ne 14, 3) := by decide +kernel
theorem dX6_requireDifferent_5 : decode cX6_requireDifferent 5 = .ok (.new 220, 3) := by decide +kernel
theorem dX6_requireDifferent_8 : decode cX6_requireDifferent 8 = .ok (.dup, 1) := by decide +kernel
theorem dX6_requireDifferent_9 : decode cX6_requireDifferent 9 = .ok (.ldc_w 321, 3) := by decide +kernel
theorem dX6_requireDifferent_12 : decode cX6_requireDifferent 12 = .ok (.invokespecial 224, 3) := by decide +kernel
theorem dX6_requireDifferent_15 : decode cX6_requireDifferent 15 = .ok (.athrow, 1) := by decide +kernel
theorem dX6_requireDifferent_16 : decode cX6_requireDifferent 16 = .ok (.return_, 1) := by decide +kernel
theorem dX6_requireBit_0 : decode cX6_requireBit 0 = .ok (.iload_n 1, 1) := by decide +kernel
theorem dX6_requireBit_1 : decode cX6_requireBit 1 = .ok (.ifCond .eq 19, 3) := by decide +kernel
theorem dX6_requireBit_4 : decode cX6_requireBit 4 = .ok (.iload_n 1, 1) := by decide +kernel
theorem dX6_requireBit_5 : decode cX6_requireBit 5 = .ok (.iconst 1, 1) := by decide +kernel
theorem dX6_requireBit_6 : decode cX6_requireBit 6 = .ok (.if_icmp .eq 14, 3) := by decide +kernel
theorem dX6_requireBit_9 : decode cX6_requireBit 9 = .ok (.new 220, 3) := by decide +kernel
theorem dX6_requireBit_12 : decode cX6_requireBit 12 = .ok (.dup, 1) := by decide +kernel
theorem dX6_requireBit_13 : decode cX6_requireBit 13 = .ok (.ldc_w 323, 3) := by decide +kernel
theorem dX6_requireBit_16 : decode cX6_requireBit 16 = .ok (.invokespecial 224, 3) := by decide +kernel
theorem dX6_requireBit_19 : decode cX6_requireBit 19 = .ok (.athrow, 1) := by decide +kernel
theorem dX6_requireBit_20 : decode cX6_requireBit 20 = .ok (.return_, 1) := by decide +kernel
theorem dX6_requireCorner_0 : decode cX6_requireCorner 0 = .ok (.iload_n 1, 1) := by decide +kernel
theorem dX6_requireCorner_1 : decode cX6_requireCorner 1 = .ok (.ifCond .lt 8, 3) := by decide +kernel
theorem dX6_requireCorner_4 : decode cX6_requireCorner 4 = .ok (.iload_n 1, 1) := by decide +kernel
theorem dX6_requireCorner_5 : decode cX6_requireCorner 5 = .ok (.iconst 2, 1) := by decide +kernel
theorem dX6_requireCorner_6 : decode cX6_requireCorner 6 = .ok (.if_icmp .le 14, 3) := by decide +kernel
theorem dX6_requireCorner_9 : decode cX6_requireCorner 9 = .ok (.new 220, 3) := by decide +kernel
theorem dX6_requireCorner_12 : decode cX6_requireCorner 12 = .ok (.dup, 1) := by decide +kernel
theorem dX6_requireCorner_13 : decode cX6_requireCorner 13 = .ok (.ldc_w 325, 3) := by decide +kernel
theorem dX6_requireCorner_16 : decode cX6_requireCorner 16 = .ok (.invokespecial 224, 3) := by decide +kernel
theorem dX6_requireCorner_19 : decode cX6_requireCorner 19 = .ok (.athrow, 1) := by decide +kernel
theorem dX6_requireCorner_20 : decode cX6_requireCorner 20 = .ok (.return_, 1) := by decide +kernel
theorem dX6_isCoordinate_0 : decode cX6_isCoordinate 0 = .ok (.iload_n 0, 1) := by decide +kernel
theorem dX6_isCoordinate_1 : decode cX6_isCoordinate 1 = .ok (.ifCond .lt 13, 3) := by decide +kernel
theorem dX6_isCoordinate_4 : decode cX6_isCoordinate 4 = .ok (.iload_n 0, 1) := by decide +kernel
theorem dX6_isCoordinate_5 : decode cX6_isCoordinate 5 = .ok (.bipush 100, 2) := by decide +kernel
theorem dX6_isCoordinate_7 : decode cX6_isCoordinate 7 = .ok (.if_icmp .gt 7, 3) := by decide +kernel
theorem dX6_isCoordinate_10 : decode cX6_isCoordinate 10 = .ok (.iconst 1, 1) := by decide +kernel
theorem dX6_isCoordinate_11 : decode cX6_isCoordinate 11 = .ok (.goto 4, 3) := by decide +kernel
theorem dX6_isCoordinate_14 : decode cX6_isCoordinate 14 = .ok (.iconst 0, 1) := by decide +kernel
theorem dX6_isCoordinate_15 : decode cX6_isCoordinate 15 = .ok (.ireturn, 1) := by decide +kernel
theorem dX6_signOf_0 : decode cX6_signOf 0 = .ok (.lload_n 0, 1) := by decide +kernel
theorem dX6_signOf_1 : decode cX6_signOf 1 = .ok (.lconst 0, 1) := by decide +kernel
theorem dX6_signOf_2 : decode cX6_signOf 2 = .ok (.lcmp, 1) := by decide +kernel
theorem dX6_signOf_3 : decode cX6_signOf 3 = .ok (.ifCond .le 7, 3) := by decide +kernel
theorem dX6_signOf_6 : decode cX6_signOf 6 = .ok (.iconst 1, 1) := by decide +kernel
theorem dX6_signOf_7 : decode cX6_signOf 7 = .ok (.goto 14, 3) := by decide +kernel
theorem dX6_signOf_10 : decode cX6_signOf 10 = .ok (.lload_n 0, 1) := by decide +kernel
theorem dX6_signOf_11 : decode cX6_signOf 11 = .ok (.lconst 0, 1) := by decide +kernel
theorem dX6_signOf_12 : decode cX6_signOf 12 = .ok (.lcmp, 1) := by decide +kernel
theorem dX6_signOf_13 : decode cX6_signOf 13 = .ok (.ifCond .ge 7, 3) := by decide +kernel
theorem dX6_signOf_16 : decode cX6_signOf 16 = .ok (.iconst (-1), 1) := by decide +kernel
theorem dX6_signOf_17 : decode cX6_signOf 17 = .ok (.goto 4, 3) := by decide +kernel
theorem dX6_signOf_20 : decode cX6_signOf 20 = .ok (.iconst 0, 1) := by decide +kernel
theorem dX6_signOf_21 : decode cX6_signOf 21 = .ok (.ireturn, 1) := by decide +kernel
theorem dX6_numberBefore_0 : decode cX6_numberBefore 0 = .ok (.iload_n 0, 1) := by decide +kernel
theorem dX6_numberBefore_1 : decode cX6_numberBefore 1 = .ok (.iload_n 1, 1) := by decide +kernel
theorem dX6_numberBefore_2 : decode cX6_numberBefore 2 = .ok (.if_icmp .ge 7, 3) := by decide +kernel
theorem dX6_numberBefore_5 : decode cX6_numberBefore 5 = .ok (.iload_n 0, 1) := by decide +kernel
theorem dX6_numberBefore_6 : decode cX6_numberBefore 6 = .ok (.goto 6, 3) := by decide +kernel
theorem dX6_numberBefore_9 : decode cX6_numberBefore 9 = .ok (.iload_n 0, 1) := by decide +kernel
theorem dX6_numberBefore_10 : decode cX6_numberBefore 10 = .ok (.iconst 1, 1) := by decide +kernel
theorem dX6_numberBefore_11 : decode cX6_numberBefore 11 = .ok (.iadd, 1) := by decide +kernel
theorem dX6_numberBefore_12 : decode cX6_numberBefore 12 = .ok (.ireturn, 1) := by decide +kernel
theorem dX6_kindOf_0 : decode cX6_kindOf 0 = .ok (.aload_n 0, 1) := by decide +kernel
theorem dX6_kindOf_1 : decode cX6_kindOf 1 = .ok (.getfield 10, 3) := by decide +kernel
theorem dX6_kindOf_4 : decode cX6_kindOf 4 = .ok (.iload_n 1, 1) := by decide +kernel
theorem dX6_kindOf_5 : decode cX6_kindOf 5 = .ok (.iload_n 2, 1) := by decide +kernel
theorem dX6_kindOf_6 : decode cX6_kindOf 6 = .ok (.invokevirtual 82, 3) := by decide +kernel
theorem dX6_kindOf_9 : decode cX6_kindOf 9 = .ok (.iconst (-1), 1) := by decide +kernel
theorem dX6_kindOf_10 : decode cX6_kindOf 10 = .ok (.if_icmp .eq 5, 3) := by decide +kernel
theorem dX6_kindOf_13 : decode cX6_kindOf 13 = .ok (.iconst 1, 1) := by decide +kernel
theorem dX6_kindOf_14 : decode cX6_kindOf 14 = .ok (.ireturn, 1) := by decide +kernel
theorem dX6_kindOf_15 : decode cX6_kindOf 15 = .ok (.aload_n 0, 1) := by decide +kernel
theorem dX6_kindOf_16 : decode cX6_kindOf 16 = .ok (.getfield 21, 3) := by decide +kernel
theorem dX6_kindOf_19 : decode cX6_kindOf 19 = .ok (.iload_n 1, 1) := by decide +kernel
theorem dX6_kindOf_20 : decode cX6_kindOf 20 = .ok (.iload_n 2, 1) := by decide +kernel
theorem dX6_kindOf_21 : decode cX6_kindOf 21 = .ok (.invokevirtual 260, 3) := by decide +kernel
theorem dX6_kindOf_24 : decode cX6_kindOf 24 = .ok (.iconst (-1), 1) := by decide +kernel
theorem dX6_kindOf_25 : decode cX6_kindOf 25 = .ok (.if_icmp .eq 5, 3) := by decide +kernel
theorem dX6_kindOf_28 : decode cX6_kindOf 28 = .ok (.iconst 2, 1) := by decide +kernel
theorem dX6_kindOf_29 : decode cX6_kindOf 29 = .ok (.ireturn, 1) := by decide +kernel
theorem dX6_kindOf_30 : decode cX6_kindOf 30 = .ok (.aload_n 0, 1) := by decide +kernel
theorem dX6_kindOf_31 : decode cX6_kindOf 31 = .ok (.getfield 21, 3) := by decide +kernel
theorem dX6_kindOf_34 : decode cX6_kindOf 34 = .ok (.iload_n 1, 1) := by decide +kernel
theorem dX6_kindOf_35 : decode cX6_kindOf 35 = .ok (.iload_n 2, 1) := by decide +kernel
theorem dX6_kindOf_36 : decode cX6_kindOf 36 = .ok (.invokevirtual 263, 3) := by decide +kernel
theorem dX6_kindOf_39 : decode cX6_kindOf 39 = .ok (.iconst (-1), 1) := by decide +kernel
theorem dX6_kindOf_40 : decode cX6_kindOf 40 = .ok (.if_icmp .eq 7, 3) := by decide +kernel
theorem dX6_kindOf_43 : decode cX6_kindOf 43 = .ok (.iconst 3, 1) := by decide +kernel
theorem dX6_kindOf_44 : decode cX6_kindOf 44 = .ok (.goto 4, 3) := by decide +kernel
theorem dX6_kindOf_47 : decode cX6_kindOf 47 = .ok (.iconst 0, 1) := by decide +kernel
theorem dX6_kindOf_48 : decode cX6_kindOf 48 = .ok (.ireturn, 1) := by decide +kernel
theorem dX6_addEntry_0 : decode cX6_addEntry 0 = .ok (.aload_n 0, 1) := by decide +kernel
theorem dX6_addEntry_1 : decode cX6_addEntry 1 = .ok (.getfield 44, 3) := by decide +kernel
theorem dX6_addEntry_4 : decode cX6_addEntry 4 = .ok (.iload_n 1, 1) := by decide +kernel
theorem dX6_addEntry_5 : decode cX6_addEntry 5 = .ok (.invokevirtual 327, 3) := by decide +kernel
theorem dX6_addEntry_8 : decode cX6_addEntry 8 = .ok (.istore_n 2, 1) := by decide +kernel
theorem dX6_addEntry_9 : decode cX6_addEntry 9 = .ok (.aload_n 0, 1) := by decide +kernel
theorem dX6_addEntry_10 : decode cX6_addEntry 10 = .ok (.getfield 44, 3) := by decide +kernel
theorem dX6_addEntry_13 : decode cX6_addEntry 13 = .ok (.iload_n 1, 1) := by decide +kernel
theorem dX6_addEntry_14 : decode cX6_addEntry 14 = .ok (.invokevirtual 330, 3) := by decide +kernel
theorem dX6_addEntry_17 : decode cX6_addEntry 17 = .ok (.istore_n 3, 1) := by decide +kernel
theorem dX6_addEntry_18 : decode cX6_addEntry 18 = .ok (.aload_n 0, 1) := by decide +kernel
theorem dX6_addEntry_19 : decode cX6_addEntry 19 = .ok (.getfield 44, 3) := by decide +kernel
theorem dX6_addEntry_22 : decode cX6_addEntry 22 = .ok (.iload_n 1, 1) := by decide +kernel
theorem dX6_addEntry_23 : decode cX6_addEntry 23 = .ok (.invokevirtual 333, 3) := by decide +kernel
theorem dX6_addEntry_26 : decode cX6_addEntry 26 = .ok (.istore 4, 2) := by decide +kernel
theorem dX6_addEntry_28 : decode cX6_addEntry 28 = .ok (.iload 4, 2) := by decide +kernel
theorem dX6_addEntry_30 : decode cX6_addEntry 30 = .ok (.ifCond .eq 62, 3) := by decide +kernel
theorem dX6_addEntry_33 : decode cX6_addEntry 33 = .ok (.aload_n 0, 1) := by decide +kernel
theorem dX6_addEntry_34 : decode cX6_addEntry 34 = .ok (.getfield 10, 3) := by decide +kernel
theorem dX6_addEntry_37 : decode cX6_addEntry 37 = .ok (.iload_n 2, 1) := by decide +kernel
theorem dX6_addEntry_38 : decode cX6_addEntry 38 = .ok (.invokevirtual 295, 3) := by decide +kernel
theorem dX6_addEntry_41 : decode cX6_addEntry 41 = .ok (.ifCond .eq 47, 3) := by decide +kernel
theorem dX6_addEntry_44 : decode cX6_addEntry 44 = .ok (.aload_n 0, 1) := by decide +kernel
theorem dX6_addEntry_45 : decode cX6_addEntry 45 = .ok (.getfield 10, 3) := by decide +kernel
theorem dX6_addEntry_48 : decode cX6_addEntry 48 = .ok (.iload_n 3, 1) := by decide +kernel
theorem dX6_addEntry_49 : decode cX6_addEntry 49 = .ok (.invokevirtual 295, 3) := by decide +kernel
theorem dX6_addEntry_52 : decode cX6_addEntry 52 = .ok (.ifCond .eq 36, 3) := by decide +kernel
theorem dX6_addEntry_55 : decode cX6_addEntry 55 = .ok (.iload_n 2, 1) := by decide +kernel
theorem dX6_addEntry_56 : decode cX6_addEntry 56 = .ok (.iload_n 3, 1) := by decide +kernel
theorem dX6_addEntry_57 : decode cX6_addEntry 57 = .ok (.if_icmp .eq 31, 3) := by decide +kernel
theorem dX6_addEntry_60 : decode cX6_addEntry 60 = .ok (.aload_n 0, 1) := by decide +kernel
theorem dX6_addEntry_61 : decode cX6_addEntry 61 = .ok (.getfield 10, 3) := by decide +kernel
theorem dX6_addEntry_64 : decode cX6_addEntry 64 = .ok (.invokevirtual 114, 3) := by decide +kernel
theorem dX6_addEntry_67 : decode cX6_addEntry 67 = .ok (.bipush 10, 2) := by decide +kernel
theorem dX6_addEntry_69 : decode cX6_addEntry 69 = .ok (.if_icmp .ge 19, 3) := by decide +kernel
theorem dX6_addEntry_72 : decode cX6_addEntry 72 = .ok (.aload_n 0, 1) := by decide +kernel
theorem dX6_addEntry_73 : decode cX6_addEntry 73 = .ok (.getfield 10, 3) := by decide +kernel
theorem dX6_addEntry_76 : decode cX6_addEntry 76 = .ok (.iload_n 2, 1) := by decide +kernel
theorem dX6_addEntry_77 : decode cX6_addEntry 77 = .ok (.iload_n 3, 1) := by decide +kernel
theorem dX6_addEntry_78 : decode cX6_addEntry 78 = .ok (.invokevirtual 122, 3) := by decide +kernel
theorem dX6_addEntry_81 : decode cX6_addEntry 81 = .ok (.ifCond .eq 7, 3) := by decide +kernel
theorem dX6_addEntry_84 : decode cX6_addEntry 84 = .ok (.iconst 1, 1) := by decide +kernel
theorem dX6_addEntry_85 : decode cX6_addEntry 85 = .ok (.goto 50, 3) := by decide +kernel
theorem dX6_addEntry_88 : decode cX6_addEntry 88 = .ok (.iconst 0, 1) := by decide +kernel
theorem dX6_addEntry_89 : decode cX6_addEntry 89 = .ok (.goto 46, 3) := by decide +kernel
theorem dX6_addEntry_92 : decode cX6_addEntry 92 = .ok (.iload_n 2, 1) := by decide +kernel
theorem dX6_addEntry_93 : decode cX6_addEntry 93 = .ok (.invokestatic 306, 3) := by decide +kernel
theorem dX6_addEntry_96 : decode cX6_addEntry 96 = .ok (.ifCond .eq 38, 3) := by decide +kernel
theorem dX6_addEntry_99 : decode cX6_addEntry 99 = .ok (.iload_n 3, 1) := by decide +kernel
theorem dX6_addEntry_100 : decode cX6_addEntry 100 = .ok (.invokestatic 306, 3) := by decide +kernel
theorem dX6_addEntry_103 : decode cX6_addEntry 103 = .ok (.ifCond .eq 31, 3) := by decide +kernel
theorem dX6_addEntry_106 : decode cX6_addEntry 106 = .ok (.aload_n 0, 1) := by decide +kernel
theorem dX6_addEntry_107 : decode cX6_addEntry 107 = .ok (.getfield 10, 3) := by decide +kernel
theorem dX6_addEntry_110 : decode cX6_addEntry 110 = .ok (.invokevirtual 68, 3) := by decide +kernel
theorem dX6_addEntry_113 : decode cX6_addEntry 113 = .ok (.bipush 16, 2) := by decide +kernel
theorem dX6_addEntry_115 : decode cX6_addEntry 115 = .ok (.if_icmp .ge 19, 3) := by decide +kernel
theorem dX6_addEntry_118 : decode cX6_addEntry 118 = .ok (.aload_n 0, 1) := by decide +kernel
theorem dX6_addEntry_119 : decode cX6_addEntry 119 = .ok (.getfield 10, 3) := by decide +kernel
theorem dX6_addEntry_122 : decode cX6_addEntry 122 = .ok (.iload_n 2, 1) := by decide +kernel
theorem dX6_addEntry_123 : decode cX6_addEntry 123 = .ok (.iload_n 3, 1) := by decide +kernel
theorem dX6_addEntry_124 : decode cX6_addEntry 124 = .ok (.invokevirtual 313, 3) := by decide +kernel
theorem dX6_addEntry_127 : decode cX6_addEntry 127 = .ok (.ifCond .eq 7, 3) := by decide +kernel
theorem dX6_addEntry_130 : decode cX6_addEntry 130 = .ok (.iconst 1, 1) := by decide +kernel
theorem dX6_addEntry_131 : decode cX6_addEntry 131 = .ok (.goto 4, 3) := by decide +kernel
theorem dX6_addEntry_134 : decode cX6_addEntry 134 = .ok (.iconst 0, 1) := by decide +kernel
theorem dX6_addEntry_135 : decode cX6_addEntry 135 = .ok (.istore 5, 2) := by decide +kernel
theorem dX6_addEntry_137 : decode cX6_addEntry 137 = .ok (.iload 5, 2) := by decide +kernel
theorem dX6_addEntry_139 : decode cX6_addEntry 139 = .ok (.ifCond .ne 5, 3) := by decide +kernel
theorem dX6_addEntry_142 : decode cX6_addEntry 142 = .ok (.iconst 0, 1) := by decide +kernel
theorem dX6_addEntry_143 : decode cX6_addEntry 143 = .ok (.ireturn, 1) := by decide +kernel
theorem dX6_addEntry_144 : decode cX6_addEntry 144 = .ok (.aload_n 0, 1) := by decide +kernel
theorem dX6_addEntry_145 : decode cX6_addEntry 145 = .ok (.getfield 37, 3) := by decide +kernel
theorem dX6_addEntry_148 : decode cX6_addEntry 148 = .ok (.aload_n 0, 1) := by decide +kernel
theorem dX6_addEntry_149 : decode cX6_addEntry 149 = .ok (.getfield 10, 3) := by decide +kernel
theorem dX6_addEntry_152 : decode cX6_addEntry 152 = .ok (.invokevirtual 59, 3) := by decide +kernel
theorem dX6_addEntry_155 : decode cX6_addEntry 155 = .ok (.iload 4, 2) := by decide +kernel
theorem dX6_addEntry_157 : decode cX6_addEntry 157 = .ok (.ifCond .eq 15, 3) := by decide +kernel
theorem dX6_addEntry_160 : decode cX6_addEntry 160 = .ok (.aload_n 0, 1) := by decide +kernel
theorem dX6_addEntry_161 : decode cX6_addEntry 161 = .ok (.getfield 10, 3) := by decide +kernel
theorem dX6_addEntry_164 : decode cX6_addEntry 164 = .ok (.iload_n 2, 1) := by decide +kernel
theorem dX6_addEntry_165 : decode cX6_addEntry 165 = .ok (.iload_n 3, 1) := by decide +kernel
theorem dX6_addEntry_166 : decode cX6_addEntry 166 = .ok (.invokevirtual 127, 3) := by decide +kernel
theorem dX6_addEntry_169 : decode cX6_addEntry 169 = .ok (.goto 12, 3) := by decide +kernel
theorem dX6_addEntry_172 : decode cX6_addEntry 172 = .ok (.aload_n 0, 1) := by decide +kernel
theorem dX6_addEntry_173 : decode cX6_addEntry 173 = .ok (.getfield 10, 3) := by decide +kernel
theorem dX6_addEntry_176 : decode cX6_addEntry 176 = .ok (.iload_n 2, 1) := by decide +kernel
theorem dX6_addEntry_177 : decode cX6_addEntry 177 = .ok (.iload_n 3, 1) := by decide +kernel
theorem dX6_addEntry_178 : decode cX6_addEntry 178 = .ok (.invokevirtual 62, 3) := by decide +kernel
theorem dX6_addEntry_181 : decode cX6_addEntry 181 = .ok (.iconst 1, 1) := by decide +kernel
theorem dX6_addEntry_182 : decode cX6_addEntry 182 = .ok (.ireturn, 1) := by decide +kernel
