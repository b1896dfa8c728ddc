theorem dX0_init_0 : decode cX0_init 0 = .ok (.aload_n 0, 1) := by decide +kernel
theorem dX0_init_1 : decode cX0_init 1 = .ok (.invokespecial 1, 3) := by decide +kernel
theorem dX0_init_4 : decode cX0_init 4 = .ok (.aload_n 0, 1) := by decide +kernel
theorem dX0_init_5 : decode cX0_init 5 = .ok (.aload_n 1, 1) := by decide +kernel
theorem dX0_init_6 : decode cX0_init 6 = .ok (.putfield 7, 3) := by decide +kernel
theorem dX0_init_9 : decode cX0_init 9 = .ok (.aload_n 0, 1) := by decide +kernel
theorem dX0_init_10 : decode cX0_init 10 = .ok (.iload_n 2, 1) := by decide +kernel
theorem dX0_init_11 : decode cX0_init 11 = .ok (.putfield 13, 3) := by decide +kernel
theorem dX0_init_14 : decode cX0_init 14 = .ok (.aload_n 0, 1) := by decide +kernel
theorem dX0_init_15 : decode cX0_init 15 = .ok (.iload_n 3, 1) := by decide +kernel
theorem dX0_init_16 : decode cX0_init 16 = .ok (.putfield 17, 3) := by decide +kernel
theorem dX0_init_19 : decode cX0_init 19 = .ok (.return_, 1) := by decide +kernel
theorem dX1_init_0 : decode cX1_init 0 = .ok (.aload_n 0, 1) := by decide +kernel
theorem dX1_init_1 : decode cX1_init 1 = .ok (.invokespecial 3, 3) := by decide +kernel
theorem dX1_init_4 : decode cX1_init 4 = .ok (.aload_n 0, 1) := by decide +kernel
theorem dX1_init_5 : decode cX1_init 5 = .ok (.iconst 0, 1) := by decide +kernel
theorem dX1_init_6 : decode cX1_init 6 = .ok (.putfield 9, 3) := by decide +kernel
theorem dX1_init_9 : decode cX1_init 9 = .ok (.aload_n 0, 1) := by decide +kernel
theorem dX1_init_10 : decode cX1_init 10 = .ok (.iload_n 1, 1) := by decide +kernel
theorem dX1_init_11 : decode cX1_init 11 = .ok (.putfield 15, 3) := by decide +kernel
theorem dX1_init_14 : decode cX1_init 14 = .ok (.aload_n 0, 1) := by decide +kernel
theorem dX1_init_15 : decode cX1_init 15 = .ok (.iload_n 2, 1) := by decide +kernel
theorem dX1_init_16 : decode cX1_init 16 = .ok (.putfield 18, 3) := by decide +kernel
theorem dX1_init_19 : decode cX1_init 19 = .ok (.aload_n 0, 1) := by decide +kernel
theorem dX1_init_20 : decode cX1_init 20 = .ok (.iload_n 3, 1) := by decide +kernel
theorem dX1_init_21 : decode cX1_init 21 = .ok (.putfield 21, 3) := by decide +kernel
theorem dX1_init_24 : decode cX1_init 24 = .ok (.aload_n 0, 1) := by decide +kernel
theorem dX1_init_25 : decode cX1_init 25 = .ok (.iload 4, 2) := by decide +kernel
theorem dX1_init_27 : decode cX1_init 27 = .ok (.putfield 24, 3) := by decide +kernel
theorem dX1_init_30 : decode cX1_init 30 = .ok (.aload_n 0, 1) := by decide +kernel
theorem dX1_init_31 : decode cX1_init 31 = .ok (.iload 5, 2) := by decide +kernel
theorem dX1_init_33 : decode cX1_init 33 = .ok (.putfield 27, 3) := by decide +kernel
theorem dX1_init_36 : decode cX1_init 36 = .ok (.aload_n 0, 1) := by decide +kernel
theorem dX1_init_37 : decode cX1_init 37 = .ok (.iload 6, 2) := by decide +kernel
theorem dX1_init_39 : decode cX1_init 39 = .ok (.putfield 30, 3) := by decide +kernel
theorem dX1_init_42 : decode cX1_init 42 = .ok (.return_, 1) := by decide +kernel
theorem dX1_quit_0 : decode cX1_quit 0 = .ok (.aload_n 0, 1) := by decide +kernel
theorem dX1_quit_1 : decode cX1_quit 1 = .ok (.iload_n 1, 1) := by decide +kernel
theorem dX1_quit_2 : decode cX1_quit 2 = .ok (.putfield 9, 3) := by decide +kernel
theorem dX1_quit_5 : decode cX1_quit 5 = .ok (.aload_n 0, 1) := by decide +kernel
theorem dX1_quit_6 : decode cX1_quit 6 = .ok (.bipush (-6), 2) := by decide +kernel
theorem dX1_quit_8 : decode cX1_quit 8 = .ok (.putfield 27, 3) := by decide +kernel
theorem dX1_quit_11 : decode cX1_quit 11 = .ok (.return_, 1) := by decide +kernel
theorem dX1_growOlder_0 : decode cX1_growOlder 0 = .ok (.aload_n 0, 1) := by decide +kernel
theorem dX1_growOlder_1 : decode cX1_growOlder 1 = .ok (.getfield 9, 3) := by decide +kernel
theorem dX1_growOlder_4 : decode cX1_growOlder 4 = .ok (.iconst 4, 1) := by decide +kernel
theorem dX1_growOlder_5 : decode cX1_growOlder 5 = .ok (.if_icmp .ne 5, 3) := by decide +kernel
theorem dX1_growOlder_8 : decode cX1_growOlder 8 = .ok (.iconst 0, 1) := by decide +kernel
theorem dX1_growOlder_9 : decode cX1_growOlder 9 = .ok (.ireturn, 1) := by decide +kernel
theorem dX1_growOlder_10 : decode cX1_growOlder 10 = .ok (.aload_n 0, 1) := by decide +kernel
theorem dX1_growOlder_11 : decode cX1_growOlder 11 = .ok (.aload_n 0, 1) := by decide +kernel
theorem dX1_growOlder_12 : decode cX1_growOlder 12 = .ok (.getfield 15, 3) := by decide +kernel
theorem dX1_growOlder_15 : decode cX1_growOlder 15 = .ok (.iconst 1, 1) := by decide +kernel
theorem dX1_growOlder_16 : decode cX1_growOlder 16 = .ok (.iadd, 1) := by decide +kernel
theorem dX1_growOlder_17 : decode cX1_growOlder 17 = .ok (.bipush 70, 2) := by decide +kernel
theorem dX1_growOlder_19 : decode cX1_growOlder 19 = .ok (.invokestatic 34, 3) := by decide +kernel
theorem dX1_growOlder_22 : decode cX1_growOlder 22 = .ok (.putfield 15, 3) := by decide +kernel
theorem dX1_growOlder_25 : decode cX1_growOlder 25 = .ok (.aload_n 0, 1) := by decide +kernel
theorem dX1_growOlder_26 : decode cX1_growOlder 26 = .ok (.getfield 9, 3) := by decide +kernel
theorem dX1_growOlder_29 : decode cX1_growOlder 29 = .ok (.ifCond .ne 18, 3) := by decide +kernel
theorem dX1_growOlder_32 : decode cX1_growOlder 32 = .ok (.aload_n 0, 1) := by decide +kernel
theorem dX1_growOlder_33 : decode cX1_growOlder 33 = .ok (.aload_n 0, 1) := by decide +kernel
theorem dX1_growOlder_34 : decode cX1_growOlder 34 = .ok (.getfield 21, 3) := by decide +kernel
theorem dX1_growOlder_37 : decode cX1_growOlder 37 = .ok (.iconst 1, 1) := by decide +kernel
theorem dX1_growOlder_38 : decode cX1_growOlder 38 = .ok (.iadd, 1) := by decide +kernel
theorem dX1_growOlder_39 : decode cX1_growOlder 39 = .ok (.bipush 50, 2) := by decide +kernel
theorem dX1_growOlder_41 : decode cX1_growOlder 41 = .ok (.invokestatic 34, 3) := by decide +kernel
theorem dX1_growOlder_44 : decode cX1_growOlder 44 = .ok (.putfield 21, 3) := by decide +kernel
theorem dX1_growOlder_47 : decode cX1_growOlder 47 = .ok (.aload_n 0, 1) := by decide +kernel
theorem dX1_growOlder_48 : decode cX1_growOlder 48 = .ok (.getfield 9, 3) := by decide +kernel
theorem dX1_growOlder_51 : decode cX1_growOlder 51 = .ok (.iconst 2, 1) := by decide +kernel
theorem dX1_growOlder_52 : decode cX1_growOlder 52 = .ok (.if_icmp .eq 11, 3) := by decide +kernel
theorem dX1_growOlder_55 : decode cX1_growOlder 55 = .ok (.aload_n 0, 1) := by decide +kernel
theorem dX1_growOlder_56 : decode cX1_growOlder 56 = .ok (.getfield 15, 3) := by decide +kernel
theorem dX1_growOlder_59 : decode cX1_growOlder 59 = .ok (.iload_n 1, 1) := by decide +kernel
theorem dX1_growOlder_60 : decode cX1_growOlder 60 = .ok (.if_icmp .ge 5, 3) := by decide +kernel
theorem dX1_growOlder_63 : decode cX1_growOlder 63 = .ok (.iconst 0, 1) := by decide +kernel
theorem dX1_growOlder_64 : decode cX1_growOlder 64 = .ok (.ireturn, 1) := by decide +kernel
theorem dX1_growOlder_65 : decode cX1_growOlder 65 = .ok (.aload_n 0, 1) := by decide +kernel
theorem dX1_growOlder_66 : decode cX1_growOlder 66 = .ok (.iconst 2, 1) := by decide +kernel
theorem dX1_growOlder_67 : decode cX1_growOlder 67 = .ok (.invokevirtual 40, 3) := by decide +kernel
theorem dX1_growOlder_70 : decode cX1_growOlder 70 = .ok (.iconst 1, 1) := by decide +kernel
theorem dX1_growOlder_71 : decode cX1_growOlder 71 = .ok (.ireturn, 1) := by decide +kernel
theorem dX2_init_0 : decode cX2_init 0 = .ok (.aload_n 0, 1) := by decide +kernel
theorem dX2_init_1 : decode cX2_init 1 = .ok (.invokespecial 3, 3) := by decide +kernel
theorem dX2_init_4 : decode cX2_init 4 = .ok (.aload_n 0, 1) := by decide +kernel
theorem dX2_init_5 : decode cX2_init 5 = .ok (.bipush 9, 2) := by decide +kernel
theorem dX2_init_7 : decode cX2_init 7 = .ok (.bipush 21, 2) := by decide +kernel
theorem dX2_init_9 : decode cX2_init 9 = .ok (.multianewarray 11 2, 4) := by decide +kernel
theorem dX2_init_13 : decode cX2_init 13 = .ok (.putfield 13, 3) := by decide +kernel
theorem dX2_init_16 : decode cX2_init 16 = .ok (.aload_n 0, 1) := by decide +kernel
theorem dX2_init_17 : decode cX2_init 17 = .ok (.bipush 10, 2) := by decide +kernel
theorem dX2_init_19 : decode cX2_init 19 = .ok (.newarray .long, 2) := by decide +kernel
theorem dX2_init_21 : decode cX2_init 21 = .ok (.putfield 16, 3) := by decide +kernel
theorem dX2_init_24 : decode cX2_init 24 = .ok (.aload_n 0, 1) := by decide +kernel
theorem dX2_init_25 : decode cX2_init 25 = .ok (.bipush 22, 2) := by decide +kernel
theorem dX2_init_27 : decode cX2_init 27 = .ok (.newarray .long, 2) := by decide +kernel
theorem dX2_init_29 : decode cX2_init 29 = .ok (.putfield 20, 3) := by decide +kernel
theorem dX2_init_32 : decode cX2_init 32 = .ok (.aload_n 0, 1) := by decide +kernel
theorem dX2_init_33 : decode cX2_init 33 = .ok (.bipush 22, 2) := by decide +kernel
theorem dX2_init_35 : decode cX2_init 35 = .ok (.newarray .long, 2) := by decide +kernel
theorem dX2_init_37 : decode cX2_init 37 = .ok (.putfield 23, 3) := by decide +kernel
theorem dX2_init_40 : decode cX2_init 40 = .ok (.aload_n 0, 1) := by decide +kernel
theorem dX2_init_41 : decode cX2_init 41 = .ok (.bipush 22, 2) := by decide +kernel
theorem dX2_init_43 : decode cX2_init 43 = .ok (.newarray .int, 2) := by decide +kernel
theorem dX2_init_45 : decode cX2_init 45 = .ok (.putfield 26, 3) := by decide +kernel
theorem dX2_init_48 : decode cX2_init 48 = .ok (.aload_n 0, 1) := by decide +kernel
theorem dX2_init_49 : decode cX2_init 49 = .ok (.bipush 22, 2) := by decide +kernel
theorem dX2_init_51 : decode cX2_init 51 = .ok (.newarray .int, 2) := by decide +kernel
theorem dX2_init_53 : decode cX2_init 53 = .ok (.putfield 30, 3) := by decide +kernel
theorem dX2_init_56 : decode cX2_init 56 = .ok (.aload_n 0, 1) := by decide +kernel
theorem dX2_init_57 : decode cX2_init 57 = .ok (.bipush 22, 2) := by decide +kernel
theorem dX2_init_59 : decode cX2_init 59 = .ok (.newarray .boolean, 2) := by decide +kernel
theorem dX2_init_61 : decode cX2_init 61 = .ok (.putfield 33, 3) := by decide +kernel
theorem dX2_init_64 : decode cX2_init 64 = .ok (.return_, 1) := by decide +kernel
theorem dX2_bar_0 : decode cX2_bar 0 = .ok (.iconst 0, 1) := by decide +kernel
theorem dX2_bar_1 : decode cX2_bar 1 = .ok (.istore_n 3, 1) := by decide +kernel
theorem dX2_bar_2 : decode cX2_bar 2 = .ok (.iload_n 3, 1) := by decide +kernel
theorem dX2_bar_3 : decode cX2_bar 3 = .ok (.iload_n 2, 1) := by decide +kernel
theorem dX2_bar_4 : decode cX2_bar 4 = .ok (.if_icmp .ge 20, 3) := by decide +kernel
theorem dX2_bar_7 : decode cX2_bar 7 = .ok (.aload_n 0, 1) := by decide +kernel
theorem dX2_bar_8 : decode cX2_bar 8 = .ok (.getfield 13, 3) := by decide +kernel
theorem dX2_bar_11 : decode cX2_bar 11 = .ok (.iload_n 1, 1) := by decide +kernel
theorem dX2_bar_12 : decode cX2_bar 12 = .ok (.aaload, 1) := by decide +kernel
theorem dX2_bar_13 : decode cX2_bar 13 = .ok (.iload_n 3, 1) := by decide +kernel
theorem dX2_bar_14 : decode cX2_bar 14 = .ok (.ldc2_w 37, 3) := by decide +kernel
theorem dX2_bar_17 : decode cX2_bar 17 = .ok (.lastore, 1) := by decide +kernel
theorem dX2_bar_18 : decode cX2_bar 18 = .ok (.iinc 3 1, 3) := by decide +kernel
theorem dX2_bar_21 : decode cX2_bar 21 = .ok (.goto (-19), 3) := by decide +kernel
theorem dX2_bar_24 : decode cX2_bar 24 = .ok (.return_, 1) := by decide +kernel
theorem dX2_solve_0 : decode cX2_solve 0 = .ok (.aload_n 0, 1) := by decide +kernel
theorem dX2_solve_1 : decode cX2_solve 1 = .ok (.iload_n 2, 1) := by decide +kernel
theorem dX2_solve_2 : decode cX2_solve 2 = .ok (.putfield 39, 3) := by decide +kernel
theorem dX2_solve_5 : decode cX2_solve 5 = .ok (.iconst 0, 1) := by decide +kernel
theorem dX2_solve_6 : decode cX2_solve 6 = .ok (.istore_n 3, 1) := by decide +kernel
theorem dX2_solve_7 : decode cX2_solve 7 = .ok (.iload_n 3, 1) := by decide +kernel
theorem dX2_solve_8 : decode cX2_solve 8 = .ok (.aload_n 0, 1) := by decide +kernel
theorem dX2_solve_9 : decode cX2_solve 9 = .ok (.getfield 39, 3) := by decide +kernel
theorem dX2_solve_12 : decode cX2_solve 12 = .ok (.if_icmp .gt 23, 3) := by decide +kernel
theorem dX2_solve_15 : decode cX2_solve 15 = .ok (.aload_n 0, 1) := by decide +kernel
theorem dX2_solve_16 : decode cX2_solve 16 = .ok (.getfield 20, 3) := by decide +kernel
theorem dX2_solve_19 : decode cX2_solve 19 = .ok (.iload_n 3, 1) := by decide +kernel
theorem dX2_solve_20 : decode cX2_solve 20 = .ok (.lconst 0, 1) := by decide +kernel
theorem dX2_solve_21 : decode cX2_solve 21 = .ok (.lastore, 1) := by decide +kernel
theorem dX2_solve_22 : decode cX2_solve 22 = .ok (.aload_n 0, 1) := by decide +kernel
theorem dX2_solve_23 : decode cX2_solve 23 = .ok (.getfield 26, 3) := by decide +kernel
theorem dX2_solve_26 : decode cX2_solve 26 = .ok (.iload_n 3, 1) := by decide +kernel
theorem dX2_solve_27 : decode cX2_solve 27 = .ok (.iconst 0, 1) := by decide +kernel
theorem dX2_solve_28 : decode cX2_solve 28 = .ok (.iastore, 1) := by decide +kernel
theorem dX2_solve_29 : decode cX2_solve 29 = .ok (.iinc 3 1, 3) := by decide +kernel
theorem dX2_solve_32 : decode cX2_solve 32 = .ok (.goto (-25), 3) := by decide +kernel
theorem dX2_solve_35 : decode cX2_solve 35 = .ok (.iconst 1, 1) := by decide +kernel
theorem dX2_solve_36 : decode cX2_solve 36 = .ok (.istore_n 3, 1) := by decide +kernel
theorem dX2_solve_37 : decode cX2_solve 37 = .ok (.iload_n 3, 1) := by decide +kernel
theorem dX2_solve_38 : decode cX2_solve 38 = .ok (.iload_n 1, 1) := by decide +kernel
theorem dX2_solve_39 : decode cX2_solve 39 = .ok (.if_icmp .gt 21, 3) := by decide +kernel
theorem dX2_solve_42 : decode cX2_solve 42 = .ok (.aload_n 0, 1) := by decide +kernel
theorem dX2_solve_43 : decode cX2_solve 43 = .ok (.getfield 16, 3) := by decide +kernel
theorem dX2_solve_46 : decode cX2_solve 46 = .ok (.iload_n 3, 1) := by decide +kernel
theorem dX2_solve_47 : decode cX2_solve 47 = .ok (.lconst 0, 1) := by decide +kernel
theorem dX2_solve_48 : decode cX2_solve 48 = .ok (.lastore, 1) := by decide +kernel
theorem dX2_solve_49 : decode cX2_solve 49 = .ok (.aload_n 0, 1) := by decide +kernel
theorem dX2_solve_50 : decode cX2_solve 50 = .ok (.iload_n 3, 1) := by decide +kernel
theorem dX2_solve_51 : decode cX2_solve 51 = .ok (.invokevirtual 43, 3) := by decide +kernel
theorem dX2_solve_54 : decode cX2_solve 54 = .ok (.iinc 3 1, 3) := by decide +kernel
theorem dX2_solve_57 : decode cX2_solve 57 = .ok (.goto (-20), 3) := by decide +kernel
theorem dX2_solve_60 : decode cX2_solve 60 = .ok (.return_, 1) := by decide +kernel
theorem dX2_seat_0 : decode cX2_seat 0 = .ok (.iconst 0, 1) := by decide +kernel
theorem dX2_seat_1 : decode cX2_seat 1 = .ok (.istore_n 2, 1) := by decide +kernel
theorem dX2_seat_2 : decode cX2_seat 2 = .ok (.iload_n 2, 1) := by decide +kernel
theorem dX2_seat_3 : decode cX2_seat 3 = .ok (.aload_n 0, 1) := by decide +kernel
theorem dX2_seat_4 : decode cX2_seat 4 = .ok (.getfield 39, 3) := by decide +kernel
theorem dX2_seat_7 : decode cX2_seat 7 = .ok (.if_icmp .gt 25, 3) := by decide +kernel
theorem dX2_seat_10 : decode cX2_seat 10 = .ok (.aload_n 0, 1) := by decide +kernel
theorem dX2_seat_11 : decode cX2_seat 11 = .ok (.getfield 23, 3) := by decide +kernel
theorem dX2_seat_14 : decode cX2_seat 14 = .ok (.iload_n 2, 1) := by decide +kernel
theorem dX2_seat_15 : decode cX2_seat 15 = .ok (.ldc2_w 47, 3) := by decide +kernel
theorem dX2_seat_18 : decode cX2_seat 18 = .ok (.lastore, 1) := by decide +kernel
theorem dX2_seat_19 : decode cX2_seat 19 = .ok (.aload_n 0, 1) := by decide +kernel
theorem dX2_seat_20 : decode cX2_seat 20 = .ok (.getfield 33, 3) := by decide +kernel
theorem dX2_seat_23 : decode cX2_seat 23 = .ok (.iload_n 2, 1) := by decide +kernel
theorem dX2_seat_24 : decode cX2_seat 24 = .ok (.iconst 0, 1) := by decide +kernel
theorem dX2_seat_25 : decode cX2_seat 25 = .ok (.bastore, 1) := by decide +kernel
theorem dX2_seat_26 : decode cX2_seat 26 = .ok (.iinc 2 1, 3) := by decide +kernel
theorem dX2_seat_29 : decode cX2_seat 29 = .ok (.goto (-27), 3) := by decide +kernel
theorem dX2_seat_32 : decode cX2_seat 32 = .ok (.aload_n 0, 1) := by decide +kernel
theorem dX2_seat_33 : decode cX2_seat 33 = .ok (.getfield 26, 3) := by decide +kernel
theorem dX2_seat_36 : decode cX2_seat 36 = .ok (.iconst 0, 1) := by decide +kernel
theorem dX2_seat_37 : decode cX2_seat 37 = .ok (.iload_n 1, 1) := by decide +kernel
theorem dX2_seat_38 : decode cX2_seat 38 = .ok (.iastore, 1) := by decide +kernel
theorem dX2_seat_39 : decode cX2_seat 39 = .ok (.iconst 0, 1) := by decide +kernel
theorem dX2_seat_40 : decode cX2_seat 40 = .ok (.istore_n 2, 1) := by decide +kernel
theorem dX2_seat_41 : decode cX2_seat 41 = .ok (.iconst 0, 1) := by decide +kernel
theorem dX2_seat_42 : decode cX2_seat 42 = .ok (.istore_n 3, 1) := by decide +kernel
theorem dX2_seat_43 : decode cX2_seat 43 = .ok (.iload_n 3, 1) := by decide +kernel
theorem dX2_seat_44 : decode cX2_seat 44 = .ok (.aload_n 0, 1) := by decide +kernel
theorem dX2_seat_45 : decode cX2_seat 45 = .ok (.getfield 39, 3) := by decide +kernel
theorem dX2_seat_48 : decode cX2_seat 48 = .ok (.if_icmp .gt 24, 3) := by decide +kernel
theorem dX2_seat_51 : decode cX2_seat 51 = .ok (.aload_n 0, 1) := by decide +kernel
theorem dX2_seat_52 : decode cX2_seat 52 = .ok (.getfield 26, 3) := by decide +kernel
theorem dX2_seat_55 : decode cX2_seat 55 = .ok (.iload_n 2, 1) := by decide +kernel
theorem dX2_seat_56 : decode cX2_seat 56 = .ok (.iaload, 1) := by decide +kernel
theorem dX2_seat_57 : decode cX2_seat 57 = .ok (.ifCond .eq 15, 3) := by decide +kernel
theorem dX2_seat_60 : decode cX2_seat 60 = .ok (.aload_n 0, 1) := by decide +kernel
theorem dX2_seat_61 : decode cX2_seat 61 = .ok (.iload_n 2, 1) := by decide +kernel
theorem dX2_seat_62 : decode cX2_seat 62 = .ok (.invokevirtual 49, 3) := by decide +kernel
theorem dX2_seat_65 : decode cX2_seat 65 = .ok (.istore_n 2, 1) := by decide +kernel
theorem dX2_seat_66 : decode cX2_seat 66 = .ok (.iinc 3 1, 3) := by decide +kernel
theorem dX2_seat_69 : decode cX2_seat 69 = .ok (.goto (-26), 3) := by decide +kernel
theorem dX2_seat_72 : decode cX2_seat 72 = .ok (.iconst 0, 1) := by decide +kernel
theorem dX2_seat_73 : decode cX2_seat 73 = .ok (.istore_n 3, 1) := by decide +kernel
theorem dX2_seat_74 : decode cX2_seat 74 = .ok (.iload_n 3, 1) := by decide +kernel
theorem dX2_seat_75 : decode cX2_seat 75 = .ok (.aload_n 0, 1) := by decide +kernel
theorem dX2_seat_76 : decode cX2_seat 76 = .ok (.getfield 39, 3) := by decide +kernel
theorem dX2_seat_79 : decode cX2_seat 79 = .ok (.if_icmp .gt 37, 3) := by decide +kernel
theorem dX2_seat_82 : decode cX2_seat 82 = .ok (.iload_n 2, 1) := by decide +kernel
theorem dX2_seat_83 : decode cX2_seat 83 = .ok (.ifCond .eq 33, 3) := by decide +kernel
theorem dX2_seat_86 : decode cX2_seat 86 = .ok (.aload_n 0, 1) := by decide +kernel
theorem dX2_seat_87 : decode cX2_seat 87 = .ok (.getfield 26, 3) := by decide +kernel
theorem dX2_seat_90 : decode cX2_seat 90 = .ok (.iload_n 2, 1) := by decide +kernel
theorem dX2_seat_91 : decode cX2_seat 91 = .ok (.aload_n 0, 1) := by decide +kernel
theorem dX2_seat_92 : decode cX2_seat 92 = .ok (.getfield 26, 3) := by decide +kernel
theorem dX2_seat_95 : decode cX2_seat 95 = .ok (.aload_n 0, 1) := by decide +kernel
theorem dX2_seat_96 : decode cX2_seat 96 = .ok (.getfield 30, 3) := by decide +kernel
theorem dX2_seat_99 : decode cX2_seat 99 = .ok (.iload_n 2, 1) := by decide +kernel
theorem dX2_seat_100 : decode cX2_seat 100 = .ok (.iaload, 1) := by decide +kernel
theorem dX2_seat_101 : decode cX2_seat 101 = .ok (.iaload, 1) := by decide +kernel
theorem dX2_seat_102 : decode cX2_seat 102 = .ok (.iastore, 1) := by decide +kernel
theorem dX2_seat_103 : decode cX2_seat 103 = .ok (.aload_n 0, 1) := by decide +kernel
theorem dX2_seat_104 : decode cX2_seat 104 = .ok (.getfield 30, 3) := by decide +kernel
theorem dX2_seat_107 : decode cX2_seat 107 = .ok (.iload_n 2, 1) := by decide +kernel
theorem dX2_seat_108 : decode cX2_seat 108 = .ok (.iaload, 1) := by decide +kernel
theorem dX2_seat_109 : decode cX2_seat 109 = .ok (.istore_n 2, 1) := by decide +kernel
theorem dX2_seat_110 : decode cX2_seat 110 = .ok (.iinc 3 1, 3) := by decide +kernel
theorem dX2_seat_113 : decode cX2_seat 113 = .ok (.goto (-39), 3) := by decide +kernel
theorem dX2_seat_116 : decode cX2_seat 116 = .ok (.return_, 1) := by decide +kernel
theorem dX2_reachNext_0 : decode cX2_reachNext 0 = .ok (.aload_n 0, 1) := by decide +kernel
theorem dX2_reachNext_1 : decode cX2_reachNext 1 = .ok (.getfield 33, 3) := by decide +kernel
theorem dX2_reachNext_4 : decode cX2_reachNext 4 = .ok (.iload_n 1, 1) := by decide +kernel
theorem dX2_reachNext_5 : decode cX2_reachNext 5 = .ok (.iconst 1, 1) := by decide +kernel
theorem dX2_reachNext_6 : decode cX2_reachNext 6 = .ok (.bastore, 1) := by decide +kernel
theorem dX2_reachNext_7 : decode cX2_reachNext 7 = .ok (.aload_n 0, 1) := by decide +kernel
theorem dX2_reachNext_8 : decode cX2_reachNext 8 = .ok (.getfield 26, 3) := by decide +kernel
theorem dX2_reachNext_11 : decode cX2_reachNext 11 = .ok (.iload_n 1, 1) := by decide +kernel
theorem dX2_reachNext_12 : decode cX2_reachNext 12 = .ok (.iaload, 1) := by decide +kernel
theorem dX2_reachNext_13 : decode cX2_reachNext 13 = .ok (.istore_n 2, 1) := by decide +kernel
theorem dX2_reachNext_14 : decode cX2_reachNext 14 = .ok (.iconst 0, 1) := by decide +kernel
theorem dX2_reachNext_15 : decode cX2_reachNext 15 = .ok (.istore_n 3, 1) := by decide +kernel
theorem dX2_reachNext_16 : decode cX2_reachNext 16 = .ok (.iconst 1, 1) := by decide +kernel
theorem dX2_reachNext_17 : decode cX2_reachNext 17 = .ok (.istore 4, 2) := by decide +kernel
theorem dX2_reachNext_19 : decode cX2_reachNext 19 = .ok (.iload 4, 2) := by decide +kernel
theorem dX2_reachNext_21 : decode cX2_reachNext 21 = .ok (.aload_n 0, 1) := by decide +kernel
theorem dX2_reachNext_22 : decode cX2_reachNext 22 = .ok (.getfield 39, 3) := by decide +kernel
theorem dX2_reachNext_25 : decode cX2_reachNext 25 = .ok (.if_icmp .gt 103, 3) := by decide +kernel
theorem dX2_reachNext_28 : decode cX2_reachNext 28 = .ok (.aload_n 0, 1) := by decide +kernel
theorem dX2_reachNext_29 : decode cX2_reachNext 29 = .ok (.getfield 33, 3) := by decide +kernel
theorem dX2_reachNext_32 : decode cX2_reachNext 32 = .ok (.iload 4, 2) := by decide +kernel
theorem dX2_reachNext_34 : decode cX2_reachNext 34 = .ok (.baload, 1) := by decide +kernel
theorem dX2_reachNext_35 : decode cX2_reachNext 35 = .ok (.ifCond .ne 87, 3) := by decide +kernel
theorem dX2_reachNext_38 : decode cX2_reachNext 38 = .ok (.aload_n 0, 1) := by decide +kernel
theorem dX2_reachNext_39 : decode cX2_reachNext 39 = .ok (.getfield 13, 3) := by decide +kernel
theorem dX2_reachNext_42 : decode cX2_reachNext 42 = .ok (.iload_n 2, 1) := by decide +kernel
theorem dX2_reachNext_43 : decode cX2_reachNext 43 = .ok (.iconst 1, 1) := by decide +kernel
theorem dX2_reachNext_44 : decode cX2_reachNext 44 = .ok (.isub, 1) := by decide +kernel
theorem dX2_reachNext_45 : decode cX2_reachNext 45 = .ok (.aaload, 1) := by decide +kernel
theorem dX2_reachNext_46 : decode cX2_reachNext 46 = .ok (.iload 4, 2) := by decide +kernel
theorem dX2_reachNext_48 : decode cX2_reachNext 48 = .ok (.iconst 1, 1) := by decide +kernel
theorem dX2_reachNext_49 : decode cX2_reachNext 49 = .ok (.isub, 1) := by decide +kernel
theorem dX2_reachNext_50 : decode cX2_reachNext 50 = .ok (.laload, 1) := by decide +kernel
theorem dX2_reachNext_51 : decode cX2_reachNext 51 = .ok (.aload_n 0, 1) := by decide +kernel
theorem dX2_reachNext_52 : decode cX2_reachNext 52 = .ok (.getfield 16, 3) := by decide +kernel
theorem dX2_reachNext_55 : decode cX2_reachNext 55 = .ok (.iload_n 2, 1) := by decide +kernel
theorem dX2_reachNext_56 : decode cX2_reachNext 56 = .ok (.laload, 1) := by decide +kernel
theorem dX2_reachNext_57 : decode cX2_reachNext 57 = .ok (.lsub, 1) := by decide +kernel
theorem dX2_reachNext_58 : decode cX2_reachNext 58 = .ok (.aload_n 0, 1) := by decide +kernel
theorem dX2_reachNext_59 : decode cX2_reachNext 59 = .ok (.getfield 20, 3) := by decide +kernel
theorem dX2_reachNext_62 : decode cX2_reachNext 62 = .ok (.iload 4, 2) := by decide +kernel
theorem dX2_reachNext_64 : decode cX2_reachNext 64 = .ok (.laload, 1) := by decide +kernel
theorem dX2_reachNext_65 : decode cX2_reachNext 65 = .ok (.lsub, 1) := by decide +kernel
theorem dX2_reachNext_66 : decode cX2_reachNext 66 = .ok (.lstore 5, 2) := by decide +kernel
theorem dX2_reachNext_68 : decode cX2_reachNext 68 = .ok (.lload 5, 2) := by decide +kernel
theorem dX2_reachNext_70 : decode cX2_reachNext 70 = .ok (.aload_n 0, 1) := by decide +kernel
theorem dX2_reachNext_71 : decode cX2_reachNext 71 = .ok (.getfield 23, 3) := by decide +kernel
theorem dX2_reachNext_74 : decode cX2_reachNext 74 = .ok (.iload 4, 2) := by decide +kernel
theorem dX2_reachNext_76 : decode cX2_reachNext 76 = .ok (.laload, 1) := by decide +kernel
theorem dX2_reachNext_77 : decode cX2_reachNext 77 = .ok (.lcmp, 1) := by decide +kernel
theorem dX2_reachNext_78 : decode cX2_reachNext 78 = .ok (.ifCond .ge 20, 3) := by decide +kernel
theorem dX2_reachNext_81 : decode cX2_reachNext 81 = .ok (.aload_n 0, 1) := by decide +kernel
theorem dX2_reachNext_82 : decode cX2_reachNext 82 = .ok (.getfield 23, 3) := by decide +kernel
theorem dX2_reachNext_85 : decode cX2_reachNext 85 = .ok (.iload 4, 2) := by decide +kernel
theorem dX2_reachNext_87 : decode cX2_reachNext 87 = .ok (.lload 5, 2) := by decide +kernel
theorem dX2_reachNext_89 : decode cX2_reachNext 89 = .ok (.lastore, 1) := by decide +kernel
theorem dX2_reachNext_90 : decode cX2_reachNext 90 = .ok (.aload_n 0, 1) := by decide +kernel
theorem dX2_reachNext_91 : decode cX2_reachNext 91 = .ok (.getfield 30, 3) := by decide +kernel
theorem dX2_reachNext_94 : decode cX2_reachNext 94 = .ok (.iload 4, 2) := by decide +kernel
theorem dX2_reachNext_96 : decode cX2_reachNext 96 = .ok (.iload_n 1, 1) := by decide +kernel
theorem dX2_reachNext_97 : decode cX2_reachNext 97 = .ok (.iastore, 1) := by decide +kernel
theorem dX2_reachNext_98 : decode cX2_reachNext 98 = .ok (.iload_n 3, 1) := by decide +kernel
theorem dX2_reachNext_99 : decode cX2_reachNext 99 = .ok (.ifCond .eq 20, 3) := by decide +kernel
theorem dX2_reachNext_102 : decode cX2_reachNext 102 = .ok (.aload_n 0, 1) := by decide +kernel
theorem dX2_reachNext_103 : decode cX2_reachNext 103 = .ok (.getfield 23, 3) := by decide +kernel
theorem dX2_reachNext_106 : decode cX2_reachNext 106 = .ok (.iload 4, 2) := by decide +kernel
theorem dX2_reachNext_108 : decode cX2_reachNext 108 = .ok (.laload, 1) := by decide +kernel
theorem dX2_reachNext_109 : decode cX2_reachNext 109 = .ok (.aload_n 0, 1) := by decide +kernel
theorem dX2_reachNext_110 : decode cX2_reachNext 110 = .ok (.getfield 23, 3) := by decide +kernel
theorem dX2_reachNext_113 : decode cX2_reachNext 113 = .ok (.iload_n 3, 1) := by decide +kernel
theorem dX2_reachNext_114 : decode cX2_reachNext 114 = .ok (.laload, 1) := by decide +kernel
theorem dX2_reachNext_115 : decode cX2_reachNext 115 = .ok (.lcmp, 1) := by decide +kernel
theorem dX2_reachNext_116 : decode cX2_reachNext 116 = .ok (.ifCond .ge 6, 3) := by decide +kernel
theorem dX2_reachNext_119 : decode cX2_reachNext 119 = .ok (.iload 4, 2) := by decide +kernel
theorem dX2_reachNext_121 : decode cX2_reachNext 121 = .ok (.istore_n 3, 1) := by decide +kernel
theorem dX2_reachNext_122 : decode cX2_reachNext 122 = .ok (.iinc 4 1, 3) := by decide +kernel
theorem dX2_reachNext_125 : decode cX2_reachNext 125 = .ok (.goto (-106), 3) := by decide +kernel
theorem dX2_reachNext_128 : decode cX2_reachNext 128 = .ok (.aload_n 0, 1) := by decide +kernel
theorem dX2_reachNext_129 : decode cX2_reachNext 129 = .ok (.aload_n 0, 1) := by decide +kernel
theorem dX2_reachNext_130 : decode cX2_reachNext 130 = .ok (.getfield 23, 3) := by decide +kernel
theorem dX2_reachNext_133 : decode cX2_reachNext 133 = .ok (.iload_n 3, 1) := by decide +kernel
theorem dX2_reachNext_134 : decode cX2_reachNext 134 = .ok (.laload, 1) := by decide +kernel
theorem dX2_reachNext_135 : decode cX2_reachNext 135 = .ok (.invokevirtual 53, 3) := by decide +kernel
theorem dX2_reachNext_138 : decode cX2_reachNext 138 = .ok (.iload_n 3, 1) := by decide +kernel
theorem dX2_reachNext_139 : decode cX2_reachNext 139 = .ok (.ireturn, 1) := by decide +kernel
theorem dX2_shiftWorths_0 : decode cX2_shiftWorths 0 = .ok (.iconst 0, 1) := by decide +kernel
theorem dX2_shiftWorths_1 : decode cX2_shiftWorths 1 = .ok (.istore_n 3, 1) := by decide +kernel
theorem dX2_shiftWorths_2 : decode cX2_shiftWorths 2 = .ok (.iload_n 3, 1) := by decide +kernel
theorem dX2_shiftWorths_3 : decode cX2_shiftWorths 3 = .ok (.aload_n 0, 1) := by decide +kernel
theorem dX2_shiftWorths_4 : decode cX2_shiftWorths 4 = .ok (.getfield 39, 3) := by decide +kernel
theorem dX2_shiftWorths_7 : decode cX2_shiftWorths 7 = .ok (.if_icmp .gt 56, 3) := by decide +kernel
theorem dX2_shiftWorths_10 : decode cX2_shiftWorths 10 = .ok (.aload_n 0, 1) := by decide +kernel
theorem dX2_shiftWorths_11 : decode cX2_shiftWorths 11 = .ok (.getfield 33, 3) := by decide +kernel
theorem dX2_shiftWorths_14 : decode cX2_shiftWorths 14 = .ok (.iload_n 3, 1) := by decide +kernel
theorem dX2_shiftWorths_15 : decode cX2_shiftWorths 15 = .ok (.baload, 1) := by decide +kernel
theorem dX2_shiftWorths_16 : decode cX2_shiftWorths 16 = .ok (.ifCond .eq 31, 3) := by decide +kernel
theorem dX2_shiftWorths_19 : decode cX2_shiftWorths 19 = .ok (.aload_n 0, 1) := by decide +kernel
theorem dX2_shiftWorths_20 : decode cX2_shiftWorths 20 = .ok (.getfield 16, 3) := by decide +kernel
theorem dX2_shiftWorths_23 : decode cX2_shiftWorths 23 = .ok (.aload_n 0, 1) := by decide +kernel
theorem dX2_shiftWorths_24 : decode cX2_shiftWorths 24 = .ok (.getfield 26, 3) := by decide +kernel
theorem dX2_shiftWorths_27 : decode cX2_shiftWorths 27 = .ok (.iload_n 3, 1) := by decide +kernel
theorem dX2_shiftWorths_28 : decode cX2_shiftWorths 28 = .ok (.iaload, 1) := by decide +kernel
theorem dX2_shiftWorths_29 : decode cX2_shiftWorths 29 = .ok (.dup2, 1) := by decide +kernel
theorem dX2_shiftWorths_30 : decode cX2_shiftWorths 30 = .ok (.laload, 1) := by decide +kernel
theorem dX2_shiftWorths_31 : decode cX2_shiftWorths 31 = .ok (.lload_n 1, 1) := by decide +kernel
theorem dX2_shiftWorths_32 : decode cX2_shiftWorths 32 = .ok (.ladd, 1) := by decide +kernel
theorem dX2_shiftWorths_33 : decode cX2_shiftWorths 33 = .ok (.lastore, 1) := by decide +kernel
theorem dX2_shiftWorths_34 : decode cX2_shiftWorths 34 = .ok (.aload_n 0, 1) := by decide +kernel
theorem dX2_shiftWorths_35 : decode cX2_shiftWorths 35 = .ok (.getfield 20, 3) := by decide +kernel
theorem dX2_shiftWorths_38 : decode cX2_shiftWorths 38 = .ok (.iload_n 3, 1) := by decide +kernel
theorem dX2_shiftWorths_39 : decode cX2_shiftWorths 39 = .ok (.dup2, 1) := by decide +kernel
theorem dX2_shiftWorths_40 : decode cX2_shiftWorths 40 = .ok (.laload, 1) := by decide +kernel
theorem dX2_shiftWorths_41 : decode cX2_shiftWorths 41 = .ok (.lload_n 1, 1) := by decide +kernel
theorem dX2_shiftWorths_42 : decode cX2_shiftWorths 42 = .ok (.lsub, 1) := by decide +kernel
theorem dX2_shiftWorths_43 : decode cX2_shiftWorths 43 = .ok (.lastore, 1) := by decide +kernel
theorem dX2_shiftWorths_44 : decode cX2_shiftWorths 44 = .ok (.goto 13, 3) := by decide +kernel
theorem dX2_shiftWorths_47 : decode cX2_shiftWorths 47 = .ok (.aload_n 0, 1) := by decide +kernel
theorem dX2_shiftWorths_48 : decode cX2_shiftWorths 48 = .ok (.getfield 23, 3) := by decide +kernel
theorem dX2_shiftWorths_51 : decode cX2_shiftWorths 51 = .ok (.iload_n 3, 1) := by decide +kernel
theorem dX2_shiftWorths_52 : decode cX2_shiftWorths 52 = .ok (.dup2, 1) := by decide +kernel
theorem dX2_shiftWorths_53 : decode cX2_shiftWorths 53 = .ok (.laload, 1) := by decide +kernel
theorem dX2_shiftWorths_54 : decode cX2_shiftWorths 54 = .ok (.lload_n 1, 1) := by decide +kernel
theorem dX2_shiftWorths_55 : decode cX2_shiftWorths 55 = .ok (.lsub, 1) := by decide +kernel
theorem dX2_shiftWorths_56 : decode cX2_shiftWorths 56 = .ok (.lastore, 1) := by decide +kernel
theorem dX2_shiftWorths_57 : decode cX2_shiftWorths 57 = .ok (.iinc 3 1, 3) := by decide +kernel
theorem dX2_shiftWorths_60 : decode cX2_shiftWorths 60 = .ok (.goto (-58), 3) := by decide +kernel
theorem dX2_shiftWorths_63 : decode cX2_shiftWorths 63 = .ok (.return_, 1) := by decide +kernel
theorem dX2_columnOf_0 : decode cX2_columnOf 0 = .ok (.iconst 1, 1) := by decide +kernel
theorem dX2_columnOf_1 : decode cX2_columnOf 1 = .ok (.istore_n 2, 1) := by decide +kernel
theorem dX2_columnOf_2 : decode cX2_columnOf 2 = .ok (.iload_n 2, 1) := by decide +kernel
theorem dX2_columnOf_3 : decode cX2_columnOf 3 = .ok (.aload_n 0, 1) := by decide +kernel
theorem dX2_columnOf_4 : decode cX2_columnOf 4 = .ok (.getfield 39, 3) := by decide +kernel
theorem dX2_columnOf_7 : decode cX2_columnOf 7 = .ok (.if_icmp .ge 25, 3) := by decide +kernel
theorem dX2_columnOf_10 : decode cX2_columnOf 10 = .ok (.aload_n 0, 1) := by decide +kernel
theorem dX2_columnOf_11 : decode cX2_columnOf 11 = .ok (.getfield 26, 3) := by decide +kernel
theorem dX2_columnOf_14 : decode cX2_columnOf 14 = .ok (.iload_n 2, 1) := by decide +kernel
theorem dX2_columnOf_15 : decode cX2_columnOf 15 = .ok (.iaload, 1) := by decide +kernel
theorem dX2_columnOf_16 : decode cX2_columnOf 16 = .ok (.iload_n 1, 1) := by decide +kernel
theorem dX2_columnOf_17 : decode cX2_columnOf 17 = .ok (.iconst 1, 1) := by decide +kernel
theorem dX2_columnOf_18 : decode cX2_columnOf 18 = .ok (.iadd, 1) := by decide +kernel
theorem dX2_columnOf_19 : decode cX2_columnOf 19 = .ok (.if_icmp .ne 7, 3) := by decide +kernel
theorem dX2_columnOf_22 : decode cX2_columnOf 22 = .ok (.iload_n 2, 1) := by decide +kernel
theorem dX2_columnOf_23 : decode cX2_columnOf 23 = .ok (.iconst 1, 1) := by decide +kernel
theorem dX2_columnOf_24 : decode cX2_columnOf 24 = .ok (.isub, 1) := by decide +kernel
theorem dX2_columnOf_25 : decode cX2_columnOf 25 = .ok (.ireturn, 1) := by decide +kernel
theorem dX2_columnOf_26 : decode cX2_columnOf 26 = .ok (.iinc 2 1, 3) := by decide +kernel
theorem dX2_columnOf_29 : decode cX2_columnOf 29 = .ok (.goto (-27), 3) := by decide +kernel
theorem dX2_columnOf_32 : decode cX2_columnOf 32 = .ok (.aload_n 0, 1) := by decide +kernel
theorem dX2_columnOf_33 : decode cX2_columnOf 33 = .ok (.getfield 39, 3) := by decide +kernel
theorem dX2_columnOf_36 : decode cX2_columnOf 36 = .ok (.iconst 1, 1) := by decide +kernel
theorem dX2_columnOf_37 : decode cX2_columnOf 37 = .ok (.isub, 1) := by decide +kernel
theorem dX2_columnOf_38 : decode cX2_columnOf 38 = .ok (.ireturn, 1) := by decide +kernel
theorem dX3_init_0 : decode cX3_init 0 = .ok (.aload_n 0, 1) := by decide +kernel
theorem dX3_init_1 : decode cX3_init 1 = .ok (.invokespecial 3, 3) := by decide +kernel
theorem dX3_init_4 : decode cX3_init 4 = .ok (.aload_n 0, 1) := by decide +kernel
theorem dX3_init_5 : decode cX3_init 5 = .ok (.iconst 5, 1) := by decide +kernel
theorem dX3_init_6 : decode cX3_init 6 = .ok (.newarray .int, 2) := by decide +kernel
theorem dX3_init_8 : decode cX3_init 8 = .ok (.putfield 9, 3) := by decide +kernel
theorem dX3_init_11 : decode cX3_init 11 = .ok (.return_, 1) := by decide +kernel
theorem dX3_result_0 : decode cX3_result 0 = .ok (.aload_n 0, 1) := by decide +kernel
theorem dX3_result_1 : decode cX3_result 1 = .ok (.iconst 0, 1) := by decide +kernel
theorem dX3_result_2 : decode cX3_result 2 = .ok (.putfield 15, 3) := by decide +kernel
theorem dX3_result_5 : decode cX3_result 5 = .ok (.iconst 0, 1) := by decide +kernel
theorem dX3_result_6 : decode cX3_result 6 = .ok (.istore 4, 2) := by decide +kernel
theorem dX3_result_8 : decode cX3_result 8 = .ok (.iconst 0, 1) := by decide +kernel
theorem dX3_result_9 : decode cX3_result 9 = .ok (.istore 5, 2) := by decide +kernel
theorem dX3_result_11 : decode cX3_result 11 = .ok (.iload 5, 2) := by decide +kernel
theorem dX3_result_13 : decode cX3_result 13 = .ok (.aload_n 1, 1) := by decide +kernel
theorem dX3_result_14 : decode cX3_result 14 = .ok (.getfield 19, 3) := by decide +kernel
theorem dX3_result_17 : decode cX3_result 17 = .ok (.if_icmp .ge 59, 3) := by decide +kernel
theorem dX3_result_20 : decode cX3_result 20 = .ok (.aload_n 1, 1) := by decide +kernel
theorem dX3_result_21 : decode cX3_result 21 = .ok (.getfield 24, 3) := by decide +kernel
theorem dX3_result_24 : decode cX3_result 24 = .ok (.iload 5, 2) := by decide +kernel
theorem dX3_result_26 : decode cX3_result 26 = .ok (.iaload, 1) := by decide +kernel
theorem dX3_result_27 : decode cX3_result 27 = .ok (.istore 6, 2) := by decide +kernel
theorem dX3_result_29 : decode cX3_result 29 = .ok (.iload 6, 2) := by decide +kernel
theorem dX3_result_31 : decode cX3_result 31 = .ok (.invokestatic 27, 3) := by decide +kernel
theorem dX3_result_34 : decode cX3_result 34 = .ok (.ifCond .eq 19, 3) := by decide +kernel
theorem dX3_result_37 : decode cX3_result 37 = .ok (.iload 4, 2) := by decide +kernel
theorem dX3_result_39 : decode cX3_result 39 = .ok (.bipush 10, 2) := by decide +kernel
theorem dX3_result_41 : decode cX3_result 41 = .ok (.imul, 1) := by decide +kernel
theorem dX3_result_42 : decode cX3_result 42 = .ok (.iload 6, 2) := by decide +kernel
theorem dX3_result_44 : decode cX3_result 44 = .ok (.iadd, 1) := by decide +kernel
theorem dX3_result_45 : decode cX3_result 45 = .ok (.bipush 48, 2) := by decide +kernel
theorem dX3_result_47 : decode cX3_result 47 = .ok (.isub, 1) := by decide +kernel
theorem dX3_result_48 : decode cX3_result 48 = .ok (.istore 4, 2) := by decide +kernel
theorem dX3_result_50 : decode cX3_result 50 = .ok (.goto 20, 3) := by decide +kernel
theorem dX3_result_53 : decode cX3_result 53 = .ok (.aload_n 0, 1) := by decide +kernel
theorem dX3_result_54 : decode cX3_result 54 = .ok (.aload_n 0, 1) := by decide +kernel
theorem dX3_result_55 : decode cX3_result 55 = .ok (.iload 6, 2) := by decide +kernel
theorem dX3_result_57 : decode cX3_result 57 = .ok (.aload_n 2, 1) := by decide +kernel
theorem dX3_result_58 : decode cX3_result 58 = .ok (.iload_n 3, 1) := by decide +kernel
theorem dX3_result_59 : decode cX3_result 59 = .ok (.iload 4, 2) := by decide +kernel
theorem dX3_result_61 : decode cX3_result 61 = .ok (.invokevirtual 31, 3) := by decide +kernel
theorem dX3_result_64 : decode cX3_result 64 = .ok (.invokevirtual 35, 3) := by decide +kernel
theorem dX3_result_67 : decode cX3_result 67 = .ok (.iconst 0, 1) := by decide +kernel
theorem dX3_result_68 : decode cX3_result 68 = .ok (.istore 4, 2) := by decide +kernel
theorem dX3_result_70 : decode cX3_result 70 = .ok (.iinc 5 1, 3) := by decide +kernel
theorem dX3_result_73 : decode cX3_result 73 = .ok (.goto (-62), 3) := by decide +kernel
theorem dX3_result_76 : decode cX3_result 76 = .ok (.aload_n 0, 1) := by decide +kernel
theorem dX3_result_77 : decode cX3_result 77 = .ok (.invokevirtual 39, 3) := by decide +kernel
theorem dX3_result_80 : decode cX3_result 80 = .ok (.ireturn, 1) := by decide +kernel
theorem dX3_whatComesOf_0 : decode cX3_whatComesOf 0 = .ok (.iload_n 1, 1) := by decide +kernel
theorem dX3_whatComesOf_1 : decode cX3_whatComesOf 1 = .ok (.lookupswitch 118 #[(33, 101), (44, 97), (97, 67), (102, 94), (107, 85), (116, 79), (121, 73)], 67) := by decide +kernel
theorem dX3_whatComesOf_68 : decode cX3_whatComesOf 68 = .ok (.aload_n 2, 1) := by decide +kernel
theorem dX3_whatComesOf_69 : decode cX3_whatComesOf 69 = .ok (.getfield 43, 3) := by decide +kernel
theorem dX3_whatComesOf_72 : decode cX3_whatComesOf 72 = .ok (.i2l, 1) := by decide +kernel
theorem dX3_whatComesOf_73 : decode cX3_whatComesOf 73 = .ok (.lreturn, 1) := by decide +kernel
theorem dX3_whatComesOf_74 : decode cX3_whatComesOf 74 = .ok (.aload_n 2, 1) := by decide +kernel
theorem dX3_whatComesOf_75 : decode cX3_whatComesOf 75 = .ok (.getfield 48, 3) := by decide +kernel
theorem dX3_whatComesOf_78 : decode cX3_whatComesOf 78 = .ok (.i2l, 1) := by decide +kernel
theorem dX3_whatComesOf_79 : decode cX3_whatComesOf 79 = .ok (.lreturn, 1) := by decide +kernel
theorem dX3_whatComesOf_80 : decode cX3_whatComesOf 80 = .ok (.aload_n 2, 1) := by decide +kernel
theorem dX3_whatComesOf_81 : decode cX3_whatComesOf 81 = .ok (.getfield 51, 3) := by decide +kernel
theorem dX3_whatComesOf_84 : decode cX3_whatComesOf 84 = .ok (.i2l, 1) := by decide +kernel
theorem dX3_whatComesOf_85 : decode cX3_whatComesOf 85 = .ok (.lreturn, 1) := by decide +kernel
theorem dX3_whatComesOf_86 : decode cX3_whatComesOf 86 = .ok (.aload_n 2, 1) := by decide +kernel
theorem dX3_whatComesOf_87 : decode cX3_whatComesOf 87 = .ok (.getfield 54, 3) := by decide +kernel
theorem dX3_whatComesOf_90 : decode cX3_whatComesOf 90 = .ok (.invokestatic 58, 3) := by decide +kernel
theorem dX3_whatComesOf_93 : decode cX3_whatComesOf 93 = .ok (.i2l, 1) := by decide +kernel
theorem dX3_whatComesOf_94 : decode cX3_whatComesOf 94 = .ok (.lreturn, 1) := by decide +kernel
theorem dX3_whatComesOf_95 : decode cX3_whatComesOf 95 = .ok (.iload_n 3, 1) := by decide +kernel
theorem dX3_whatComesOf_96 : decode cX3_whatComesOf 96 = .ok (.i2l, 1) := by decide +kernel
theorem dX3_whatComesOf_97 : decode cX3_whatComesOf 97 = .ok (.lreturn, 1) := by decide +kernel
theorem dX3_whatComesOf_98 : decode cX3_whatComesOf 98 = .ok (.iload 4, 2) := by decide +kernel
theorem dX3_whatComesOf_100 : decode cX3_whatComesOf 100 = .ok (.i2l, 1) := by decide +kernel
theorem dX3_whatComesOf_101 : decode cX3_whatComesOf 101 = .ok (.lreturn, 1) := by decide +kernel
theorem dX3_whatComesOf_102 : decode cX3_whatComesOf 102 = .ok (.aload_n 0, 1) := by decide +kernel
theorem dX3_whatComesOf_103 : decode cX3_whatComesOf 103 = .ok (.invokevirtual 39, 3) := by decide +kernel
theorem dX3_whatComesOf_106 : decode cX3_whatComesOf 106 = .ok (.ifCond .ne 7, 3) := by decide +kernel
theorem dX3_whatComesOf_109 : decode cX3_whatComesOf 109 = .ok (.iconst 1, 1) := by decide +kernel
theorem dX3_whatComesOf_110 : decode cX3_whatComesOf 110 = .ok (.goto 4, 3) := by decide +kernel
theorem dX3_whatComesOf_113 : decode cX3_whatComesOf 113 = .ok (.iconst 0, 1) := by decide +kernel
theorem dX3_whatComesOf_114 : decode cX3_whatComesOf 114 = .ok (.invokestatic 58, 3) := by decide +kernel
theorem dX3_whatComesOf_117 : decode cX3_whatComesOf 117 = .ok (.i2l, 1) := by decide +kernel
theorem dX3_whatComesOf_118 : decode cX3_whatComesOf 118 = .ok (.lreturn, 1) := by decide +kernel
theorem dX3_whatComesOf_119 : decode cX3_whatComesOf 119 = .ok (.aload_n 0, 1) := by decide +kernel
theorem dX3_whatComesOf_120 : decode cX3_whatComesOf 120 = .ok (.iload_n 1, 1) := by decide +kernel
theorem dX3_whatComesOf_121 : decode cX3_whatComesOf 121 = .ok (.invokevirtual 62, 3) := by decide +kernel
theorem dX3_whatComesOf_124 : decode cX3_whatComesOf 124 = .ok (.lreturn, 1) := by decide +kernel
theorem dX3_joined_0 : decode cX3_joined 0 = .ok (.aload_n 0, 1) := by decide +kernel
theorem dX3_joined_1 : decode cX3_joined 1 = .ok (.invokevirtual 39, 3) := by decide +kernel
theorem dX3_joined_4 : decode cX3_joined 4 = .ok (.i2l, 1) := by decide +kernel
theorem dX3_joined_5 : decode cX3_joined 5 = .ok (.lstore_n 2, 1) := by decide +kernel
theorem dX3_joined_6 : decode cX3_joined 6 = .ok (.aload_n 0, 1) := by decide +kernel
theorem dX3_joined_7 : decode cX3_joined 7 = .ok (.invokevirtual 39, 3) := by decide +kernel
theorem dX3_joined_10 : decode cX3_joined 10 = .ok (.i2l, 1) := by decide +kernel
theorem dX3_joined_11 : decode cX3_joined 11 = .ok (.lstore 4, 2) := by decide +kernel
theorem dX3_joined_13 : decode cX3_joined 13 = .ok (.iload_n 1, 1) := by decide +kernel
theorem dX3_joined_14 : decode cX3_joined 14 = .ok (.tableswitch 203 38 62 #[180, 203, 203, 203, 124, 114, 203, 119, 203, 203, 203, 203, 203, 203, 203, 203, 203, 203, 203, 203, 203, 203, 129, 163, 146], 114) := by decide +kernel
theorem dX3_joined_128 : decode cX3_joined 128 = .ok (.lload 4, 2) := by decide +kernel
theorem dX3_joined_130 : decode cX3_joined 130 = .ok (.lload_n 2, 1) := by decide +kernel
theorem dX3_joined_131 : decode cX3_joined 131 = .ok (.ladd, 1) := by decide +kernel
theorem dX3_joined_132 : decode cX3_joined 132 = .ok (.lreturn, 1) := by decide +kernel
theorem dX3_joined_133 : decode cX3_joined 133 = .ok (.lload 4, 2) := by decide +kernel
theorem dX3_joined_135 : decode cX3_joined 135 = .ok (.lload_n 2, 1) := by decide +kernel
theorem dX3_joined_136 : decode cX3_joined 136 = .ok (.lsub, 1) := by decide +kernel
theorem dX3_joined_137 : decode cX3_joined 137 = .ok (.lreturn, 1) := by decide +kernel
theorem dX3_joined_138 : decode cX3_joined 138 = .ok (.lload 4, 2) := by decide +kernel
theorem dX3_joined_140 : decode cX3_joined 140 = .ok (.lload_n 2, 1) := by decide +kernel
theorem dX3_joined_141 : decode cX3_joined 141 = .ok (.lmul, 1) := by decide +kernel
theorem dX3_joined_142 : decode cX3_joined 142 = .ok (.lreturn, 1) := by decide +kernel
theorem dX3_joined_143 : decode cX3_joined 143 = .ok (.lload 4, 2) := by decide +kernel
theorem dX3_joined_145 : decode cX3_joined 145 = .ok (.lload_n 2, 1) := by decide +kernel
theorem dX3_joined_146 : decode cX3_joined 146 = .ok (.lcmp, 1) := by decide +kernel
theorem dX3_joined_147 : decode cX3_joined 147 = .ok (.ifCond .ge 7, 3) := by decide +kernel
theorem dX3_joined_150 : decode cX3_joined 150 = .ok (.iconst 1, 1) := by decide +kernel
theorem dX3_joined_151 : decode cX3_joined 151 = .ok (.goto 4, 3) := by decide +kernel
theorem dX3_joined_154 : decode cX3_joined 154 = .ok (.iconst 0, 1) := by decide +kernel
theorem dX3_joined_155 : decode cX3_joined 155 = .ok (.invokestatic 58, 3) := by decide +kernel
theorem dX3_joined_158 : decode cX3_joined 158 = .ok (.i2l, 1) := by decide +kernel
theorem dX3_joined_159 : decode cX3_joined 159 = .ok (.lreturn, 1) := by decide +kernel
theorem dX3_joined_160 : decode cX3_joined 160 = .ok (.lload 4, 2) := by decide +kernel
theorem dX3_joined_162 : decode cX3_joined 162 = .ok (.lload_n 2, 1) := by decide +kernel
theorem dX3_joined_163 : decode cX3_joined 163 = .ok (.lcmp, 1) := by decide +kernel
theorem dX3_joined_164 : decode cX3_joined 164 = .ok (.ifCond .le 7, 3) := by decide +kernel
theorem dX3_joined_167 : decode cX3_joined 167 = .ok (.iconst 1, 1) := by decide +kernel
theorem dX3_joined_168 : decode cX3_joined 168 = .ok (.goto 4, 3) := by decide +kernel
theorem dX3_joined_171 : decode cX3_joined 171 = .ok (.iconst 0, 1) := by decide +kernel
theorem dX3_joined_172 : decode cX3_joined 172 = .ok (.invokestatic 58, 3) := by decide +kernel
theorem dX3_joined_175 : decode cX3_joined 175 = .ok (.i2l, 1) := by decide +kernel
theorem dX3_joined_176 : decode cX3_joined 176 = .ok (.lreturn, 1) := by decide +kernel
theorem dX3_joined_177 : decode cX3_joined 177 = .ok (.lload 4, 2) := by decide +kernel
theorem dX3_joined_179 : decode cX3_joined 179 = .ok (.lload_n 2, 1) := by decide +kernel
theorem dX3_joined_180 : decode cX3_joined 180 = .ok (.lcmp, 1) := by decide +kernel
theorem dX3_joined_181 : decode cX3_joined 181 = .ok (.ifCond .ne 7, 3) := by decide +kernel
theorem dX3_joined_184 : decode cX3_joined 184 = .ok (.iconst 1, 1) := by decide +kernel
theorem dX3_joined_185 : decode cX3_joined 185 = .ok (.goto 4, 3) := by decide +kernel
theorem dX3_joined_188 : decode cX3_joined 188 = .ok (.iconst 0, 1) := by decide +kernel
theorem dX3_joined_189 : decode cX3_joined 189 = .ok (.invokestatic 58, 3) := by decide +kernel
theorem dX3_joined_192 : decode cX3_joined 192 = .ok (.i2l, 1) := by decide +kernel
theorem dX3_joined_193 : decode cX3_joined 193 = .ok (.lreturn, 1) := by decide +kernel
theorem dX3_joined_194 : decode cX3_joined 194 = .ok (.lload 4, 2) := by decide +kernel
theorem dX3_joined_196 : decode cX3_joined 196 = .ok (.lconst 0, 1) := by decide +kernel
theorem dX3_joined_197 : decode cX3_joined 197 = .ok (.lcmp, 1) := by decide +kernel
theorem dX3_joined_198 : decode cX3_joined 198 = .ok (.ifCond .eq 13, 3) := by decide +kernel
theorem dX3_joined_201 : decode cX3_joined 201 = .ok (.lload_n 2, 1) := by decide +kernel
theorem dX3_joined_202 : decode cX3_joined 202 = .ok (.lconst 0, 1) := by decide +kernel
theorem dX3_joined_203 : decode cX3_joined 203 = .ok (.lcmp, 1) := by decide +kernel
theorem dX3_joined_204 : decode cX3_joined 204 = .ok (.ifCond .eq 7, 3) := by decide +kernel
theorem dX3_joined_207 : decode cX3_joined 207 = .ok (.iconst 1, 1) := by decide +kernel
theorem dX3_joined_208 : decode cX3_joined 208 = .ok (.goto 4, 3) := by decide +kernel
theorem dX3_joined_211 : decode cX3_joined 211 = .ok (.iconst 0, 1) := by decide +kernel
theorem dX3_joined_212 : decode cX3_joined 212 = .ok (.invokestatic 58, 3) := by decide +kernel
theorem dX3_joined_215 : decode cX3_joined 215 = .ok (.i2l, 1) := by decide +kernel
theorem dX3_joined_216 : decode cX3_joined 216 = .ok (.lreturn, 1) := by decide +kernel
theorem dX3_joined_217 : decode cX3_joined 217 = .ok (.lload 4, 2) := by decide +kernel
theorem dX3_joined_219 : decode cX3_joined 219 = .ok (.lconst 0, 1) := by decide +kernel
theorem dX3_joined_220 : decode cX3_joined 220 = .ok (.lcmp, 1) := by decide +kernel
theorem dX3_joined_221 : decode cX3_joined 221 = .ok (.ifCond .ne 9, 3) := by decide +kernel
theorem dX3_joined_224 : decode cX3_joined 224 = .ok (.lload_n 2, 1) := by decide +kernel
theorem dX3_joined_225 : decode cX3_joined 225 = .ok (.lconst 0, 1) := by decide +kernel
theorem dX3_joined_226 : decode cX3_joined 226 = .ok (.lcmp, 1) := by decide +kernel
theorem dX3_joined_227 : decode cX3_joined 227 = .ok (.ifCond .eq 7, 3) := by decide +kernel
theorem dX3_joined_230 : decode cX3_joined 230 = .ok (.iconst 1, 1) := by decide +kernel
theorem dX3_joined_231 : decode cX3_joined 231 = .ok (.goto 4, 3) := by decide +kernel
theorem dX3_joined_234 : decode cX3_joined 234 = .ok (.iconst 0, 1) := by decide +kernel
theorem dX3_joined_235 : decode cX3_joined 235 = .ok (.invokestatic 58, 3) := by decide +kernel
theorem dX3_joined_238 : decode cX3_joined 238 = .ok (.i2l, 1) := by decide +kernel
theorem dX3_joined_239 : decode cX3_joined 239 = .ok (.lreturn, 1) := by decide +kernel
theorem dX3_lay_0 : decode cX3_lay 0 = .ok (.aload_n 0, 1) := by decide +kernel
theorem dX3_lay_1 : decode cX3_lay 1 = .ok (.getfield 15, 3) := by decide +kernel
theorem dX3_lay_4 : decode cX3_lay 4 = .ok (.iconst 5, 1) := by decide +kernel
theorem dX3_lay_5 : decode cX3_lay 5 = .ok (.if_icmp .ge 36, 3) := by decide +kernel
theorem dX3_lay_8 : decode cX3_lay 8 = .ok (.aload_n 0, 1) := by decide +kernel
theorem dX3_lay_9 : decode cX3_lay 9 = .ok (.getfield 9, 3) := by decide +kernel
theorem dX3_lay_12 : decode cX3_lay 12 = .ok (.aload_n 0, 1) := by decide +kernel
theorem dX3_lay_13 : decode cX3_lay 13 = .ok (.getfield 15, 3) := by decide +kernel
theorem dX3_lay_16 : decode cX3_lay 16 = .ok (.ldc2_w 66, 3) := by decide +kernel
theorem dX3_lay_19 : decode cX3_lay 19 = .ok (.ldc2_w 68, 3) := by decide +kernel
theorem dX3_lay_22 : decode cX3_lay 22 = .ok (.lload_n 1, 1) := by decide +kernel
theorem dX3_lay_23 : decode cX3_lay 23 = .ok (.invokestatic 70, 3) := by decide +kernel
theorem dX3_lay_26 : decode cX3_lay 26 = .ok (.invokestatic 76, 3) := by decide +kernel
theorem dX3_lay_29 : decode cX3_lay 29 = .ok (.l2i, 1) := by decide +kernel
theorem dX3_lay_30 : decode cX3_lay 30 = .ok (.iastore, 1) := by decide +kernel
theorem dX3_lay_31 : decode cX3_lay 31 = .ok (.aload_n 0, 1) := by decide +kernel
theorem dX3_lay_32 : decode cX3_lay 32 = .ok (.dup, 1) := by decide +kernel
theorem dX3_lay_33 : decode cX3_lay 33 = .ok (.getfield 15, 3) := by decide +kernel
theorem dX3_lay_36 : decode cX3_lay 36 = .ok (.iconst 1, 1) := by decide +kernel
theorem dX3_lay_37 : decode cX3_lay 37 = .ok (.iadd, 1) := by decide +kernel
theorem dX3_lay_38 : decode cX3_lay 38 = .ok (.putfield 15, 3) := by decide +kernel
theorem dX3_lay_41 : decode cX3_lay 41 = .ok (.return_, 1) := by decide +kernel
theorem dX3_take_0 : decode cX3_take 0 = .ok (.aload_n 0, 1) := by decide +kernel
theorem dX3_take_1 : decode cX3_take 1 = .ok (.getfield 15, 3) := by decide +kernel
theorem dX3_take_4 : decode cX3_take 4 = .ok (.ifCond .gt 5, 3) := by decide +kernel
theorem dX3_take_7 : decode cX3_take 7 = .ok (.iconst 0, 1) := by decide +kernel
theorem dX3_take_8 : decode cX3_take 8 = .ok (.ireturn, 1) := by decide +kernel
theorem dX3_take_9 : decode cX3_take 9 = .ok (.aload_n 0, 1) := by decide +kernel
theorem dX3_take_10 : decode cX3_take 10 = .ok (.dup, 1) := by decide +kernel
theorem dX3_take_11 : decode cX3_take 11 = .ok (.getfield 15, 3) := by decide +kernel
theorem dX3_take_14 : decode cX3_take 14 = .ok (.iconst 1, 1) := by decide +kernel
theorem dX3_take_15 : decode cX3_take 15 = .ok (.isub, 1) := by decide +kernel
theorem dX3_take_16 : decode cX3_take 16 = .ok (.putfield 15, 3) := by decide +kernel
theorem dX3_take_19 : decode cX3_take 19 = .ok (.aload_n 0, 1) := by decide +kernel
theorem dX3_take_20 : decode cX3_take 20 = .ok (.getfield 9, 3) := by decide +kernel
theorem dX3_take_23 : decode cX3_take 23 = .ok (.aload_n 0, 1) := by decide +kernel
theorem dX3_take_24 : decode cX3_take 24 = .ok (.getfield 15, 3) := by decide +kernel
theorem dX3_take_27 : decode cX3_take 27 = .ok (.iaload, 1) := by decide +kernel
theorem dX3_take_28 : decode cX3_take 28 = .ok (.ireturn, 1) := by decide +kernel
theorem dX4_init_0 : decode cX4_init 0 = .ok (.aload_n 0, 1) := by decide +kernel
theorem dX4_init_1 : decode cX4_init 1 = .ok (.invokespecial 3, 3) := by decide +kernel
theorem dX4_init_4 : decode cX4_init 4 = .ok (.aload_n 0, 1) := by decide +kernel
theorem dX4_init_5 : decode cX4_init 5 = .ok (.iconst 3, 1) := by decide +kernel
theorem dX4_init_6 : decode cX4_init 6 = .ok (.newarray .int, 2) := by decide +kernel
theorem dX4_init_8 : decode cX4_init 8 = .ok (.putfield 9, 3) := by decide +kernel
theorem dX4_init_11 : decode cX4_init 11 = .ok (.aload_n 0, 1) := by decide +kernel
theorem dX4_init_12 : decode cX4_init 12 = .ok (.iconst 1, 1) := by decide +kernel
theorem dX4_init_13 : decode cX4_init 13 = .ok (.putfield 15, 3) := by decide +kernel
theorem dX4_init_16 : decode cX4_init 16 = .ok (.aload_n 0, 1) := by decide +kernel
theorem dX4_init_17 : decode cX4_init 17 = .ok (.bipush 99, 2) := by decide +kernel
theorem dX4_init_19 : decode cX4_init 19 = .ok (.putfield 19, 3) := by decide +kernel
theorem dX4_init_22 : decode cX4_init 22 = .ok (.aload_n 0, 1) := by decide +kernel
theorem dX4_init_23 : decode cX4_init 23 = .ok (.aload_n 1, 1) := by decide +kernel
theorem dX4_init_24 : decode cX4_init 24 = .ok (.putfield 23, 3) := by decide +kernel
theorem dX4_init_27 : decode cX4_init 27 = .ok (.aload_n 0, 1) := by decide +kernel
theorem dX4_init_28 : decode cX4_init 28 = .ok (.iload_n 2, 1) := by decide +kernel
theorem dX4_init_29 : decode cX4_init 29 = .ok (.putfield 27, 3) := by decide +kernel
theorem dX4_init_32 : decode cX4_init 32 = .ok (.aload_n 0, 1) := by decide +kernel
theorem dX4_init_33 : decode cX4_init 33 = .ok (.iload_n 3, 1) := by decide +kernel
theorem dX4_init_34 : decode cX4_init 34 = .ok (.putfield 30, 3) := by decide +kernel
theorem dX4_init_37 : decode cX4_init 37 = .ok (.aload_n 0, 1) := by decide +kernel
theorem dX4_init_38 : decode cX4_init 38 = .ok (.iload 4, 2) := by decide +kernel
theorem dX4_init_40 : decode cX4_init 40 = .ok (.putfield 33, 3) := by decide +kernel
theorem dX4_init_43 : decode cX4_init 43 = .ok (.return_, 1) := by decide +kernel
theorem dX4_shut_0 : decode cX4_shut 0 = .ok (.aload_n 0, 1) := by decide +kernel
theorem dX4_shut_1 : decode cX4_shut 1 = .ok (.iconst 0, 1) := by decide +kernel
theorem dX4_shut_2 : decode cX4_shut 2 = .ok (.putfield 15, 3) := by decide +kernel
theorem dX4_shut_5 : decode cX4_shut 5 = .ok (.iconst 0, 1) := by decide +kernel
theorem dX4_shut_6 : decode cX4_shut 6 = .ok (.istore_n 1, 1) := by decide +kernel
theorem dX4_shut_7 : decode cX4_shut 7 = .ok (.iload_n 1, 1) := by decide +kernel
theorem dX4_shut_8 : decode cX4_shut 8 = .ok (.iconst 3, 1) := by decide +kernel
theorem dX4_shut_9 : decode cX4_shut 9 = .ok (.if_icmp .ge 16, 3) := by decide +kernel
theorem dX4_shut_12 : decode cX4_shut 12 = .ok (.aload_n 0, 1) := by decide +kernel
theorem dX4_shut_13 : decode cX4_shut 13 = .ok (.getfield 9, 3) := by decide +kernel
theorem dX4_shut_16 : decode cX4_shut 16 = .ok (.iload_n 1, 1) := by decide +kernel
theorem dX4_shut_17 : decode cX4_shut 17 = .ok (.iconst 0, 1) := by decide +kernel
theorem dX4_shut_18 : decode cX4_shut 18 = .ok (.iastore, 1) := by decide +kernel
theorem dX4_shut_19 : decode cX4_shut 19 = .ok (.iinc 1 1, 3) := by decide +kernel
theorem dX4_shut_22 : decode cX4_shut 22 = .ok (.goto (-15), 3) := by decide +kernel
theorem dX4_shut_25 : decode cX4_shut 25 = .ok (.return_, 1) := by decide +kernel
theorem dX5_init_0 : decode cX5_init 0 = .ok (.aload_n 0, 1) := by decide +kernel
theorem dX5_init_1 : decode cX5_init 1 = .ok (.invokespecial 1, 3) := by decide +kernel
theorem dX5_init_4 : decode cX5_init 4 = .ok (.aload_n 0, 1) := by decide +kernel
theorem dX5_init_5 : decode cX5_init 5 = .ok (.iload_n 1, 1) := by decide +kernel
theorem dX5_init_6 : decode cX5_init 6 = .ok (.putfield 7, 3) := by decide +kernel
theorem dX5_init_9 : decode cX5_init 9 = .ok (.aload_n 0, 1) := by decide +kernel
theorem dX5_init_10 : decode cX5_init 10 = .ok (.iload_n 2, 1) := by decide +kernel
theorem dX5_init_11 : decode cX5_init 11 = .ok (.putfield 13, 3) := by decide +kernel
theorem dX5_init_14 : decode cX5_init 14 = .ok (.return_, 1) := by decide +kernel
theorem dX5_farFrom_0 : decode cX5_farFrom 0 = .ok (.aload_n 0, 1) := by decide +kernel
theorem dX5_farFrom_1 : decode cX5_farFrom 1 = .ok (.getfield 7, 3) := by decide +kernel
theorem dX5_farFrom_4 : decode cX5_farFrom 4 = .ok (.aload_n 1, 1) := by decide +kernel
theorem dX5_farFrom_5 : decode cX5_farFrom 5 = .ok (.getfield 7, 3) := by decide +kernel
theorem dX5_farFrom_8 : decode cX5_farFrom 8 = .ok (.isub, 1) := by decide +kernel
theorem dX5_farFrom_9 : decode cX5_farFrom 9 = .ok (.invokestatic 16, 3) := by decide +kernel
theorem dX5_farFrom_12 : decode cX5_farFrom 12 = .ok (.aload_n 0, 1) := by decide +kernel
theorem dX5_farFrom_13 : decode cX5_farFrom 13 = .ok (.getfield 13, 3) := by decide +kernel
theorem dX5_farFrom_16 : decode cX5_farFrom 16 = .ok (.aload_n 1, 1) := by decide +kernel
theorem dX5_farFrom_17 : decode cX5_farFrom 17 = .ok (.getfield 13, 3) := by decide +kernel
theorem dX5_farFrom_20 : decode cX5_farFrom 20 = .ok (.isub, 1) := by decide +kernel
theorem dX5_farFrom_21 : decode cX5_farFrom 21 = .ok (.invokestatic 16, 3) := by decide +kernel
theorem dX5_farFrom_24 : decode cX5_farFrom 24 = .ok (.iadd, 1) := by decide +kernel
theorem dX5_farFrom_25 : decode cX5_farFrom 25 = .ok (.ireturn, 1) := by decide +kernel
theorem dX6_init_0 : decode cX6_init 0 = .ok (.aload_n 0, 1) := by decide +kernel
theorem dX6_init_1 : decode cX6_init 1 = .ok (.invokespecial 3, 3) := by decide +kernel
theorem dX6_init_4 : decode cX6_init 4 = .ok (.aload_n 0, 1) := by decide +kernel
theorem dX6_init_5 : decode cX6_init 5 = .ok (.iconst 3, 1) := by decide +kernel
theorem dX6_init_6 : decode cX6_init 6 = .ok (.iconst 5, 1) := by decide +kernel
theorem dX6_init_7 : decode cX6_init 7 = .ok (.multianewarray 9 2, 4) := by decide +kernel
theorem dX6_init_11 : decode cX6_init 11 = .ok (.putfield 11, 3) := by decide +kernel
theorem dX6_init_14 : decode cX6_init 14 = .ok (.aload_n 0, 1) := by decide +kernel
theorem dX6_init_15 : decode cX6_init 15 = .ok (.bipush 8, 2) := by decide +kernel
theorem dX6_init_17 : decode cX6_init 17 = .ok (.newarray .int, 2) := by decide +kernel
theorem dX6_init_19 : decode cX6_init 19 = .ok (.putfield 16, 3) := by decide +kernel
theorem dX6_init_22 : decode cX6_init 22 = .ok (.aload_n 0, 1) := by decide +kernel
theorem dX6_init_23 : decode cX6_init 23 = .ok (.bipush 8, 2) := by decide +kernel
theorem dX6_init_25 : decode cX6_init 25 = .ok (.newarray .boolean, 2) := by decide +kernel
theorem dX6_init_27 : decode cX6_init 27 = .ok (.putfield 20, 3) := by decide +kernel
theorem dX6_init_30 : decode cX6_init 30 = .ok (.aload_n 0, 1) := by decide +kernel
theorem dX6_init_31 : decode cX6_init 31 = .ok (.bipush 48, 2) := by decide +kernel
theorem dX6_init_33 : decode cX6_init 33 = .ok (.iconst 3, 1) := by decide +kernel
theorem dX6_init_34 : decode cX6_init 34 = .ok (.multianewarray 9 2, 4) := by decide +kernel
theorem dX6_init_38 : decode cX6_init 38 = .ok (.putfield 24, 3) := by decide +kernel
theorem dX6_init_41 : decode cX6_init 41 = .ok (.aload_n 0, 1) := by decide +kernel
theorem dX6_init_42 : decode cX6_init 42 = .ok (.bipush 9, 2) := by decide +kernel
theorem dX6_init_44 : decode cX6_init 44 = .ok (.iconst 3, 1) := by decide +kernel
theorem dX6_init_45 : decode cX6_init 45 = .ok (.multianewarray 9 2, 4) := by decide +kernel
theorem dX6_init_49 : decode cX6_init 49 = .ok (.putfield 27, 3) := by decide +kernel
theorem dX6_init_52 : decode cX6_init 52 = .ok (.aload_n 0, 1) := by decide +kernel
theorem dX6_init_53 : decode cX6_init 53 = .ok (.bipush 9, 2) := by decide +kernel
theorem dX6_init_55 : decode cX6_init 55 = .ok (.iconst 3, 1) := by decide +kernel
theorem dX6_init_56 : decode cX6_init 56 = .ok (.multianewarray 9 2, 4) := by decide +kernel
theorem dX6_init_60 : decode cX6_init 60 = .ok (.putfield 30, 3) := by decide +kernel
theorem dX6_init_63 : decode cX6_init 63 = .ok (.aload_n 0, 1) := by decide +kernel
theorem dX6_init_64 : decode cX6_init 64 = .ok (.bipush 8, 2) := by decide +kernel
theorem dX6_init_66 : decode cX6_init 66 = .ok (.newarray .int, 2) := by decide +kernel
theorem dX6_init_68 : decode cX6_init 68 = .ok (.putfield 33, 3) := by decide +kernel
theorem dX6_init_71 : decode cX6_init 71 = .ok (.aload_n 0, 1) := by decide +kernel
theorem dX6_init_72 : decode cX6_init 72 = .ok (.bipush 6, 2) := by decide +kernel
theorem dX6_init_74 : decode cX6_init 74 = .ok (.newarray .int, 2) := by decide +kernel
theorem dX6_init_76 : decode cX6_init 76 = .ok (.putfield 36, 3) := by decide +kernel
theorem dX6_init_79 : decode cX6_init 79 = .ok (.iconst 0, 1) := by decide +kernel
theorem dX6_init_80 : decode cX6_init 80 = .ok (.istore_n 1, 1) := by decide +kernel
theorem dX6_init_81 : decode cX6_init 81 = .ok (.iload_n 1, 1) := by decide +kernel
theorem dX6_init_82 : decode cX6_init 82 = .ok (.iconst 3, 1) := by decide +kernel
theorem dX6_init_83 : decode cX6_init 83 = .ok (.if_icmp .ge 32, 3) := by decide +kernel
theorem dX6_init_86 : decode cX6_init 86 = .ok (.iconst 0, 1) := by decide +kernel
theorem dX6_init_87 : decode cX6_init 87 = .ok (.istore_n 2, 1) := by decide +kernel
theorem dX6_init_88 : decode cX6_init 88 = .ok (.iload_n 2, 1) := by decide +kernel
theorem dX6_init_89 : decode cX6_init 89 = .ok (.iconst 5, 1) := by decide +kernel
theorem dX6_init_90 : decode cX6_init 90 = .ok (.if_icmp .ge 19, 3) := by decide +kernel
theorem dX6_init_93 : decode cX6_init 93 = .ok (.aload_n 0, 1) := by decide +kernel
theorem dX6_init_94 : decode cX6_init 94 = .ok (.getfield 11, 3) := by decide +kernel
theorem dX6_init_97 : decode cX6_init 97 = .ok (.iload_n 1, 1) := by decide +kernel
theorem dX6_init_98 : decode cX6_init 98 = .ok (.aaload, 1) := by decide +kernel
theorem dX6_init_99 : decode cX6_init 99 = .ok (.iload_n 2, 1) := by decide +kernel
theorem dX6_init_100 : decode cX6_init 100 = .ok (.bipush 100, 2) := by decide +kernel
theorem dX6_init_102 : decode cX6_init 102 = .ok (.iastore, 1) := by decide +kernel
theorem dX6_init_103 : decode cX6_init 103 = .ok (.iinc 2 1, 3) := by decide +kernel
theorem dX6_init_106 : decode cX6_init 106 = .ok (.goto (-18), 3) := by decide +kernel
theorem dX6_init_109 : decode cX6_init 109 = .ok (.iinc 1 1, 3) := by decide +kernel
theorem dX6_init_112 : decode cX6_init 112 = .ok (.goto (-31), 3) := by decide +kernel
theorem dX6_init_115 : decode cX6_init 115 = .ok (.return_, 1) := by decide +kernel
theorem dX6_prepare_0 : decode cX6_prepare 0 = .ok (.aload_n 0, 1) := by decide +kernel
theorem dX6_prepare_1 : decode cX6_prepare 1 = .ok (.iload_n 2, 1) := by decide +kernel
theorem dX6_prepare_2 : decode cX6_prepare 2 = .ok (.putfield 39, 3) := by decide +kernel
theorem dX6_prepare_5 : decode cX6_prepare 5 = .ok (.aload_n 0, 1) := by decide +kernel
theorem dX6_prepare_6 : decode cX6_prepare 6 = .ok (.aload_n 3, 1) := by decide +kernel
theorem dX6_prepare_7 : decode cX6_prepare 7 = .ok (.iconst 5, 1) := by decide +kernel
theorem dX6_prepare_8 : decode cX6_prepare 8 = .ok (.iaload, 1) := by decide +kernel
theorem dX6_prepare_9 : decode cX6_prepare 9 = .ok (.putfield 43, 3) := by decide +kernel
theorem dX6_prepare_12 : decode cX6_prepare 12 = .ok (.aload_n 0, 1) := by decide +kernel
theorem dX6_prepare_13 : decode cX6_prepare 13 = .ok (.aload_n 3, 1) := by decide +kernel
theorem dX6_prepare_14 : decode cX6_prepare 14 = .ok (.iconst 3, 1) := by decide +kernel
theorem dX6_prepare_15 : decode cX6_prepare 15 = .ok (.iaload, 1) := by decide +kernel
theorem dX6_prepare_16 : decode cX6_prepare 16 = .ok (.putfield 46, 3) := by decide +kernel
theorem dX6_prepare_19 : decode cX6_prepare 19 = .ok (.aload_n 0, 1) := by decide +kernel
theorem dX6_prepare_20 : decode cX6_prepare 20 = .ok (.aload_n 3, 1) := by decide +kernel
theorem dX6_prepare_21 : decode cX6_prepare 21 = .ok (.iconst 4, 1) := by decide +kernel
theorem dX6_prepare_22 : decode cX6_prepare 22 = .ok (.iaload, 1) := by decide +kernel
theorem dX6_prepare_23 : decode cX6_prepare 23 = .ok (.putfield 49, 3) := by decide +kernel
theorem dX6_prepare_26 : decode cX6_prepare 26 = .ok (.iconst 0, 1) := by decide +kernel
theorem dX6_prepare_27 : decode cX6_prepare 27 = .ok (.istore 4, 2) := by decide +kernel
theorem dX6_prepare_29 : decode cX6_prepare 29 = .ok (.iload 4, 2) := by decide +kernel
theorem dX6_prepare_31 : decode cX6_prepare 31 = .ok (.aload_n 0, 1) := by decide +kernel
theorem dX6_prepare_32 : decode cX6_prepare 32 = .ok (.getfield 39, 3) := by decide +kernel
theorem dX6_prepare_35 : decode cX6_prepare 35 = .ok (.if_icmp .ge 79, 3) := by decide +kernel
theorem dX6_prepare_38 : decode cX6_prepare 38 = .ok (.aload_n 0, 1) := by decide +kernel
theorem dX6_prepare_39 : decode cX6_prepare 39 = .ok (.getfield 16, 3) := by decide +kernel
theorem dX6_prepare_42 : decode cX6_prepare 42 = .ok (.iload 4, 2) := by decide +kernel
theorem dX6_prepare_44 : decode cX6_prepare 44 = .ok (.aload_n 1, 1) := by decide +kernel
theorem dX6_prepare_45 : decode cX6_prepare 45 = .ok (.iload 4, 2) := by decide +kernel
theorem dX6_prepare_47 : decode cX6_prepare 47 = .ok (.aaload, 1) := by decide +kernel
theorem dX6_prepare_48 : decode cX6_prepare 48 = .ok (.getfield 52, 3) := by decide +kernel
theorem dX6_prepare_51 : decode cX6_prepare 51 = .ok (.iastore, 1) := by decide +kernel
theorem dX6_prepare_52 : decode cX6_prepare 52 = .ok (.aload_n 0, 1) := by decide +kernel
theorem dX6_prepare_53 : decode cX6_prepare 53 = .ok (.getfield 20, 3) := by decide +kernel
theorem dX6_prepare_56 : decode cX6_prepare 56 = .ok (.iload 4, 2) := by decide +kernel
theorem dX6_prepare_58 : decode cX6_prepare 58 = .ok (.aload_n 1, 1) := by decide +kernel
theorem dX6_prepare_59 : decode cX6_prepare 59 = .ok (.iload 4, 2) := by decide +kernel
theorem dX6_prepare_61 : decode cX6_prepare 61 = .ok (.aaload, 1) := by decide +kernel
theorem dX6_prepare_62 : decode cX6_prepare 62 = .ok (.getfield 56, 3) := by decide +kernel
theorem dX6_prepare_65 : decode cX6_prepare 65 = .ok (.bastore, 1) := by decide +kernel
theorem dX6_prepare_66 : decode cX6_prepare 66 = .ok (.iconst 0, 1) := by decide +kernel
theorem dX6_prepare_67 : decode cX6_prepare 67 = .ok (.istore 5, 2) := by decide +kernel
theorem dX6_prepare_69 : decode cX6_prepare 69 = .ok (.iload 5, 2) := by decide +kernel
theorem dX6_prepare_71 : decode cX6_prepare 71 = .ok (.bipush 6, 2) := by decide +kernel
theorem dX6_prepare_73 : decode cX6_prepare 73 = .ok (.if_icmp .ge 35, 3) := by decide +kernel
theorem dX6_prepare_76 : decode cX6_prepare 76 = .ok (.aload_n 0, 1) := by decide +kernel
theorem dX6_prepare_77 : decode cX6_prepare 77 = .ok (.aload_n 0, 1) := by decide +kernel
theorem dX6_prepare_78 : decode cX6_prepare 78 = .ok (.getfield 24, 3) := by decide +kernel
theorem dX6_prepare_81 : decode cX6_prepare 81 = .ok (.iload 4, 2) := by decide +kernel
theorem dX6_prepare_83 : decode cX6_prepare 83 = .ok (.bipush 6, 2) := by decide +kernel
theorem dX6_prepare_85 : decode cX6_prepare 85 = .ok (.imul, 1) := by decide +kernel
theorem dX6_prepare_86 : decode cX6_prepare 86 = .ok (.iload 5, 2) := by decide +kernel
theorem dX6_prepare_88 : decode cX6_prepare 88 = .ok (.iadd, 1) := by decide +kernel
theorem dX6_prepare_89 : decode cX6_prepare 89 = .ok (.aaload, 1) := by decide +kernel
theorem dX6_prepare_90 : decode cX6_prepare 90 = .ok (.aload_n 1, 1) := by decide +kernel
theorem dX6_prepare_91 : decode cX6_prepare 91 = .ok (.iload 4, 2) := by decide +kernel
theorem dX6_prepare_93 : decode cX6_prepare 93 = .ok (.aaload, 1) := by decide +kernel
theorem dX6_prepare_94 : decode cX6_prepare 94 = .ok (.iload 5, 2) := by decide +kernel
theorem dX6_prepare_96 : decode cX6_prepare 96 = .ok (.aload_n 3, 1) := by decide +kernel
theorem dX6_prepare_97 : decode cX6_prepare 97 = .ok (.iconst 2, 1) := by decide +kernel
theorem dX6_prepare_98 : decode cX6_prepare 98 = .ok (.iaload, 1) := by decide +kernel
theorem dX6_prepare_99 : decode cX6_prepare 99 = .ok (.invokevirtual 59, 3) := by decide +kernel
theorem dX6_prepare_102 : decode cX6_prepare 102 = .ok (.iinc 5 1, 3) := by decide +kernel
theorem dX6_prepare_105 : decode cX6_prepare 105 = .ok (.goto (-36), 3) := by decide +kernel
theorem dX6_prepare_108 : decode cX6_prepare 108 = .ok (.iinc 4 1, 3) := by decide +kernel
theorem dX6_prepare_111 : decode cX6_prepare 111 = .ok (.goto (-82), 3) := by decide +kernel
theorem dX6_prepare_114 : decode cX6_prepare 114 = .ok (.return_, 1) := by decide +kernel
theorem dX6_fillCosts_0 : decode cX6_fillCosts 0 = .ok (.iconst 0, 1) := by decide +kernel
theorem dX6_fillCosts_1 : decode cX6_fillCosts 1 = .ok (.istore 5, 2) := by decide +kernel
theorem dX6_fillCosts_3 : decode cX6_fillCosts 3 = .ok (.iload 5, 2) := by decide +kernel
theorem dX6_fillCosts_5 : decode cX6_fillCosts 5 = .ok (.iconst 3, 1) := by decide +kernel
theorem dX6_fillCosts_6 : decode cX6_fillCosts 6 = .ok (.if_icmp .ge 74, 3) := by decide +kernel
theorem dX6_fillCosts_9 : decode cX6_fillCosts 9 = .ok (.aload_n 1, 1) := by decide +kernel
theorem dX6_fillCosts_10 : decode cX6_fillCosts 10 = .ok (.iload 5, 2) := by decide +kernel
theorem dX6_fillCosts_12 : decode cX6_fillCosts 12 = .ok (.iconst 0, 1) := by decide +kernel
theorem dX6_fillCosts_13 : decode cX6_fillCosts 13 = .ok (.iastore, 1) := by decide +kernel
theorem dX6_fillCosts_14 : decode cX6_fillCosts 14 = .ok (.iconst 0, 1) := by decide +kernel
theorem dX6_fillCosts_15 : decode cX6_fillCosts 15 = .ok (.istore 6, 2) := by decide +kernel
theorem dX6_fillCosts_17 : decode cX6_fillCosts 17 = .ok (.iload 6, 2) := by decide +kernel
theorem dX6_fillCosts_19 : decode cX6_fillCosts 19 = .ok (.aload_n 0, 1) := by decide +kernel
theorem dX6_fillCosts_20 : decode cX6_fillCosts 20 = .ok (.getfield 43, 3) := by decide +kernel
theorem dX6_fillCosts_23 : decode cX6_fillCosts 23 = .ok (.if_icmp .ge 51, 3) := by decide +kernel
theorem dX6_fillCosts_26 : decode cX6_fillCosts 26 = .ok (.aload_n 1, 1) := by decide +kernel
theorem dX6_fillCosts_27 : decode cX6_fillCosts 27 = .ok (.iload 5, 2) := by decide +kernel
theorem dX6_fillCosts_29 : decode cX6_fillCosts 29 = .ok (.dup2, 1) := by decide +kernel
theorem dX6_fillCosts_30 : decode cX6_fillCosts 30 = .ok (.iaload, 1) := by decide +kernel
theorem dX6_fillCosts_31 : decode cX6_fillCosts 31 = .ok (.iload 6, 2) := by decide +kernel
theorem dX6_fillCosts_33 : decode cX6_fillCosts 33 = .ok (.iload_n 3, 1) := by decide +kernel
theorem dX6_fillCosts_34 : decode cX6_fillCosts 34 = .ok (.if_icmp .ge 30, 3) := by decide +kernel
theorem dX6_fillCosts_37 : decode cX6_fillCosts 37 = .ok (.aload_n 2, 1) := by decide +kernel
theorem dX6_fillCosts_38 : decode cX6_fillCosts 38 = .ok (.getfield 52, 3) := by decide +kernel
theorem dX6_fillCosts_41 : decode cX6_fillCosts 41 = .ok (.iconst 0, 1) := by decide +kernel
theorem dX6_fillCosts_42 : decode cX6_fillCosts 42 = .ok (.aload_n 2, 1) := by decide +kernel
theorem dX6_fillCosts_43 : decode cX6_fillCosts 43 = .ok (.getfield 63, 3) := by decide +kernel
theorem dX6_fillCosts_46 : decode cX6_fillCosts 46 = .ok (.aload_n 0, 1) := by decide +kernel
theorem dX6_fillCosts_47 : decode cX6_fillCosts 47 = .ok (.getfield 11, 3) := by decide +kernel
theorem dX6_fillCosts_50 : decode cX6_fillCosts 50 = .ok (.iload 5, 2) := by decide +kernel
theorem dX6_fillCosts_52 : decode cX6_fillCosts 52 = .ok (.aaload, 1) := by decide +kernel
theorem dX6_fillCosts_53 : decode cX6_fillCosts 53 = .ok (.iload 6, 2) := by decide +kernel
theorem dX6_fillCosts_55 : decode cX6_fillCosts 55 = .ok (.iaload, 1) := by decide +kernel
theorem dX6_fillCosts_56 : decode cX6_fillCosts 56 = .ok (.isub, 1) := by decide +kernel
theorem dX6_fillCosts_57 : decode cX6_fillCosts 57 = .ok (.invokestatic 66, 3) := by decide +kernel
theorem dX6_fillCosts_60 : decode cX6_fillCosts 60 = .ok (.imul, 1) := by decide +kernel
theorem dX6_fillCosts_61 : decode cX6_fillCosts 61 = .ok (.goto 5, 3) := by decide +kernel
theorem dX6_fillCosts_64 : decode cX6_fillCosts 64 = .ok (.iload 4, 2) := by decide +kernel
theorem dX6_fillCosts_66 : decode cX6_fillCosts 66 = .ok (.iadd, 1) := by decide +kernel
theorem dX6_fillCosts_67 : decode cX6_fillCosts 67 = .ok (.iastore, 1) := by decide +kernel
theorem dX6_fillCosts_68 : decode cX6_fillCosts 68 = .ok (.iinc 6 1, 3) := by decide +kernel
theorem dX6_fillCosts_71 : decode cX6_fillCosts 71 = .ok (.goto (-54), 3) := by decide +kernel
theorem dX6_fillCosts_74 : decode cX6_fillCosts 74 = .ok (.iinc 5 1, 3) := by decide +kernel
theorem dX6_fillCosts_77 : decode cX6_fillCosts 77 = .ok (.goto (-74), 3) := by decide +kernel
theorem dX6_fillCosts_80 : decode cX6_fillCosts 80 = .ok (.return_, 1) := by decide +kernel
theorem dX6_readDigits_0 : decode cX6_readDigits 0 = .ok (.iload_n 1, 1) := by decide +kernel
theorem dX6_readDigits_1 : decode cX6_readDigits 1 = .ok (.istore_n 2, 1) := by decide +kernel
theorem dX6_readDigits_2 : decode cX6_readDigits 2 = .ok (.aload_n 0, 1) := by decide +kernel
theorem dX6_readDigits_3 : decode cX6_readDigits 3 = .ok (.getfield 39, 3) := by decide +kernel
theorem dX6_readDigits_6 : decode cX6_readDigits 6 = .ok (.iconst 1, 1) := by decide +kernel
theorem dX6_readDigits_7 : decode cX6_readDigits 7 = .ok (.isub, 1) := by decide +kernel
theorem dX6_readDigits_8 : decode cX6_readDigits 8 = .ok (.istore_n 3, 1) := by decide +kernel
theorem dX6_readDigits_9 : decode cX6_readDigits 9 = .ok (.iload_n 3, 1) := by decide +kernel
theorem dX6_readDigits_10 : decode cX6_readDigits 10 = .ok (.ifCond .lt 63, 3) := by decide +kernel
theorem dX6_readDigits_13 : decode cX6_readDigits 13 = .ok (.aload_n 0, 1) := by decide +kernel
theorem dX6_readDigits_14 : decode cX6_readDigits 14 = .ok (.getfield 33, 3) := by decide +kernel
theorem dX6_readDigits_17 : decode cX6_readDigits 17 = .ok (.iload_n 3, 1) := by decide +kernel
theorem dX6_readDigits_18 : decode cX6_readDigits 18 = .ok (.iload_n 2, 1) := by decide +kernel
theorem dX6_readDigits_19 : decode cX6_readDigits 19 = .ok (.bipush 10, 2) := by decide +kernel
theorem dX6_readDigits_21 : decode cX6_readDigits 21 = .ok (.irem, 1) := by decide +kernel
theorem dX6_readDigits_22 : decode cX6_readDigits 22 = .ok (.iastore, 1) := by decide +kernel
theorem dX6_readDigits_23 : decode cX6_readDigits 23 = .ok (.iload_n 2, 1) := by decide +kernel
theorem dX6_readDigits_24 : decode cX6_readDigits 24 = .ok (.bipush 10, 2) := by decide +kernel
theorem dX6_readDigits_26 : decode cX6_readDigits 26 = .ok (.idiv, 1) := by decide +kernel
theorem dX6_readDigits_27 : decode cX6_readDigits 27 = .ok (.istore_n 2, 1) := by decide +kernel
theorem dX6_readDigits_28 : decode cX6_readDigits 28 = .ok (.aload_n 0, 1) := by decide +kernel
theorem dX6_readDigits_29 : decode cX6_readDigits 29 = .ok (.getfield 33, 3) := by decide +kernel
theorem dX6_readDigits_32 : decode cX6_readDigits 32 = .ok (.iload_n 3, 1) := by decide +kernel
theorem dX6_readDigits_33 : decode cX6_readDigits 33 = .ok (.iaload, 1) := by decide +kernel
theorem dX6_readDigits_34 : decode cX6_readDigits 34 = .ok (.ifCond .lt 31, 3) := by decide +kernel
theorem dX6_readDigits_37 : decode cX6_readDigits 37 = .ok (.aload_n 0, 1) := by decide +kernel
theorem dX6_readDigits_38 : decode cX6_readDigits 38 = .ok (.getfield 33, 3) := by decide +kernel
theorem dX6_readDigits_41 : decode cX6_readDigits 41 = .ok (.iload_n 3, 1) := by decide +kernel
theorem dX6_readDigits_42 : decode cX6_readDigits 42 = .ok (.iaload, 1) := by decide +kernel
theorem dX6_readDigits_43 : decode cX6_readDigits 43 = .ok (.iconst 5, 1) := by decide +kernel
theorem dX6_readDigits_44 : decode cX6_readDigits 44 = .ok (.if_icmp .gt 21, 3) := by decide +kernel
theorem dX6_readDigits_47 : decode cX6_readDigits 47 = .ok (.aload_n 0, 1) := by decide +kernel
theorem dX6_readDigits_48 : decode cX6_readDigits 48 = .ok (.getfield 20, 3) := by decide +kernel
theorem dX6_readDigits_51 : decode cX6_readDigits 51 = .ok (.iload_n 3, 1) := by decide +kernel
theorem dX6_readDigits_52 : decode cX6_readDigits 52 = .ok (.baload, 1) := by decide +kernel
theorem dX6_readDigits_53 : decode cX6_readDigits 53 = .ok (.ifCond .ne 14, 3) := by decide +kernel
theorem dX6_readDigits_56 : decode cX6_readDigits 56 = .ok (.aload_n 0, 1) := by decide +kernel
theorem dX6_readDigits_57 : decode cX6_readDigits 57 = .ok (.getfield 33, 3) := by decide +kernel
theorem dX6_readDigits_60 : decode cX6_readDigits 60 = .ok (.iload_n 3, 1) := by decide +kernel
theorem dX6_readDigits_61 : decode cX6_readDigits 61 = .ok (.iaload, 1) := by decide +kernel
theorem dX6_readDigits_62 : decode cX6_readDigits 62 = .ok (.ifCond .eq 5, 3) := by decide +kernel
theorem dX6_readDigits_65 : decode cX6_readDigits 65 = .ok (.iconst 0, 1) := by decide +kernel
theorem dX6_readDigits_66 : decode cX6_readDigits 66 = .ok (.ireturn, 1) := by decide +kernel
theorem dX6_readDigits_67 : decode cX6_readDigits 67 = .ok (.iinc 3 (-1), 3) := by decide +kernel
theorem dX6_readDigits_70 : decode cX6_readDigits 70 = .ok (.goto (-61), 3) := by decide +kernel
theorem dX6_readDigits_73 : decode cX6_readDigits 73 = .ok (.iload_n 2, 1) := by decide +kernel
theorem dX6_readDigits_74 : decode cX6_readDigits 74 = .ok (.ifCond .ne 7, 3) := by decide +kernel
theorem dX6_readDigits_77 : decode cX6_readDigits 77 = .ok (.iconst 1, 1) := by decide +kernel
theorem dX6_readDigits_78 : decode cX6_readDigits 78 = .ok (.goto 4, 3) := by decide +kernel
theorem dX6_readDigits_81 : decode cX6_readDigits 81 = .ok (.iconst 0, 1) := by decide +kernel
theorem dX6_readDigits_82 : decode cX6_readDigits 82 = .ok (.ireturn, 1) := by decide +kernel
theorem dX6_isKept_0 : decode cX6_isKept 0 = .ok (.aload_n 0, 1) := by decide +kernel
theorem dX6_isKept_1 : decode cX6_isKept 1 = .ok (.invokevirtual 72, 3) := by decide +kernel
theorem dX6_isKept_4 : decode cX6_isKept 4 = .ok (.iconst 0, 1) := by decide +kernel
theorem dX6_isKept_5 : decode cX6_isKept 5 = .ok (.istore_n 1, 1) := by decide +kernel
theorem dX6_isKept_6 : decode cX6_isKept 6 = .ok (.iload_n 1, 1) := by decide +kernel
theorem dX6_isKept_7 : decode cX6_isKept 7 = .ok (.aload_n 0, 1) := by decide +kernel
theorem dX6_isKept_8 : decode cX6_isKept 8 = .ok (.getfield 39, 3) := by decide +kernel
theorem dX6_isKept_11 : decode cX6_isKept 11 = .ok (.if_icmp .ge 36, 3) := by decide +kernel
theorem dX6_isKept_14 : decode cX6_isKept 14 = .ok (.aload_n 0, 1) := by decide +kernel
theorem dX6_isKept_15 : decode cX6_isKept 15 = .ok (.iload_n 1, 1) := by decide +kernel
theorem dX6_isKept_16 : decode cX6_isKept 16 = .ok (.aload_n 0, 1) := by decide +kernel
theorem dX6_isKept_17 : decode cX6_isKept 17 = .ok (.getfield 33, 3) := by decide +kernel
theorem dX6_isKept_20 : decode cX6_isKept 20 = .ok (.iload_n 1, 1) := by decide +kernel
theorem dX6_isKept_21 : decode cX6_isKept 21 = .ok (.iaload, 1) := by decide +kernel
theorem dX6_isKept_22 : decode cX6_isKept 22 = .ok (.invokevirtual 75, 3) := by decide +kernel
theorem dX6_isKept_25 : decode cX6_isKept 25 = .ok (.ifCond .ne 5, 3) := by decide +kernel
theorem dX6_isKept_28 : decode cX6_isKept 28 = .ok (.iconst 0, 1) := by decide +kernel
theorem dX6_isKept_29 : decode cX6_isKept 29 = .ok (.ireturn, 1) := by decide +kernel
theorem dX6_isKept_30 : decode cX6_isKept 30 = .ok (.aload_n 0, 1) := by decide +kernel
theorem dX6_isKept_31 : decode cX6_isKept 31 = .ok (.iload_n 1, 1) := by decide +kernel
theorem dX6_isKept_32 : decode cX6_isKept 32 = .ok (.aload_n 0, 1) := by decide +kernel
theorem dX6_isKept_33 : decode cX6_isKept 33 = .ok (.getfield 33, 3) := by decide +kernel
theorem dX6_isKept_36 : decode cX6_isKept 36 = .ok (.iload_n 1, 1) := by decide +kernel
theorem dX6_isKept_37 : decode cX6_isKept 37 = .ok (.iaload, 1) := by decide +kernel
theorem dX6_isKept_38 : decode cX6_isKept 38 = .ok (.invokevirtual 79, 3) := by decide +kernel
theorem dX6_isKept_41 : decode cX6_isKept 41 = .ok (.iinc 1 1, 3) := by decide +kernel
theorem dX6_isKept_44 : decode cX6_isKept 44 = .ok (.goto (-38), 3) := by decide +kernel
theorem dX6_isKept_47 : decode cX6_isKept 47 = .ok (.aload_n 0, 1) := by decide +kernel
theorem dX6_isKept_48 : decode cX6_isKept 48 = .ok (.getfield 83, 3) := by decide +kernel
theorem dX6_isKept_51 : decode cX6_isKept 51 = .ok (.aload_n 0, 1) := by decide +kernel
theorem dX6_isKept_52 : decode cX6_isKept 52 = .ok (.getfield 46, 3) := by decide +kernel
theorem dX6_isKept_55 : decode cX6_isKept 55 = .ok (.if_icmp .lt 7, 3) := by decide +kernel
theorem dX6_isKept_58 : decode cX6_isKept 58 = .ok (.iconst 1, 1) := by decide +kernel
theorem dX6_isKept_59 : decode cX6_isKept 59 = .ok (.goto 4, 3) := by decide +kernel
theorem dX6_isKept_62 : decode cX6_isKept 62 = .ok (.iconst 0, 1) := by decide +kernel
theorem dX6_isKept_63 : decode cX6_isKept 63 = .ok (.ireturn, 1) := by decide +kernel
theorem dX6_costByRow_0 : decode cX6_costByRow 0 = .ok (.iconst 0, 1) := by decide +kernel
theorem dX6_costByRow_1 : decode cX6_costByRow 1 = .ok (.istore_n 2, 1) := by decide +kernel
theorem dX6_costByRow_2 : decode cX6_costByRow 2 = .ok (.iconst 0, 1) := by decide +kernel
theorem dX6_costByRow_3 : decode cX6_costByRow 3 = .ok (.istore_n 3, 1) := by decide +kernel
theorem dX6_costByRow_4 : decode cX6_costByRow 4 = .ok (.iload_n 3, 1) := by decide +kernel
theorem dX6_costByRow_5 : decode cX6_costByRow 5 = .ok (.aload_n 0, 1) := by decide +kernel
theorem dX6_costByRow_6 : decode cX6_costByRow 6 = .ok (.getfield 39, 3) := by decide +kernel
theorem dX6_costByRow_9 : decode cX6_costByRow 9 = .ok (.if_icmp .ge 30, 3) := by decide +kernel
theorem dX6_costByRow_12 : decode cX6_costByRow 12 = .ok (.iload_n 2, 1) := by decide +kernel
theorem dX6_costByRow_13 : decode cX6_costByRow 13 = .ok (.aload_n 0, 1) := by decide +kernel
theorem dX6_costByRow_14 : decode cX6_costByRow 14 = .ok (.getfield 24, 3) := by decide +kernel
theorem dX6_costByRow_17 : decode cX6_costByRow 17 = .ok (.iload_n 3, 1) := by decide +kernel
theorem dX6_costByRow_18 : decode cX6_costByRow 18 = .ok (.bipush 6, 2) := by decide +kernel
theorem dX6_costByRow_20 : decode cX6_costByRow 20 = .ok (.imul, 1) := by decide +kernel
theorem dX6_costByRow_21 : decode cX6_costByRow 21 = .ok (.aload_n 0, 1) := by decide +kernel
theorem dX6_costByRow_22 : decode cX6_costByRow 22 = .ok (.getfield 33, 3) := by decide +kernel
theorem dX6_costByRow_25 : decode cX6_costByRow 25 = .ok (.iload_n 3, 1) := by decide +kernel
theorem dX6_costByRow_26 : decode cX6_costByRow 26 = .ok (.iaload, 1) := by decide +kernel
theorem dX6_costByRow_27 : decode cX6_costByRow 27 = .ok (.iadd, 1) := by decide +kernel
theorem dX6_costByRow_28 : decode cX6_costByRow 28 = .ok (.aaload, 1) := by decide +kernel
theorem dX6_costByRow_29 : decode cX6_costByRow 29 = .ok (.iload_n 1, 1) := by decide +kernel
theorem dX6_costByRow_30 : decode cX6_costByRow 30 = .ok (.iaload, 1) := by decide +kernel
theorem dX6_costByRow_31 : decode cX6_costByRow 31 = .ok (.iadd, 1) := by decide +kernel
theorem dX6_costByRow_32 : decode cX6_costByRow 32 = .ok (.istore_n 2, 1) := by decide +kernel
theorem dX6_costByRow_33 : decode cX6_costByRow 33 = .ok (.iinc 3 1, 3) := by decide +kernel
theorem dX6_costByRow_36 : decode cX6_costByRow 36 = .ok (.goto (-32), 3) := by decide +kernel
theorem dX6_costByRow_39 : decode cX6_costByRow 39 = .ok (.iload_n 2, 1) := by decide +kernel
theorem dX6_costByRow_40 : decode cX6_costByRow 40 = .ok (.ireturn, 1) := by decide +kernel
theorem dX6_worstRow_0 : decode cX6_worstRow 0 = .ok (.iconst 0, 1) := by decide +kernel
theorem dX6_worstRow_1 : decode cX6_worstRow 1 = .ok (.istore_n 1, 1) := by decide +kernel
theorem dX6_worstRow_2 : decode cX6_worstRow 2 = .ok (.iconst 1, 1) := by decide +kernel
theorem dX6_worstRow_3 : decode cX6_worstRow 3 = .ok (.istore_n 2, 1) := by decide +kernel
theorem dX6_worstRow_4 : decode cX6_worstRow 4 = .ok (.iload_n 2, 1) := by decide +kernel
theorem dX6_worstRow_5 : decode cX6_worstRow 5 = .ok (.iconst 3, 1) := by decide +kernel
theorem dX6_worstRow_6 : decode cX6_worstRow 6 = .ok (.if_icmp .ge 24, 3) := by decide +kernel
theorem dX6_worstRow_9 : decode cX6_worstRow 9 = .ok (.aload_n 0, 1) := by decide +kernel
theorem dX6_worstRow_10 : decode cX6_worstRow 10 = .ok (.iload_n 2, 1) := by decide +kernel
theorem dX6_worstRow_11 : decode cX6_worstRow 11 = .ok (.invokevirtual 86, 3) := by decide +kernel
theorem dX6_worstRow_14 : decode cX6_worstRow 14 = .ok (.aload_n 0, 1) := by decide +kernel
theorem dX6_worstRow_15 : decode cX6_worstRow 15 = .ok (.iload_n 1, 1) := by decide +kernel
theorem dX6_worstRow_16 : decode cX6_worstRow 16 = .ok (.invokevirtual 86, 3) := by decide +kernel
theorem dX6_worstRow_19 : decode cX6_worstRow 19 = .ok (.if_icmp .le 5, 3) := by decide +kernel
theorem dX6_worstRow_22 : decode cX6_worstRow 22 = .ok (.iload_n 2, 1) := by decide +kernel
theorem dX6_worstRow_23 : decode cX6_worstRow 23 = .ok (.istore_n 1, 1) := by decide +kernel
theorem dX6_worstRow_24 : decode cX6_worstRow 24 = .ok (.iinc 2 1, 3) := by decide +kernel
theorem dX6_worstRow_27 : decode cX6_worstRow 27 = .ok (.goto (-23), 3) := by decide +kernel
theorem dX6_worstRow_30 : decode cX6_worstRow 30 = .ok (.iload_n 1, 1) := by decide +kernel
theorem dX6_worstRow_31 : decode cX6_worstRow 31 = .ok (.ireturn, 1) := by decide +kernel
theorem dX6_startClosings_0 : decode cX6_startClosings 0 = .ok (.aload_n 0, 1) := by decide +kernel
theorem dX6_startClosings_1 : decode cX6_startClosings 1 = .ok (.iconst 0, 1) := by decide +kernel
theorem dX6_startClosings_2 : decode cX6_startClosings 2 = .ok (.putfield 83, 3) := by decide +kernel
theorem dX6_startClosings_5 : decode cX6_startClosings 5 = .ok (.iconst 0, 1) := by decide +kernel
theorem dX6_startClosings_6 : decode cX6_startClosings 6 = .ok (.istore_n 1, 1) := by decide +kernel
theorem dX6_startClosings_7 : decode cX6_startClosings 7 = .ok (.iload_n 1, 1) := by decide +kernel
theorem dX6_startClosings_8 : decode cX6_startClosings 8 = .ok (.aload_n 0, 1) := by decide +kernel
theorem dX6_startClosings_9 : decode cX6_startClosings 9 = .ok (.getfield 39, 3) := by decide +kernel
theorem dX6_startClosings_12 : decode cX6_startClosings 12 = .ok (.if_icmp .ge 37, 3) := by decide +kernel
theorem dX6_startClosings_15 : decode cX6_startClosings 15 = .ok (.aload_n 0, 1) := by decide +kernel
theorem dX6_startClosings_16 : decode cX6_startClosings 16 = .ok (.dup, 1) := by decide +kernel
theorem dX6_startClosings_17 : decode cX6_startClosings 17 = .ok (.getfield 83, 3) := by decide +kernel
theorem dX6_startClosings_20 : decode cX6_startClosings 20 = .ok (.aload_n 0, 1) := by decide +kernel
theorem dX6_startClosings_21 : decode cX6_startClosings 21 = .ok (.getfield 20, 3) := by decide +kernel
theorem dX6_startClosings_24 : decode cX6_startClosings 24 = .ok (.iload_n 1, 1) := by decide +kernel
theorem dX6_startClosings_25 : decode cX6_startClosings 25 = .ok (.baload, 1) := by decide +kernel
theorem dX6_startClosings_26 : decode cX6_startClosings 26 = .ok (.ifCond .eq 12, 3) := by decide +kernel
theorem dX6_startClosings_29 : decode cX6_startClosings 29 = .ok (.aload_n 0, 1) := by decide +kernel
theorem dX6_startClosings_30 : decode cX6_startClosings 30 = .ok (.getfield 16, 3) := by decide +kernel
theorem dX6_startClosings_33 : decode cX6_startClosings 33 = .ok (.iload_n 1, 1) := by decide +kernel
theorem dX6_startClosings_34 : decode cX6_startClosings 34 = .ok (.iaload, 1) := by decide +kernel
theorem dX6_startClosings_35 : decode cX6_startClosings 35 = .ok (.goto 4, 3) := by decide +kernel
theorem dX6_startClosings_38 : decode cX6_startClosings 38 = .ok (.iconst 0, 1) := by decide +kernel
theorem dX6_startClosings_39 : decode cX6_startClosings 39 = .ok (.iadd, 1) := by decide +kernel
theorem dX6_startClosings_40 : decode cX6_startClosings 40 = .ok (.putfield 83, 3) := by decide +kernel
theorem dX6_startClosings_43 : decode cX6_startClosings 43 = .ok (.iinc 1 1, 3) := by decide +kernel
theorem dX6_startClosings_46 : decode cX6_startClosings 46 = .ok (.goto (-39), 3) := by decide +kernel
theorem dX6_startClosings_49 : decode cX6_startClosings 49 = .ok (.iconst 0, 1) := by decide +kernel
theorem dX6_startClosings_50 : decode cX6_startClosings 50 = .ok (.istore_n 1, 1) := by decide +kernel
theorem dX6_startClosings_51 : decode cX6_startClosings 51 = .ok (.iload_n 1, 1) := by decide +kernel
theorem dX6_startClosings_52 : decode cX6_startClosings 52 = .ok (.bipush 6, 2) := by decide +kernel
theorem dX6_startClosings_54 : decode cX6_startClosings 54 = .ok (.if_icmp .ge 16, 3) := by decide +kernel
theorem dX6_startClosings_57 : decode cX6_startClosings 57 = .ok (.aload_n 0, 1) := by decide +kernel
theorem dX6_startClosings_58 : decode cX6_startClosings 58 = .ok (.getfield 36, 3) := by decide +kernel
theorem dX6_startClosings_61 : decode cX6_startClosings 61 = .ok (.iload_n 1, 1) := by decide +kernel
theorem dX6_startClosings_62 : decode cX6_startClosings 62 = .ok (.iconst 0, 1) := by decide +kernel
theorem dX6_startClosings_63 : decode cX6_startClosings 63 = .ok (.iastore, 1) := by decide +kernel
theorem dX6_startClosings_64 : decode cX6_startClosings 64 = .ok (.iinc 1 1, 3) := by decide +kernel
theorem dX6_startClosings_67 : decode cX6_startClosings 67 = .ok (.goto (-16), 3) := by decide +kernel
theorem dX6_startClosings_70 : decode cX6_startClosings 70 = .ok (.return_, 1) := by decide +kernel
theorem dX6_closesWithin_0 : decode cX6_closesWithin 0 = .ok (.aload_n 0, 1) := by decide +kernel
theorem dX6_closesWithin_1 : decode cX6_closesWithin 1 = .ok (.getfield 20, 3) := by decide +kernel
theorem dX6_closesWithin_4 : decode cX6_closesWithin 4 = .ok (.iload_n 1, 1) := by decide +kernel
theorem dX6_closesWithin_5 : decode cX6_closesWithin 5 = .ok (.baload, 1) := by decide +kernel
theorem dX6_closesWithin_6 : decode cX6_closesWithin 6 = .ok (.ifCond .eq 15, 3) := by decide +kernel
theorem dX6_closesWithin_9 : decode cX6_closesWithin 9 = .ok (.iload_n 2, 1) := by decide +kernel
theorem dX6_closesWithin_10 : decode cX6_closesWithin 10 = .ok (.aload_n 0, 1) := by decide +kernel
theorem dX6_closesWithin_11 : decode cX6_closesWithin 11 = .ok (.getfield 43, 3) := by decide +kernel
theorem dX6_closesWithin_14 : decode cX6_closesWithin 14 = .ok (.if_icmp .ge 7, 3) := by decide +kernel
theorem dX6_closesWithin_17 : decode cX6_closesWithin 17 = .ok (.iconst 1, 1) := by decide +kernel
theorem dX6_closesWithin_18 : decode cX6_closesWithin 18 = .ok (.goto 4, 3) := by decide +kernel
theorem dX6_closesWithin_21 : decode cX6_closesWithin 21 = .ok (.iconst 0, 1) := by decide +kernel
theorem dX6_closesWithin_22 : decode cX6_closesWithin 22 = .ok (.ireturn, 1) := by decide +kernel
theorem dX6_mayClose_0 : decode cX6_mayClose 0 = .ok (.aload_n 0, 1) := by decide +kernel
theorem dX6_mayClose_1 : decode cX6_mayClose 1 = .ok (.iload_n 1, 1) := by decide +kernel
theorem dX6_mayClose_2 : decode cX6_mayClose 2 = .ok (.iload_n 2, 1) := by decide +kernel
theorem dX6_mayClose_3 : decode cX6_mayClose 3 = .ok (.invokevirtual 90, 3) := by decide +kernel
theorem dX6_mayClose_6 : decode cX6_mayClose 6 = .ok (.ifCond .eq 34, 3) := by decide +kernel
theorem dX6_mayClose_9 : decode cX6_mayClose 9 = .ok (.aload_n 0, 1) := by decide +kernel
theorem dX6_mayClose_10 : decode cX6_mayClose 10 = .ok (.getfield 36, 3) := by decide +kernel
theorem dX6_mayClose_13 : decode cX6_mayClose 13 = .ok (.iload_n 2, 1) := by decide +kernel
theorem dX6_mayClose_14 : decode cX6_mayClose 14 = .ok (.iaload, 1) := by decide +kernel
theorem dX6_mayClose_15 : decode cX6_mayClose 15 = .ok (.aload_n 0, 1) := by decide +kernel
theorem dX6_mayClose_16 : decode cX6_mayClose 16 = .ok (.getfield 49, 3) := by decide +kernel
theorem dX6_mayClose_19 : decode cX6_mayClose 19 = .ok (.if_icmp .ge 25, 3) := by decide +kernel
theorem dX6_mayClose_22 : decode cX6_mayClose 22 = .ok (.aload_n 0, 1) := by decide +kernel
theorem dX6_mayClose_23 : decode cX6_mayClose 23 = .ok (.getfield 83, 3) := by decide +kernel
theorem dX6_mayClose_26 : decode cX6_mayClose 26 = .ok (.aload_n 0, 1) := by decide +kernel
theorem dX6_mayClose_27 : decode cX6_mayClose 27 = .ok (.getfield 16, 3) := by decide +kernel
theorem dX6_mayClose_30 : decode cX6_mayClose 30 = .ok (.iload_n 1, 1) := by decide +kernel
theorem dX6_mayClose_31 : decode cX6_mayClose 31 = .ok (.iaload, 1) := by decide +kernel
theorem dX6_mayClose_32 : decode cX6_mayClose 32 = .ok (.isub, 1) := by decide +kernel
theorem dX6_mayClose_33 : decode cX6_mayClose 33 = .ok (.aload_n 0, 1) := by decide +kernel
theorem dX6_mayClose_34 : decode cX6_mayClose 34 = .ok (.getfield 46, 3) := by decide +kernel
theorem dX6_mayClose_37 : decode cX6_mayClose 37 = .ok (.if_icmp .lt 7, 3) := by decide +kernel
theorem dX6_mayClose_40 : decode cX6_mayClose 40 = .ok (.iconst 1, 1) := by decide +kernel
theorem dX6_mayClose_41 : decode cX6_mayClose 41 = .ok (.goto 4, 3) := by decide +kernel
theorem dX6_mayClose_44 : decode cX6_mayClose 44 = .ok (.iconst 0, 1) := by decide +kernel
theorem dX6_mayClose_45 : decode cX6_mayClose 45 = .ok (.ireturn, 1) := by decide +kernel
theorem dX6_closeFrom_0 : decode cX6_closeFrom 0 = .ok (.aload_n 0, 1) := by decide +kernel
theorem dX6_closeFrom_1 : decode cX6_closeFrom 1 = .ok (.iload_n 1, 1) := by decide +kernel
theorem dX6_closeFrom_2 : decode cX6_closeFrom 2 = .ok (.iload_n 2, 1) := by decide +kernel
theorem dX6_closeFrom_3 : decode cX6_closeFrom 3 = .ok (.invokevirtual 90, 3) := by decide +kernel
theorem dX6_closeFrom_6 : decode cX6_closeFrom 6 = .ok (.ifCond .eq 28, 3) := by decide +kernel
theorem dX6_closeFrom_9 : decode cX6_closeFrom 9 = .ok (.aload_n 0, 1) := by decide +kernel
theorem dX6_closeFrom_10 : decode cX6_closeFrom 10 = .ok (.getfield 36, 3) := by decide +kernel
theorem dX6_closeFrom_13 : decode cX6_closeFrom 13 = .ok (.iload_n 2, 1) := by decide +kernel
theorem dX6_closeFrom_14 : decode cX6_closeFrom 14 = .ok (.dup2, 1) := by decide +kernel
theorem dX6_closeFrom_15 : decode cX6_closeFrom 15 = .ok (.iaload, 1) := by decide +kernel
theorem dX6_closeFrom_16 : decode cX6_closeFrom 16 = .ok (.iconst 1, 1) := by decide +kernel
theorem dX6_closeFrom_17 : decode cX6_closeFrom 17 = .ok (.iadd, 1) := by decide +kernel
theorem dX6_closeFrom_18 : decode cX6_closeFrom 18 = .ok (.iastore, 1) := by decide +kernel
theorem dX6_closeFrom_19 : decode cX6_closeFrom 19 = .ok (.aload_n 0, 1) := by decide +kernel
theorem dX6_closeFrom_20 : decode cX6_closeFrom 20 = .ok (.dup, 1) := by decide +kernel
theorem dX6_closeFrom_21 : decode cX6_closeFrom 21 = .ok (.getfield 83, 3) := by decide +kernel
theorem dX6_closeFrom_24 : decode cX6_closeFrom 24 = .ok (.aload_n 0, 1) := by decide +kernel
theorem dX6_closeFrom_25 : decode cX6_closeFrom 25 = .ok (.getfield 16, 3) := by decide +kernel
theorem dX6_closeFrom_28 : decode cX6_closeFrom 28 = .ok (.iload_n 1, 1) := by decide +kernel
theorem dX6_closeFrom_29 : decode cX6_closeFrom 29 = .ok (.iaload, 1) := by decide +kernel
theorem dX6_closeFrom_30 : decode cX6_closeFrom 30 = .ok (.isub, 1) := by decide +kernel
theorem dX6_closeFrom_31 : decode cX6_closeFrom 31 = .ok (.putfield 83, 3) := by decide +kernel
theorem dX6_closeFrom_34 : decode cX6_closeFrom 34 = .ok (.return_, 1) := by decide +kernel
theorem dX6_openAgain_0 : decode cX6_openAgain 0 = .ok (.aload_n 0, 1) := by decide +kernel
theorem dX6_openAgain_1 : decode cX6_openAgain 1 = .ok (.iload_n 1, 1) := by decide +kernel
theorem dX6_openAgain_2 : decode cX6_openAgain 2 = .ok (.iload_n 2, 1) := by decide +kernel
theorem dX6_openAgain_3 : decode cX6_openAgain 3 = .ok (.invokevirtual 90, 3) := by decide +kernel
theorem dX6_openAgain_6 : decode cX6_openAgain 6 = .ok (.ifCond .eq 28, 3) := by decide +kernel
theorem dX6_openAgain_9 : decode cX6_openAgain 9 = .ok (.aload_n 0, 1) := by decide +kernel
theorem dX6_openAgain_10 : decode cX6_openAgain 10 = .ok (.getfield 36, 3) := by decide +kernel
theorem dX6_openAgain_13 : decode cX6_openAgain 13 = .ok (.iload_n 2, 1) := by decide +kernel
theorem dX6_openAgain_14 : decode cX6_openAgain 14 = .ok (.dup2, 1) := by decide +kernel
theorem dX6_openAgain_15 : decode cX6_openAgain 15 = .ok (.iaload, 1) := by decide +kernel
theorem dX6_openAgain_16 : decode cX6_openAgain 16 = .ok (.iconst 1, 1) := by decide +kernel
theorem dX6_openAgain_17 : decode cX6_openAgain 17 = .ok (.isub, 1) := by decide +kernel
theorem dX6_openAgain_18 : decode cX6_openAgain 18 = .ok (.iastore, 1) := by decide +kernel
theorem dX6_openAgain_19 : decode cX6_openAgain 19 = .ok (.aload_n 0, 1) := by decide +kernel
theorem dX6_openAgain_20 : decode cX6_openAgain 20 = .ok (.dup, 1) := by decide +kernel
theorem dX6_openAgain_21 : decode cX6_openAgain 21 = .ok (.getfield 83, 3) := by decide +kernel
theorem dX6_openAgain_24 : decode cX6_openAgain 24 = .ok (.aload_n 0, 1) := by decide +kernel
theorem dX6_openAgain_25 : decode cX6_openAgain 25 = .ok (.getfield 16, 3) := by decide +kernel
theorem dX6_openAgain_28 : decode cX6_openAgain 28 = .ok (.iload_n 1, 1) := by decide +kernel
theorem dX6_openAgain_29 : decode cX6_openAgain 29 = .ok (.iaload, 1) := by decide +kernel
theorem dX6_openAgain_30 : decode cX6_openAgain 30 = .ok (.iadd, 1) := by decide +kernel
theorem dX6_openAgain_31 : decode cX6_openAgain 31 = .ok (.putfield 83, 3) := by decide +kernel
theorem dX6_openAgain_34 : decode cX6_openAgain 34 = .ok (.return_, 1) := by decide +kernel
theorem dX6_findBest_0 : decode cX6_findBest 0 = .ok (.aload_n 0, 1) := by decide +kernel
theorem dX6_findBest_1 : decode cX6_findBest 1 = .ok (.invokevirtual 72, 3) := by decide +kernel
theorem dX6_findBest_4 : decode cX6_findBest 4 = .ok (.aload_n 0, 1) := by decide +kernel
theorem dX6_findBest_5 : decode cX6_findBest 5 = .ok (.getfield 83, 3) := by decide +kernel
theorem dX6_findBest_8 : decode cX6_findBest 8 = .ok (.aload_n 0, 1) := by decide +kernel
theorem dX6_findBest_9 : decode cX6_findBest 9 = .ok (.getfield 46, 3) := by decide +kernel
theorem dX6_findBest_12 : decode cX6_findBest 12 = .ok (.if_icmp .ge 5, 3) := by decide +kernel
theorem dX6_findBest_15 : decode cX6_findBest 15 = .ok (.iconst 0, 1) := by decide +kernel
theorem dX6_findBest_16 : decode cX6_findBest 16 = .ok (.ireturn, 1) := by decide +kernel
theorem dX6_findBest_17 : decode cX6_findBest 17 = .ok (.aload_n 0, 1) := by decide +kernel
theorem dX6_findBest_18 : decode cX6_findBest 18 = .ok (.ldc 93, 2) := by decide +kernel
theorem dX6_findBest_20 : decode cX6_findBest 20 = .ok (.putfield 94, 3) := by decide +kernel
theorem dX6_findBest_23 : decode cX6_findBest 23 = .ok (.aload_n 0, 1) := by decide +kernel
theorem dX6_findBest_24 : decode cX6_findBest 24 = .ok (.invokevirtual 97, 3) := by decide +kernel
theorem dX6_findBest_27 : decode cX6_findBest 27 = .ok (.iconst 0, 1) := by decide +kernel
theorem dX6_findBest_28 : decode cX6_findBest 28 = .ok (.istore_n 1, 1) := by decide +kernel
theorem dX6_findBest_29 : decode cX6_findBest 29 = .ok (.iload_n 1, 1) := by decide +kernel
theorem dX6_findBest_30 : decode cX6_findBest 30 = .ok (.iconst 3, 1) := by decide +kernel
theorem dX6_findBest_31 : decode cX6_findBest 31 = .ok (.if_icmp .ge 18, 3) := by decide +kernel
theorem dX6_findBest_34 : decode cX6_findBest 34 = .ok (.aload_n 0, 1) := by decide +kernel
theorem dX6_findBest_35 : decode cX6_findBest 35 = .ok (.getfield 30, 3) := by decide +kernel
theorem dX6_findBest_38 : decode cX6_findBest 38 = .ok (.iconst 0, 1) := by decide +kernel
theorem dX6_findBest_39 : decode cX6_findBest 39 = .ok (.aaload, 1) := by decide +kernel
theorem dX6_findBest_40 : decode cX6_findBest 40 = .ok (.iload_n 1, 1) := by decide +kernel
theorem dX6_findBest_41 : decode cX6_findBest 41 = .ok (.iconst 0, 1) := by decide +kernel
theorem dX6_findBest_42 : decode cX6_findBest 42 = .ok (.iastore, 1) := by decide +kernel
theorem dX6_findBest_43 : decode cX6_findBest 43 = .ok (.iinc 1 1, 3) := by decide +kernel
theorem dX6_findBest_46 : decode cX6_findBest 46 = .ok (.goto (-17), 3) := by decide +kernel
theorem dX6_findBest_49 : decode cX6_findBest 49 = .ok (.aload_n 0, 1) := by decide +kernel
theorem dX6_findBest_50 : decode cX6_findBest 50 = .ok (.iconst 0, 1) := by decide +kernel
theorem dX6_findBest_51 : decode cX6_findBest 51 = .ok (.invokestatic 100, 3) := by decide +kernel
theorem dX6_findBest_54 : decode cX6_findBest 54 = .ok (.iconst 1, 1) := by decide +kernel
theorem dX6_findBest_55 : decode cX6_findBest 55 = .ok (.ireturn, 1) := by decide +kernel
theorem dX6_fillLeast_0 : decode cX6_fillLeast 0 = .ok (.iconst 0, 1) := by decide +kernel
theorem dX6_fillLeast_1 : decode cX6_fillLeast 1 = .ok (.istore_n 1, 1) := by decide +kernel
theorem dX6_fillLeast_2 : decode cX6_fillLeast 2 = .ok (.iload_n 1, 1) := by decide +kernel
theorem dX6_fillLeast_3 : decode cX6_fillLeast 3 = .ok (.iconst 3, 1) := by decide +kernel
theorem dX6_fillLeast_4 : decode cX6_fillLeast 4 = .ok (.if_icmp .ge 108, 3) := by decide +kernel
theorem dX6_fillLeast_7 : decode cX6_fillLeast 7 = .ok (.aload_n 0, 1) := by decide +kernel
theorem dX6_fillLeast_8 : decode cX6_fillLeast 8 = .ok (.getfield 27, 3) := by decide +kernel
theorem dX6_fillLeast_11 : decode cX6_fillLeast 11 = .ok (.aload_n 0, 1) := by decide +kernel
theorem dX6_fillLeast_12 : decode cX6_fillLeast 12 = .ok (.getfield 39, 3) := by decide +kernel
theorem dX6_fillLeast_15 : decode cX6_fillLeast 15 = .ok (.aaload, 1) := by decide +kernel
theorem dX6_fillLeast_16 : decode cX6_fillLeast 16 = .ok (.iload_n 1, 1) := by decide +kernel
theorem dX6_fillLeast_17 : decode cX6_fillLeast 17 = .ok (.iconst 0, 1) := by decide +kernel
theorem dX6_fillLeast_18 : decode cX6_fillLeast 18 = .ok (.iastore, 1) := by decide +kernel
theorem dX6_fillLeast_19 : decode cX6_fillLeast 19 = .ok (.aload_n 0, 1) := by decide +kernel
theorem dX6_fillLeast_20 : decode cX6_fillLeast 20 = .ok (.getfield 39, 3) := by decide +kernel
theorem dX6_fillLeast_23 : decode cX6_fillLeast 23 = .ok (.iconst 1, 1) := by decide +kernel
theorem dX6_fillLeast_24 : decode cX6_fillLeast 24 = .ok (.isub, 1) := by decide +kernel
theorem dX6_fillLeast_25 : decode cX6_fillLeast 25 = .ok (.istore_n 2, 1) := by decide +kernel
theorem dX6_fillLeast_26 : decode cX6_fillLeast 26 = .ok (.iload_n 2, 1) := by decide +kernel
theorem dX6_fillLeast_27 : decode cX6_fillLeast 27 = .ok (.ifCond .lt 79, 3) := by decide +kernel
theorem dX6_fillLeast_30 : decode cX6_fillLeast 30 = .ok (.aload_n 0, 1) := by decide +kernel
theorem dX6_fillLeast_31 : decode cX6_fillLeast 31 = .ok (.getfield 24, 3) := by decide +kernel
theorem dX6_fillLeast_34 : decode cX6_fillLeast 34 = .ok (.iload_n 2, 1) := by decide +kernel
theorem dX6_fillLeast_35 : decode cX6_fillLeast 35 = .ok (.bipush 6, 2) := by decide +kernel
theorem dX6_fillLeast_37 : decode cX6_fillLeast 37 = .ok (.imul, 1) := by decide +kernel
theorem dX6_fillLeast_38 : decode cX6_fillLeast 38 = .ok (.aaload, 1) := by decide +kernel
theorem dX6_fillLeast_39 : decode cX6_fillLeast 39 = .ok (.iload_n 1, 1) := by decide +kernel
theorem dX6_fillLeast_40 : decode cX6_fillLeast 40 = .ok (.iaload, 1) := by decide +kernel
theorem dX6_fillLeast_41 : decode cX6_fillLeast 41 = .ok (.istore_n 3, 1) := by decide +kernel
theorem dX6_fillLeast_42 : decode cX6_fillLeast 42 = .ok (.iconst 1, 1) := by decide +kernel
theorem dX6_fillLeast_43 : decode cX6_fillLeast 43 = .ok (.istore 4, 2) := by decide +kernel
theorem dX6_fillLeast_45 : decode cX6_fillLeast 45 = .ok (.iload 4, 2) := by decide +kernel
theorem dX6_fillLeast_47 : decode cX6_fillLeast 47 = .ok (.aload_n 0, 1) := by decide +kernel
theorem dX6_fillLeast_48 : decode cX6_fillLeast 48 = .ok (.iload_n 2, 1) := by decide +kernel
theorem dX6_fillLeast_49 : decode cX6_fillLeast 49 = .ok (.invokevirtual 104, 3) := by decide +kernel
theorem dX6_fillLeast_52 : decode cX6_fillLeast 52 = .ok (.if_icmp .gt 28, 3) := by decide +kernel
theorem dX6_fillLeast_55 : decode cX6_fillLeast 55 = .ok (.iload_n 3, 1) := by decide +kernel
theorem dX6_fillLeast_56 : decode cX6_fillLeast 56 = .ok (.aload_n 0, 1) := by decide +kernel
theorem dX6_fillLeast_57 : decode cX6_fillLeast 57 = .ok (.getfield 24, 3) := by decide +kernel
theorem dX6_fillLeast_60 : decode cX6_fillLeast 60 = .ok (.iload_n 2, 1) := by decide +kernel
theorem dX6_fillLeast_61 : decode cX6_fillLeast 61 = .ok (.bipush 6, 2) := by decide +kernel
theorem dX6_fillLeast_63 : decode cX6_fillLeast 63 = .ok (.imul, 1) := by decide +kernel
theorem dX6_fillLeast_64 : decode cX6_fillLeast 64 = .ok (.iload 4, 2) := by decide +kernel
theorem dX6_fillLeast_66 : decode cX6_fillLeast 66 = .ok (.iadd, 1) := by decide +kernel
theorem dX6_fillLeast_67 : decode cX6_fillLeast 67 = .ok (.aaload, 1) := by decide +kernel
theorem dX6_fillLeast_68 : decode cX6_fillLeast 68 = .ok (.iload_n 1, 1) := by decide +kernel
theorem dX6_fillLeast_69 : decode cX6_fillLeast 69 = .ok (.iaload, 1) := by decide +kernel
theorem dX6_fillLeast_70 : decode cX6_fillLeast 70 = .ok (.invokestatic 107, 3) := by decide +kernel
theorem dX6_fillLeast_73 : decode cX6_fillLeast 73 = .ok (.istore_n 3, 1) := by decide +kernel
theorem dX6_fillLeast_74 : decode cX6_fillLeast 74 = .ok (.iinc 4 1, 3) := by decide +kernel
theorem dX6_fillLeast_77 : decode cX6_fillLeast 77 = .ok (.goto (-32), 3) := by decide +kernel
theorem dX6_fillLeast_80 : decode cX6_fillLeast 80 = .ok (.aload_n 0, 1) := by decide +kernel
theorem dX6_fillLeast_81 : decode cX6_fillLeast 81 = .ok (.getfield 27, 3) := by decide +kernel
theorem dX6_fillLeast_84 : decode cX6_fillLeast 84 = .ok (.iload_n 2, 1) := by decide +kernel
theorem dX6_fillLeast_85 : decode cX6_fillLeast 85 = .ok (.aaload, 1) := by decide +kernel
theorem dX6_fillLeast_86 : decode cX6_fillLeast 86 = .ok (.iload_n 1, 1) := by decide +kernel
theorem dX6_fillLeast_87 : decode cX6_fillLeast 87 = .ok (.aload_n 0, 1) := by decide +kernel
theorem dX6_fillLeast_88 : decode cX6_fillLeast 88 = .ok (.getfield 27, 3) := by decide +kernel
theorem dX6_fillLeast_91 : decode cX6_fillLeast 91 = .ok (.iload_n 2, 1) := by decide +kernel
theorem dX6_fillLeast_92 : decode cX6_fillLeast 92 = .ok (.iconst 1, 1) := by decide +kernel
theorem dX6_fillLeast_93 : decode cX6_fillLeast 93 = .ok (.iadd, 1) := by decide +kernel
theorem dX6_fillLeast_94 : decode cX6_fillLeast 94 = .ok (.aaload, 1) := by decide +kernel
theorem dX6_fillLeast_95 : decode cX6_fillLeast 95 = .ok (.iload_n 1, 1) := by decide +kernel
theorem dX6_fillLeast_96 : decode cX6_fillLeast 96 = .ok (.iaload, 1) := by decide +kernel
theorem dX6_fillLeast_97 : decode cX6_fillLeast 97 = .ok (.iload_n 3, 1) := by decide +kernel
theorem dX6_fillLeast_98 : decode cX6_fillLeast 98 = .ok (.iadd, 1) := by decide +kernel
theorem dX6_fillLeast_99 : decode cX6_fillLeast 99 = .ok (.iastore, 1) := by decide +kernel
theorem dX6_fillLeast_100 : decode cX6_fillLeast 100 = .ok (.iinc 2 (-1), 3) := by decide +kernel
theorem dX6_fillLeast_103 : decode cX6_fillLeast 103 = .ok (.goto (-77), 3) := by decide +kernel
theorem dX6_fillLeast_106 : decode cX6_fillLeast 106 = .ok (.iinc 1 1, 3) := by decide +kernel
theorem dX6_fillLeast_109 : decode cX6_fillLeast 109 = .ok (.goto (-107), 3) := by decide +kernel
theorem dX6_fillLeast_112 : decode cX6_fillLeast 112 = .ok (.return_, 1) := by decide +kernel
theorem dX6_lastChoice_0 : decode cX6_lastChoice 0 = .ok (.aload_n 0, 1) := by decide +kernel
theorem dX6_lastChoice_1 : decode cX6_lastChoice 1 = .ok (.getfield 20, 3) := by decide +kernel
theorem dX6_lastChoice_4 : decode cX6_lastChoice 4 = .ok (.iload_n 1, 1) := by decide +kernel
theorem dX6_lastChoice_5 : decode cX6_lastChoice 5 = .ok (.baload, 1) := by decide +kernel
theorem dX6_lastChoice_6 : decode cX6_lastChoice 6 = .ok (.ifCond .eq 14, 3) := by decide +kernel
theorem dX6_lastChoice_9 : decode cX6_lastChoice 9 = .ok (.aload_n 0, 1) := by decide +kernel
theorem dX6_lastChoice_10 : decode cX6_lastChoice 10 = .ok (.getfield 43, 3) := by decide +kernel
theorem dX6_lastChoice_13 : decode cX6_lastChoice 13 = .ok (.iconst 5, 1) := by decide +kernel
theorem dX6_lastChoice_14 : decode cX6_lastChoice 14 = .ok (.invokestatic 107, 3) := by decide +kernel
theorem dX6_lastChoice_17 : decode cX6_lastChoice 17 = .ok (.goto 4, 3) := by decide +kernel
theorem dX6_lastChoice_20 : decode cX6_lastChoice 20 = .ok (.iconst 0, 1) := by decide +kernel
theorem dX6_lastChoice_21 : decode cX6_lastChoice 21 = .ok (.ireturn, 1) := by decide +kernel
theorem dX6_choose_0 : decode cX6_choose 0 = .ok (.iload_n 1, 1) := by decide +kernel
theorem dX6_choose_1 : decode cX6_choose 1 = .ok (.aload_n 0, 1) := by decide +kernel
theorem dX6_choose_2 : decode cX6_choose 2 = .ok (.getfield 39, 3) := by decide +kernel
theorem dX6_choose_5 : decode cX6_choose 5 = .ok (.if_icmp .lt 8, 3) := by decide +kernel
theorem dX6_choose_8 : decode cX6_choose 8 = .ok (.aload_n 0, 1) := by decide +kernel
theorem dX6_choose_9 : decode cX6_choose 9 = .ok (.invokevirtual 110, 3) := by decide +kernel
theorem dX6_choose_12 : decode cX6_choose 12 = .ok (.return_, 1) := by decide +kernel
theorem dX6_choose_13 : decode cX6_choose 13 = .ok (.iconst 0, 1) := by decide +kernel
theorem dX6_choose_14 : decode cX6_choose 14 = .ok (.istore_n 2, 1) := by decide +kernel
theorem dX6_choose_15 : decode cX6_choose 15 = .ok (.iload_n 2, 1) := by decide +kernel
theorem dX6_choose_16 : decode cX6_choose 16 = .ok (.aload_n 0, 1) := by decide +kernel
theorem dX6_choose_17 : decode cX6_choose 17 = .ok (.iload_n 1, 1) := by decide +kernel
theorem dX6_choose_18 : decode cX6_choose 18 = .ok (.invokevirtual 104, 3) := by decide +kernel
theorem dX6_choose_21 : decode cX6_choose 21 = .ok (.if_icmp .gt 53, 3) := by decide +kernel
theorem dX6_choose_24 : decode cX6_choose 24 = .ok (.aload_n 0, 1) := by decide +kernel
theorem dX6_choose_25 : decode cX6_choose 25 = .ok (.iload_n 1, 1) := by decide +kernel
theorem dX6_choose_26 : decode cX6_choose 26 = .ok (.iload_n 2, 1) := by decide +kernel
theorem dX6_choose_27 : decode cX6_choose 27 = .ok (.invokevirtual 75, 3) := by decide +kernel
theorem dX6_choose_30 : decode cX6_choose 30 = .ok (.ifCond .eq 38, 3) := by decide +kernel
theorem dX6_choose_33 : decode cX6_choose 33 = .ok (.aload_n 0, 1) := by decide +kernel
theorem dX6_choose_34 : decode cX6_choose 34 = .ok (.iload_n 1, 1) := by decide +kernel
theorem dX6_choose_35 : decode cX6_choose 35 = .ok (.iload_n 2, 1) := by decide +kernel
theorem dX6_choose_36 : decode cX6_choose 36 = .ok (.invokevirtual 113, 3) := by decide +kernel
theorem dX6_choose_39 : decode cX6_choose 39 = .ok (.aload_n 0, 1) := by decide +kernel
theorem dX6_choose_40 : decode cX6_choose 40 = .ok (.iload_n 1, 1) := by decide +kernel
theorem dX6_choose_41 : decode cX6_choose 41 = .ok (.iconst 1, 1) := by decide +kernel
theorem dX6_choose_42 : decode cX6_choose 42 = .ok (.iadd, 1) := by decide +kernel
theorem dX6_choose_43 : decode cX6_choose 43 = .ok (.invokevirtual 116, 3) := by decide +kernel
theorem dX6_choose_46 : decode cX6_choose 46 = .ok (.ifCond .eq 22, 3) := by decide +kernel
theorem dX6_choose_49 : decode cX6_choose 49 = .ok (.aload_n 0, 1) := by decide +kernel
theorem dX6_choose_50 : decode cX6_choose 50 = .ok (.iload_n 1, 1) := by decide +kernel
theorem dX6_choose_51 : decode cX6_choose 51 = .ok (.iload_n 2, 1) := by decide +kernel
theorem dX6_choose_52 : decode cX6_choose 52 = .ok (.invokevirtual 79, 3) := by decide +kernel
theorem dX6_choose_55 : decode cX6_choose 55 = .ok (.aload_n 0, 1) := by decide +kernel
theorem dX6_choose_56 : decode cX6_choose 56 = .ok (.iload_n 1, 1) := by decide +kernel
theorem dX6_choose_57 : decode cX6_choose 57 = .ok (.iconst 1, 1) := by decide +kernel
theorem dX6_choose_58 : decode cX6_choose 58 = .ok (.iadd, 1) := by decide +kernel
theorem dX6_choose_59 : decode cX6_choose 59 = .ok (.invokestatic 100, 3) := by decide +kernel
theorem dX6_choose_62 : decode cX6_choose 62 = .ok (.aload_n 0, 1) := by decide +kernel
theorem dX6_choose_63 : decode cX6_choose 63 = .ok (.iload_n 1, 1) := by decide +kernel
theorem dX6_choose_64 : decode cX6_choose 64 = .ok (.iload_n 2, 1) := by decide +kernel
theorem dX6_choose_65 : decode cX6_choose 65 = .ok (.invokevirtual 120, 3) := by decide +kernel
theorem dX6_choose_68 : decode cX6_choose 68 = .ok (.iinc 2 1, 3) := by decide +kernel
theorem dX6_choose_71 : decode cX6_choose 71 = .ok (.goto (-56), 3) := by decide +kernel
theorem dX6_choose_74 : decode cX6_choose 74 = .ok (.return_, 1) := by decide +kernel
theorem dX6_pay_0 : decode cX6_pay 0 = .ok (.aload_n 0, 1) := by decide +kernel
theorem dX6_pay_1 : decode cX6_pay 1 = .ok (.getfield 33, 3) := by decide +kernel
theorem dX6_pay_4 : decode cX6_pay 4 = .ok (.iload_n 1, 1) := by decide +kernel
theorem dX6_pay_5 : decode cX6_pay 5 = .ok (.iload_n 2, 1) := by decide +kernel
theorem dX6_pay_6 : decode cX6_pay 6 = .ok (.iastore, 1) := by decide +kernel
theorem dX6_pay_7 : decode cX6_pay 7 = .ok (.iconst 0, 1) := by decide +kernel
theorem dX6_pay_8 : decode cX6_pay 8 = .ok (.istore_n 3, 1) := by decide +kernel
theorem dX6_pay_9 : decode cX6_pay 9 = .ok (.iload_n 3, 1) := by decide +kernel
theorem dX6_pay_10 : decode cX6_pay 10 = .ok (.iconst 3, 1) := by decide +kernel
theorem dX6_pay_11 : decode cX6_pay 11 = .ok (.if_icmp .ge 41, 3) := by decide +kernel
theorem dX6_pay_14 : decode cX6_pay 14 = .ok (.aload_n 0, 1) := by decide +kernel
theorem dX6_pay_15 : decode cX6_pay 15 = .ok (.getfield 30, 3) := by decide +kernel
theorem dX6_pay_18 : decode cX6_pay 18 = .ok (.iload_n 1, 1) := by decide +kernel
theorem dX6_pay_19 : decode cX6_pay 19 = .ok (.iconst 1, 1) := by decide +kernel
theorem dX6_pay_20 : decode cX6_pay 20 = .ok (.iadd, 1) := by decide +kernel
theorem dX6_pay_21 : decode cX6_pay 21 = .ok (.aaload, 1) := by decide +kernel
theorem dX6_pay_22 : decode cX6_pay 22 = .ok (.iload_n 3, 1) := by decide +kernel
theorem dX6_pay_23 : decode cX6_pay 23 = .ok (.aload_n 0, 1) := by decide +kernel
theorem dX6_pay_24 : decode cX6_pay 24 = .ok (.getfield 30, 3) := by decide +kernel
theorem dX6_pay_27 : decode cX6_pay 27 = .ok (.iload_n 1, 1) := by decide +kernel
theorem dX6_pay_28 : decode cX6_pay 28 = .ok (.aaload, 1) := by decide +kernel
theorem dX6_pay_29 : decode cX6_pay 29 = .ok (.iload_n 3, 1) := by decide +kernel
theorem dX6_pay_30 : decode cX6_pay 30 = .ok (.iaload, 1) := by decide +kernel
theorem dX6_pay_31 : decode cX6_pay 31 = .ok (.aload_n 0, 1) := by decide +kernel
theorem dX6_pay_32 : decode cX6_pay 32 = .ok (.getfield 24, 3) := by decide +kernel
theorem dX6_pay_35 : decode cX6_pay 35 = .ok (.iload_n 1, 1) := by decide +kernel
theorem dX6_pay_36 : decode cX6_pay 36 = .ok (.bipush 6, 2) := by decide +kernel
theorem dX6_pay_38 : decode cX6_pay 38 = .ok (.imul, 1) := by decide +kernel
theorem dX6_pay_39 : decode cX6_pay 39 = .ok (.iload_n 2, 1) := by decide +kernel
theorem dX6_pay_40 : decode cX6_pay 40 = .ok (.iadd, 1) := by decide +kernel
theorem dX6_pay_41 : decode cX6_pay 41 = .ok (.aaload, 1) := by decide +kernel
theorem dX6_pay_42 : decode cX6_pay 42 = .ok (.iload_n 3, 1) := by decide +kernel
theorem dX6_pay_43 : decode cX6_pay 43 = .ok (.iaload, 1) := by decide +kernel
theorem dX6_pay_44 : decode cX6_pay 44 = .ok (.iadd, 1) := by decide +kernel
theorem dX6_pay_45 : decode cX6_pay 45 = .ok (.iastore, 1) := by decide +kernel
theorem dX6_pay_46 : decode cX6_pay 46 = .ok (.iinc 3 1, 3) := by decide +kernel
theorem dX6_pay_49 : decode cX6_pay 49 = .ok (.goto (-40), 3) := by decide +kernel
theorem dX6_pay_52 : decode cX6_pay 52 = .ok (.return_, 1) := by decide +kernel
theorem dX6_mayBeBetter_0 : decode cX6_mayBeBetter 0 = .ok (.iconst 0, 1) := by decide +kernel
theorem dX6_mayBeBetter_1 : decode cX6_mayBeBetter 1 = .ok (.istore_n 2, 1) := by decide +kernel
theorem dX6_mayBeBetter_2 : decode cX6_mayBeBetter 2 = .ok (.iload_n 2, 1) := by decide +kernel
theorem dX6_mayBeBetter_3 : decode cX6_mayBeBetter 3 = .ok (.iconst 3, 1) := by decide +kernel
theorem dX6_mayBeBetter_4 : decode cX6_mayBeBetter 4 = .ok (.if_icmp .ge 35, 3) := by decide +kernel
theorem dX6_mayBeBetter_7 : decode cX6_mayBeBetter 7 = .ok (.aload_n 0, 1) := by decide +kernel
theorem dX6_mayBeBetter_8 : decode cX6_mayBeBetter 8 = .ok (.getfield 30, 3) := by decide +kernel
theorem dX6_mayBeBetter_11 : decode cX6_mayBeBetter 11 = .ok (.iload_n 1, 1) := by decide +kernel
theorem dX6_mayBeBetter_12 : decode cX6_mayBeBetter 12 = .ok (.aaload, 1) := by decide +kernel
theorem dX6_mayBeBetter_13 : decode cX6_mayBeBetter 13 = .ok (.iload_n 2, 1) := by decide +kernel
theorem dX6_mayBeBetter_14 : decode cX6_mayBeBetter 14 = .ok (.iaload, 1) := by decide +kernel
theorem dX6_mayBeBetter_15 : decode cX6_mayBeBetter 15 = .ok (.aload_n 0, 1) := by decide +kernel
theorem dX6_mayBeBetter_16 : decode cX6_mayBeBetter 16 = .ok (.getfield 27, 3) := by decide +kernel
theorem dX6_mayBeBetter_19 : decode cX6_mayBeBetter 19 = .ok (.iload_n 1, 1) := by decide +kernel
theorem dX6_mayBeBetter_20 : decode cX6_mayBeBetter 20 = .ok (.aaload, 1) := by decide +kernel
theorem dX6_mayBeBetter_21 : decode cX6_mayBeBetter 21 = .ok (.iload_n 2, 1) := by decide +kernel
theorem dX6_mayBeBetter_22 : decode cX6_mayBeBetter 22 = .ok (.iaload, 1) := by decide +kernel
theorem dX6_mayBeBetter_23 : decode cX6_mayBeBetter 23 = .ok (.iadd, 1) := by decide +kernel
theorem dX6_mayBeBetter_24 : decode cX6_mayBeBetter 24 = .ok (.aload_n 0, 1) := by decide +kernel
theorem dX6_mayBeBetter_25 : decode cX6_mayBeBetter 25 = .ok (.getfield 94, 3) := by decide +kernel
theorem dX6_mayBeBetter_28 : decode cX6_mayBeBetter 28 = .ok (.if_icmp .lt 5, 3) := by decide +kernel
theorem dX6_mayBeBetter_31 : decode cX6_mayBeBetter 31 = .ok (.iconst 0, 1) := by decide +kernel
theorem dX6_mayBeBetter_32 : decode cX6_mayBeBetter 32 = .ok (.ireturn, 1) := by decide +kernel
theorem dX6_mayBeBetter_33 : decode cX6_mayBeBetter 33 = .ok (.iinc 2 1, 3) := by decide +kernel
theorem dX6_mayBeBetter_36 : decode cX6_mayBeBetter 36 = .ok (.goto (-34), 3) := by decide +kernel
theorem dX6_mayBeBetter_39 : decode cX6_mayBeBetter 39 = .ok (.iconst 1, 1) := by decide +kernel
theorem dX6_mayBeBetter_40 : decode cX6_mayBeBetter 40 = .ok (.ireturn, 1) := by decide +kernel
theorem dX6_keepAsBest_0 : decode cX6_keepAsBest 0 = .ok (.aload_n 0, 1) := by decide +kernel
theorem dX6_keepAsBest_1 : decode cX6_keepAsBest 1 = .ok (.aload_n 0, 1) := by decide +kernel
theorem dX6_keepAsBest_2 : decode cX6_keepAsBest 2 = .ok (.aload_n 0, 1) := by decide +kernel
theorem dX6_keepAsBest_3 : decode cX6_keepAsBest 3 = .ok (.invokevirtual 123, 3) := by decide +kernel
theorem dX6_keepAsBest_6 : decode cX6_keepAsBest 6 = .ok (.invokevirtual 86, 3) := by decide +kernel
theorem dX6_keepAsBest_9 : decode cX6_keepAsBest 9 = .ok (.putfield 94, 3) := by decide +kernel
theorem dX6_keepAsBest_12 : decode cX6_keepAsBest 12 = .ok (.aload_n 0, 1) := by decide +kernel
theorem dX6_keepAsBest_13 : decode cX6_keepAsBest 13 = .ok (.iconst 0, 1) := by decide +kernel
theorem dX6_keepAsBest_14 : decode cX6_keepAsBest 14 = .ok (.putfield 127, 3) := by decide +kernel
theorem dX6_keepAsBest_17 : decode cX6_keepAsBest 17 = .ok (.iconst 0, 1) := by decide +kernel
theorem dX6_keepAsBest_18 : decode cX6_keepAsBest 18 = .ok (.istore_n 1, 1) := by decide +kernel
theorem dX6_keepAsBest_19 : decode cX6_keepAsBest 19 = .ok (.iload_n 1, 1) := by decide +kernel
theorem dX6_keepAsBest_20 : decode cX6_keepAsBest 20 = .ok (.aload_n 0, 1) := by decide +kernel
theorem dX6_keepAsBest_21 : decode cX6_keepAsBest 21 = .ok (.getfield 39, 3) := by decide +kernel
theorem dX6_keepAsBest_24 : decode cX6_keepAsBest 24 = .ok (.if_icmp .ge 27, 3) := by decide +kernel
theorem dX6_keepAsBest_27 : decode cX6_keepAsBest 27 = .ok (.aload_n 0, 1) := by decide +kernel
theorem dX6_keepAsBest_28 : decode cX6_keepAsBest 28 = .ok (.aload_n 0, 1) := by decide +kernel
theorem dX6_keepAsBest_29 : decode cX6_keepAsBest 29 = .ok (.getfield 127, 3) := by decide +kernel
theorem dX6_keepAsBest_32 : decode cX6_keepAsBest 32 = .ok (.bipush 10, 2) := by decide +kernel
theorem dX6_keepAsBest_34 : decode cX6_keepAsBest 34 = .ok (.imul, 1) := by decide +kernel
theorem dX6_keepAsBest_35 : decode cX6_keepAsBest 35 = .ok (.aload_n 0, 1) := by decide +kernel
theorem dX6_keepAsBest_36 : decode cX6_keepAsBest 36 = .ok (.getfield 33, 3) := by decide +kernel
theorem dX6_keepAsBest_39 : decode cX6_keepAsBest 39 = .ok (.iload_n 1, 1) := by decide +kernel
theorem dX6_keepAsBest_40 : decode cX6_keepAsBest 40 = .ok (.iaload, 1) := by decide +kernel
theorem dX6_keepAsBest_41 : decode cX6_keepAsBest 41 = .ok (.iadd, 1) := by decide +kernel
theorem dX6_keepAsBest_42 : decode cX6_keepAsBest 42 = .ok (.putfield 127, 3) := by decide +kernel
theorem dX6_keepAsBest_45 : decode cX6_keepAsBest 45 = .ok (.iinc 1 1, 3) := by decide +kernel
theorem dX6_keepAsBest_48 : decode cX6_keepAsBest 48 = .ok (.goto (-29), 3) := by decide +kernel
theorem dX6_keepAsBest_51 : decode cX6_keepAsBest 51 = .ok (.return_, 1) := by decide +kernel
theorem dX7_init_0 : decode cX7_init 0 = .ok (.aload_n 0, 1) := by decide +kernel
theorem dX7_init_1 : decode cX7_init 1 = .ok (.invokespecial 3, 3) := by decide +kernel
theorem dX7_init_4 : decode cX7_init 4 = .ok (.aload_n 0, 1) := by decide +kernel
theorem dX7_init_5 : decode cX7_init 5 = .ok (.bipush 12, 2) := by decide +kernel
theorem dX7_init_7 : decode cX7_init 7 = .ok (.newarray .int, 2) := by decide +kernel
theorem dX7_init_9 : decode cX7_init 9 = .ok (.putfield 9, 3) := by decide +kernel
theorem dX7_init_12 : decode cX7_init 12 = .ok (.aload_n 0, 1) := by decide +kernel
theorem dX7_init_13 : decode cX7_init 13 = .ok (.bipush 12, 2) := by decide +kernel
theorem dX7_init_15 : decode cX7_init 15 = .ok (.newarray .int, 2) := by decide +kernel
theorem dX7_init_17 : decode cX7_init 17 = .ok (.putfield 15, 3) := by decide +kernel
theorem dX7_init_20 : decode cX7_init 20 = .ok (.aload_n 0, 1) := by decide +kernel
theorem dX7_init_21 : decode cX7_init 21 = .ok (.bipush 9, 2) := by decide +kernel
theorem dX7_init_23 : decode cX7_init 23 = .ok (.newarray .int, 2) := by decide +kernel
theorem dX7_init_25 : decode cX7_init 25 = .ok (.putfield 18, 3) := by decide +kernel
theorem dX7_init_28 : decode cX7_init 28 = .ok (.aload_n 0, 1) := by decide +kernel
theorem dX7_init_29 : decode cX7_init 29 = .ok (.bipush 9, 2) := by decide +kernel
theorem dX7_init_31 : decode cX7_init 31 = .ok (.newarray .int, 2) := by decide +kernel
theorem dX7_init_33 : decode cX7_init 33 = .ok (.putfield 21, 3) := by decide +kernel
theorem dX7_init_36 : decode cX7_init 36 = .ok (.aload_n 0, 1) := by decide +kernel
theorem dX7_init_37 : decode cX7_init 37 = .ok (.new 24, 3) := by decide +kernel
theorem dX7_init_40 : decode cX7_init 40 = .ok (.dup, 1) := by decide +kernel
theorem dX7_init_41 : decode cX7_init 41 = .ok (.invokespecial 26, 3) := by decide +kernel
theorem dX7_init_44 : decode cX7_init 44 = .ok (.putfield 27, 3) := by decide +kernel
theorem dX7_init_47 : decode cX7_init 47 = .ok (.return_, 1) := by decide +kernel
theorem dX7_clear_0 : decode cX7_clear 0 = .ok (.aload_n 0, 1) := by decide +kernel
theorem dX7_clear_1 : decode cX7_clear 1 = .ok (.iconst 0, 1) := by decide +kernel
theorem dX7_clear_2 : decode cX7_clear 2 = .ok (.putfield 31, 3) := by decide +kernel
theorem dX7_clear_5 : decode cX7_clear 5 = .ok (.aload_n 0, 1) := by decide +kernel
theorem dX7_clear_6 : decode cX7_clear 6 = .ok (.iconst 0, 1) := by decide +kernel
theorem dX7_clear_7 : decode cX7_clear 7 = .ok (.putfield 35, 3) := by decide +kernel
theorem dX7_clear_10 : decode cX7_clear 10 = .ok (.aload_n 0, 1) := by decide +kernel
theorem dX7_clear_11 : decode cX7_clear 11 = .ok (.iconst 0, 1) := by decide +kernel
theorem dX7_clear_12 : decode cX7_clear 12 = .ok (.putfield 38, 3) := by decide +kernel
theorem dX7_clear_15 : decode cX7_clear 15 = .ok (.return_, 1) := by decide +kernel
theorem dX7_addSlots_0 : decode cX7_addSlots 0 = .ok (.iconst 0, 1) := by decide +kernel
theorem dX7_addSlots_1 : decode cX7_addSlots 1 = .ok (.istore_n 3, 1) := by decide +kernel
theorem dX7_addSlots_2 : decode cX7_addSlots 2 = .ok (.iload_n 3, 1) := by decide +kernel
theorem dX7_addSlots_3 : decode cX7_addSlots 3 = .ok (.iconst 3, 1) := by decide +kernel
theorem dX7_addSlots_4 : decode cX7_addSlots 4 = .ok (.if_icmp .ge 65, 3) := by decide +kernel
theorem dX7_addSlots_7 : decode cX7_addSlots 7 = .ok (.iconst 0, 1) := by decide +kernel
theorem dX7_addSlots_8 : decode cX7_addSlots 8 = .ok (.istore 4, 2) := by decide +kernel
theorem dX7_addSlots_10 : decode cX7_addSlots 10 = .ok (.iload 4, 2) := by decide +kernel
theorem dX7_addSlots_12 : decode cX7_addSlots 12 = .ok (.aload_n 2, 1) := by decide +kernel
theorem dX7_addSlots_13 : decode cX7_addSlots 13 = .ok (.iload_n 3, 1) := by decide +kernel
theorem dX7_addSlots_14 : decode cX7_addSlots 14 = .ok (.iaload, 1) := by decide +kernel
theorem dX7_addSlots_15 : decode cX7_addSlots 15 = .ok (.if_icmp .ge 48, 3) := by decide +kernel
theorem dX7_addSlots_18 : decode cX7_addSlots 18 = .ok (.aload_n 0, 1) := by decide +kernel
theorem dX7_addSlots_19 : decode cX7_addSlots 19 = .ok (.getfield 31, 3) := by decide +kernel
theorem dX7_addSlots_22 : decode cX7_addSlots 22 = .ok (.bipush 12, 2) := by decide +kernel
theorem dX7_addSlots_24 : decode cX7_addSlots 24 = .ok (.if_icmp .ge 39, 3) := by decide +kernel
theorem dX7_addSlots_27 : decode cX7_addSlots 27 = .ok (.aload_n 0, 1) := by decide +kernel
theorem dX7_addSlots_28 : decode cX7_addSlots 28 = .ok (.getfield 9, 3) := by decide +kernel
theorem dX7_addSlots_31 : decode cX7_addSlots 31 = .ok (.aload_n 0, 1) := by decide +kernel
theorem dX7_addSlots_32 : decode cX7_addSlots 32 = .ok (.getfield 31, 3) := by decide +kernel
theorem dX7_addSlots_35 : decode cX7_addSlots 35 = .ok (.iload_n 1, 1) := by decide +kernel
theorem dX7_addSlots_36 : decode cX7_addSlots 36 = .ok (.iastore, 1) := by decide +kernel
theorem dX7_addSlots_37 : decode cX7_addSlots 37 = .ok (.aload_n 0, 1) := by decide +kernel
theorem dX7_addSlots_38 : decode cX7_addSlots 38 = .ok (.getfield 15, 3) := by decide +kernel
theorem dX7_addSlots_41 : decode cX7_addSlots 41 = .ok (.aload_n 0, 1) := by decide +kernel
theorem dX7_addSlots_42 : decode cX7_addSlots 42 = .ok (.getfield 31, 3) := by decide +kernel
theorem dX7_addSlots_45 : decode cX7_addSlots 45 = .ok (.iload_n 3, 1) := by decide +kernel
theorem dX7_addSlots_46 : decode cX7_addSlots 46 = .ok (.iastore, 1) := by decide +kernel
theorem dX7_addSlots_47 : decode cX7_addSlots 47 = .ok (.aload_n 0, 1) := by decide +kernel
theorem dX7_addSlots_48 : decode cX7_addSlots 48 = .ok (.dup, 1) := by decide +kernel
theorem dX7_addSlots_49 : decode cX7_addSlots 49 = .ok (.getfield 31, 3) := by decide +kernel
theorem dX7_addSlots_52 : decode cX7_addSlots 52 = .ok (.iconst 1, 1) := by decide +kernel
theorem dX7_addSlots_53 : decode cX7_addSlots 53 = .ok (.iadd, 1) := by decide +kernel
theorem dX7_addSlots_54 : decode cX7_addSlots 54 = .ok (.putfield 31, 3) := by decide +kernel
theorem dX7_addSlots_57 : decode cX7_addSlots 57 = .ok (.iinc 4 1, 3) := by decide +kernel
theorem dX7_addSlots_60 : decode cX7_addSlots 60 = .ok (.goto (-50), 3) := by decide +kernel
theorem dX7_addSlots_63 : decode cX7_addSlots 63 = .ok (.iinc 3 1, 3) := by decide +kernel
theorem dX7_addSlots_66 : decode cX7_addSlots 66 = .ok (.goto (-64), 3) := by decide +kernel
theorem dX7_addSlots_69 : decode cX7_addSlots 69 = .ok (.return_, 1) := by decide +kernel
theorem dX7_addMan_0 : decode cX7_addMan 0 = .ok (.aload_n 0, 1) := by decide +kernel
theorem dX7_addMan_1 : decode cX7_addMan 1 = .ok (.getfield 35, 3) := by decide +kernel
theorem dX7_addMan_4 : decode cX7_addMan 4 = .ok (.bipush 9, 2) := by decide +kernel
theorem dX7_addMan_6 : decode cX7_addMan 6 = .ok (.if_icmp .lt 5, 3) := by decide +kernel
theorem dX7_addMan_9 : decode cX7_addMan 9 = .ok (.iconst 0, 1) := by decide +kernel
theorem dX7_addMan_10 : decode cX7_addMan 10 = .ok (.ireturn, 1) := by decide +kernel
theorem dX7_addMan_11 : decode cX7_addMan 11 = .ok (.aload_n 0, 1) := by decide +kernel
theorem dX7_addMan_12 : decode cX7_addMan 12 = .ok (.getfield 18, 3) := by decide +kernel
theorem dX7_addMan_15 : decode cX7_addMan 15 = .ok (.aload_n 0, 1) := by decide +kernel
theorem dX7_addMan_16 : decode cX7_addMan 16 = .ok (.getfield 35, 3) := by decide +kernel
theorem dX7_addMan_19 : decode cX7_addMan 19 = .ok (.iload_n 1, 1) := by decide +kernel
theorem dX7_addMan_20 : decode cX7_addMan 20 = .ok (.iastore, 1) := by decide +kernel
theorem dX7_addMan_21 : decode cX7_addMan 21 = .ok (.aload_n 0, 1) := by decide +kernel
theorem dX7_addMan_22 : decode cX7_addMan 22 = .ok (.getfield 27, 3) := by decide +kernel
theorem dX7_addMan_25 : decode cX7_addMan 25 = .ok (.aload_n 0, 1) := by decide +kernel
theorem dX7_addMan_26 : decode cX7_addMan 26 = .ok (.getfield 35, 3) := by decide +kernel
theorem dX7_addMan_29 : decode cX7_addMan 29 = .ok (.aload_n 0, 1) := by decide +kernel
theorem dX7_addMan_30 : decode cX7_addMan 30 = .ok (.getfield 31, 3) := by decide +kernel
theorem dX7_addMan_33 : decode cX7_addMan 33 = .ok (.invokevirtual 41, 3) := by decide +kernel
theorem dX7_addMan_36 : decode cX7_addMan 36 = .ok (.iconst 0, 1) := by decide +kernel
theorem dX7_addMan_37 : decode cX7_addMan 37 = .ok (.istore_n 2, 1) := by decide +kernel
theorem dX7_addMan_38 : decode cX7_addMan 38 = .ok (.iload_n 2, 1) := by decide +kernel
theorem dX7_addMan_39 : decode cX7_addMan 39 = .ok (.bipush 9, 2) := by decide +kernel
theorem dX7_addMan_41 : decode cX7_addMan 41 = .ok (.if_icmp .ge 40, 3) := by decide +kernel
theorem dX7_addMan_44 : decode cX7_addMan 44 = .ok (.aload_n 0, 1) := by decide +kernel
theorem dX7_addMan_45 : decode cX7_addMan 45 = .ok (.getfield 27, 3) := by decide +kernel
theorem dX7_addMan_48 : decode cX7_addMan 48 = .ok (.getfield 45, 3) := by decide +kernel
theorem dX7_addMan_51 : decode cX7_addMan 51 = .ok (.aload_n 0, 1) := by decide +kernel
theorem dX7_addMan_52 : decode cX7_addMan 52 = .ok (.getfield 35, 3) := by decide +kernel
theorem dX7_addMan_55 : decode cX7_addMan 55 = .ok (.aaload, 1) := by decide +kernel
theorem dX7_addMan_56 : decode cX7_addMan 56 = .ok (.aload_n 0, 1) := by decide +kernel
theorem dX7_addMan_57 : decode cX7_addMan 57 = .ok (.getfield 31, 3) := by decide +kernel
theorem dX7_addMan_60 : decode cX7_addMan 60 = .ok (.iload_n 2, 1) := by decide +kernel
theorem dX7_addMan_61 : decode cX7_addMan 61 = .ok (.iadd, 1) := by decide +kernel
theorem dX7_addMan_62 : decode cX7_addMan 62 = .ok (.sipush 20000, 3) := by decide +kernel
theorem dX7_addMan_65 : decode cX7_addMan 65 = .ok (.aload_n 0, 1) := by decide +kernel
theorem dX7_addMan_66 : decode cX7_addMan 66 = .ok (.getfield 35, 3) := by decide +kernel
theorem dX7_addMan_69 : decode cX7_addMan 69 = .ok (.bipush 12, 2) := by decide +kernel
theorem dX7_addMan_71 : decode cX7_addMan 71 = .ok (.invokestatic 49, 3) := by decide +kernel
theorem dX7_addMan_74 : decode cX7_addMan 74 = .ok (.lastore, 1) := by decide +kernel
theorem dX7_addMan_75 : decode cX7_addMan 75 = .ok (.iinc 2 1, 3) := by decide +kernel
theorem dX7_addMan_78 : decode cX7_addMan 78 = .ok (.goto (-40), 3) := by decide +kernel
theorem dX7_addMan_81 : decode cX7_addMan 81 = .ok (.aload_n 0, 1) := by decide +kernel
theorem dX7_addMan_82 : decode cX7_addMan 82 = .ok (.dup, 1) := by decide +kernel
theorem dX7_addMan_83 : decode cX7_addMan 83 = .ok (.getfield 35, 3) := by decide +kernel
theorem dX7_addMan_86 : decode cX7_addMan 86 = .ok (.iconst 1, 1) := by decide +kernel
theorem dX7_addMan_87 : decode cX7_addMan 87 = .ok (.iadd, 1) := by decide +kernel
theorem dX7_addMan_88 : decode cX7_addMan 88 = .ok (.putfield 35, 3) := by decide +kernel
theorem dX7_addMan_91 : decode cX7_addMan 91 = .ok (.iconst 1, 1) := by decide +kernel
theorem dX7_addMan_92 : decode cX7_addMan 92 = .ok (.ireturn, 1) := by decide +kernel
theorem dX7_offer_0 : decode cX7_offer 0 = .ok (.aload_n 0, 1) := by decide +kernel
theorem dX7_offer_1 : decode cX7_offer 1 = .ok (.getfield 27, 3) := by decide +kernel
theorem dX7_offer_4 : decode cX7_offer 4 = .ok (.getfield 45, 3) := by decide +kernel
theorem dX7_offer_7 : decode cX7_offer 7 = .ok (.iload_n 1, 1) := by decide +kernel
theorem dX7_offer_8 : decode cX7_offer 8 = .ok (.aaload, 1) := by decide +kernel
theorem dX7_offer_9 : decode cX7_offer 9 = .ok (.iload_n 2, 1) := by decide +kernel
theorem dX7_offer_10 : decode cX7_offer 10 = .ok (.iload 4, 2) := by decide +kernel
theorem dX7_offer_12 : decode cX7_offer 12 = .ok (.ifCond .eq 11, 3) := by decide +kernel
theorem dX7_offer_15 : decode cX7_offer 15 = .ok (.iload_n 3, 1) := by decide +kernel
theorem dX7_offer_16 : decode cX7_offer 16 = .ok (.sipush 2000, 3) := by decide +kernel
theorem dX7_offer_19 : decode cX7_offer 19 = .ok (.iadd, 1) := by decide +kernel
theorem dX7_offer_20 : decode cX7_offer 20 = .ok (.goto 4, 3) := by decide +kernel
theorem dX7_offer_23 : decode cX7_offer 23 = .ok (.iload_n 3, 1) := by decide +kernel
theorem dX7_offer_24 : decode cX7_offer 24 = .ok (.iload_n 1, 1) := by decide +kernel
theorem dX7_offer_25 : decode cX7_offer 25 = .ok (.iload_n 2, 1) := by decide +kernel
theorem dX7_offer_26 : decode cX7_offer 26 = .ok (.invokestatic 49, 3) := by decide +kernel
theorem dX7_offer_29 : decode cX7_offer 29 = .ok (.lastore, 1) := by decide +kernel
theorem dX7_offer_30 : decode cX7_offer 30 = .ok (.return_, 1) := by decide +kernel
theorem dX7_weigh_0 : decode cX7_weigh 0 = .ok (.ldc2_w 53, 3) := by decide +kernel
theorem dX7_weigh_3 : decode cX7_weigh 3 = .ok (.lstore_n 3, 1) := by decide +kernel
theorem dX7_weigh_4 : decode cX7_weigh 4 = .ok (.iconst 0, 1) := by decide +kernel
theorem dX7_weigh_5 : decode cX7_weigh 5 = .ok (.istore 5, 2) := by decide +kernel
theorem dX7_weigh_7 : decode cX7_weigh 7 = .ok (.iload 5, 2) := by decide +kernel
theorem dX7_weigh_9 : decode cX7_weigh 9 = .ok (.iload_n 1, 1) := by decide +kernel
theorem dX7_weigh_10 : decode cX7_weigh 10 = .ok (.if_icmp .gt 15, 3) := by decide +kernel
theorem dX7_weigh_13 : decode cX7_weigh 13 = .ok (.lload_n 3, 1) := by decide +kernel
theorem dX7_weigh_14 : decode cX7_weigh 14 = .ok (.ldc2_w 55, 3) := by decide +kernel
theorem dX7_weigh_17 : decode cX7_weigh 17 = .ok (.ldiv, 1) := by decide +kernel
theorem dX7_weigh_18 : decode cX7_weigh 18 = .ok (.lstore_n 3, 1) := by decide +kernel
theorem dX7_weigh_19 : decode cX7_weigh 19 = .ok (.iinc 5 1, 3) := by decide +kernel
theorem dX7_weigh_22 : decode cX7_weigh 22 = .ok (.goto (-15), 3) := by decide +kernel
theorem dX7_weigh_25 : decode cX7_weigh 25 = .ok (.iload_n 0, 1) := by decide +kernel
theorem dX7_weigh_26 : decode cX7_weigh 26 = .ok (.i2l, 1) := by decide +kernel
theorem dX7_weigh_27 : decode cX7_weigh 27 = .ok (.ldc2_w 53, 3) := by decide +kernel
theorem dX7_weigh_30 : decode cX7_weigh 30 = .ok (.lmul, 1) := by decide +kernel
theorem dX7_weigh_31 : decode cX7_weigh 31 = .ok (.iload_n 2, 1) := by decide +kernel
theorem dX7_weigh_32 : decode cX7_weigh 32 = .ok (.i2l, 1) := by decide +kernel
theorem dX7_weigh_33 : decode cX7_weigh 33 = .ok (.lload_n 3, 1) := by decide +kernel
theorem dX7_weigh_34 : decode cX7_weigh 34 = .ok (.lmul, 1) := by decide +kernel
theorem dX7_weigh_35 : decode cX7_weigh 35 = .ok (.ladd, 1) := by decide +kernel
theorem dX7_weigh_36 : decode cX7_weigh 36 = .ok (.lreturn, 1) := by decide +kernel
theorem dX7_settle_0 : decode cX7_settle 0 = .ok (.aload_n 0, 1) := by decide +kernel
theorem dX7_settle_1 : decode cX7_settle 1 = .ok (.getfield 27, 3) := by decide +kernel
theorem dX7_settle_4 : decode cX7_settle 4 = .ok (.aload_n 0, 1) := by decide +kernel
theorem dX7_settle_5 : decode cX7_settle 5 = .ok (.getfield 35, 3) := by decide +kernel
theorem dX7_settle_8 : decode cX7_settle 8 = .ok (.aload_n 0, 1) := by decide +kernel
theorem dX7_settle_9 : decode cX7_settle 9 = .ok (.getfield 31, 3) := by decide +kernel
theorem dX7_settle_12 : decode cX7_settle 12 = .ok (.bipush 9, 2) := by decide +kernel
theorem dX7_settle_14 : decode cX7_settle 14 = .ok (.iadd, 1) := by decide +kernel
theorem dX7_settle_15 : decode cX7_settle 15 = .ok (.invokevirtual 57, 3) := by decide +kernel
theorem dX7_settle_18 : decode cX7_settle 18 = .ok (.lconst 0, 1) := by decide +kernel
theorem dX7_settle_19 : decode cX7_settle 19 = .ok (.lstore_n 1, 1) := by decide +kernel
theorem dX7_settle_20 : decode cX7_settle 20 = .ok (.iconst 0, 1) := by decide +kernel
theorem dX7_settle_21 : decode cX7_settle 21 = .ok (.istore_n 3, 1) := by decide +kernel
theorem dX7_settle_22 : decode cX7_settle 22 = .ok (.iload_n 3, 1) := by decide +kernel
theorem dX7_settle_23 : decode cX7_settle 23 = .ok (.aload_n 0, 1) := by decide +kernel
theorem dX7_settle_24 : decode cX7_settle 24 = .ok (.getfield 35, 3) := by decide +kernel
theorem dX7_settle_27 : decode cX7_settle 27 = .ok (.if_icmp .ge 56, 3) := by decide +kernel
theorem dX7_settle_30 : decode cX7_settle 30 = .ok (.aload_n 0, 1) := by decide +kernel
theorem dX7_settle_31 : decode cX7_settle 31 = .ok (.getfield 27, 3) := by decide +kernel
theorem dX7_settle_34 : decode cX7_settle 34 = .ok (.iload_n 3, 1) := by decide +kernel
theorem dX7_settle_35 : decode cX7_settle 35 = .ok (.invokevirtual 60, 3) := by decide +kernel
theorem dX7_settle_38 : decode cX7_settle 38 = .ok (.istore 4, 2) := by decide +kernel
theorem dX7_settle_40 : decode cX7_settle 40 = .ok (.lload_n 1, 1) := by decide +kernel
theorem dX7_settle_41 : decode cX7_settle 41 = .ok (.aload_n 0, 1) := by decide +kernel
theorem dX7_settle_42 : decode cX7_settle 42 = .ok (.getfield 27, 3) := by decide +kernel
theorem dX7_settle_45 : decode cX7_settle 45 = .ok (.getfield 45, 3) := by decide +kernel
theorem dX7_settle_48 : decode cX7_settle 48 = .ok (.iload_n 3, 1) := by decide +kernel
theorem dX7_settle_49 : decode cX7_settle 49 = .ok (.aaload, 1) := by decide +kernel
theorem dX7_settle_50 : decode cX7_settle 50 = .ok (.iload 4, 2) := by decide +kernel
theorem dX7_settle_52 : decode cX7_settle 52 = .ok (.laload, 1) := by decide +kernel
theorem dX7_settle_53 : decode cX7_settle 53 = .ok (.ladd, 1) := by decide +kernel
theorem dX7_settle_54 : decode cX7_settle 54 = .ok (.lstore_n 1, 1) := by decide +kernel
theorem dX7_settle_55 : decode cX7_settle 55 = .ok (.aload_n 0, 1) := by decide +kernel
theorem dX7_settle_56 : decode cX7_settle 56 = .ok (.getfield 21, 3) := by decide +kernel
theorem dX7_settle_59 : decode cX7_settle 59 = .ok (.iload_n 3, 1) := by decide +kernel
theorem dX7_settle_60 : decode cX7_settle 60 = .ok (.iload 4, 2) := by decide +kernel
theorem dX7_settle_62 : decode cX7_settle 62 = .ok (.aload_n 0, 1) := by decide +kernel
theorem dX7_settle_63 : decode cX7_settle 63 = .ok (.getfield 31, 3) := by decide +kernel
theorem dX7_settle_66 : decode cX7_settle 66 = .ok (.if_icmp .ge 8, 3) := by decide +kernel
theorem dX7_settle_69 : decode cX7_settle 69 = .ok (.iload 4, 2) := by decide +kernel
theorem dX7_settle_71 : decode cX7_settle 71 = .ok (.goto 5, 3) := by decide +kernel
theorem dX7_settle_74 : decode cX7_settle 74 = .ok (.bipush (-6), 2) := by decide +kernel
theorem dX7_settle_76 : decode cX7_settle 76 = .ok (.iastore, 1) := by decide +kernel
theorem dX7_settle_77 : decode cX7_settle 77 = .ok (.iinc 3 1, 3) := by decide +kernel
theorem dX7_settle_80 : decode cX7_settle 80 = .ok (.goto (-58), 3) := by decide +kernel
theorem dX7_settle_83 : decode cX7_settle 83 = .ok (.lload_n 1, 1) := by decide +kernel
theorem dX7_settle_84 : decode cX7_settle 84 = .ok (.ldc2_w 53, 3) := by decide +kernel
theorem dX7_settle_87 : decode cX7_settle 87 = .ok (.ldiv, 1) := by decide +kernel
theorem dX7_settle_88 : decode cX7_settle 88 = .ok (.l2i, 1) := by decide +kernel
theorem dX7_settle_89 : decode cX7_settle 89 = .ok (.istore_n 3, 1) := by decide +kernel
theorem dX7_settle_90 : decode cX7_settle 90 = .ok (.aload_n 0, 1) := by decide +kernel
theorem dX7_settle_91 : decode cX7_settle 91 = .ok (.iload_n 3, 1) := by decide +kernel
theorem dX7_settle_92 : decode cX7_settle 92 = .ok (.sipush 20000, 3) := by decide +kernel
theorem dX7_settle_95 : decode cX7_settle 95 = .ok (.idiv, 1) := by decide +kernel
theorem dX7_settle_96 : decode cX7_settle 96 = .ok (.putfield 64, 3) := by decide +kernel
theorem dX7_settle_99 : decode cX7_settle 99 = .ok (.aload_n 0, 1) := by decide +kernel
theorem dX7_settle_100 : decode cX7_settle 100 = .ok (.iload_n 3, 1) := by decide +kernel
theorem dX7_settle_101 : decode cX7_settle 101 = .ok (.sipush 20000, 3) := by decide +kernel
theorem dX7_settle_104 : decode cX7_settle 104 = .ok (.irem, 1) := by decide +kernel
theorem dX7_settle_105 : decode cX7_settle 105 = .ok (.sipush 2000, 3) := by decide +kernel
theorem dX7_settle_108 : decode cX7_settle 108 = .ok (.idiv, 1) := by decide +kernel
theorem dX7_settle_109 : decode cX7_settle 109 = .ok (.putfield 67, 3) := by decide +kernel
theorem dX7_settle_112 : decode cX7_settle 112 = .ok (.aload_n 0, 1) := by decide +kernel
theorem dX7_settle_113 : decode cX7_settle 113 = .ok (.iload_n 3, 1) := by decide +kernel
theorem dX7_settle_114 : decode cX7_settle 114 = .ok (.sipush 2000, 3) := by decide +kernel
theorem dX7_settle_117 : decode cX7_settle 117 = .ok (.irem, 1) := by decide +kernel
theorem dX7_settle_118 : decode cX7_settle 118 = .ok (.putfield 70, 3) := by decide +kernel
theorem dX7_settle_121 : decode cX7_settle 121 = .ok (.return_, 1) := by decide +kernel
theorem dX7_indexOf_0 : decode cX7_indexOf 0 = .ok (.iconst 0, 1) := by decide +kernel
theorem dX7_indexOf_1 : decode cX7_indexOf 1 = .ok (.istore_n 2, 1) := by decide +kernel
theorem dX7_indexOf_2 : decode cX7_indexOf 2 = .ok (.iload_n 2, 1) := by decide +kernel
theorem dX7_indexOf_3 : decode cX7_indexOf 3 = .ok (.aload_n 0, 1) := by decide +kernel
theorem dX7_indexOf_4 : decode cX7_indexOf 4 = .ok (.getfield 35, 3) := by decide +kernel
theorem dX7_indexOf_7 : decode cX7_indexOf 7 = .ok (.if_icmp .ge 21, 3) := by decide +kernel
theorem dX7_indexOf_10 : decode cX7_indexOf 10 = .ok (.aload_n 0, 1) := by decide +kernel
theorem dX7_indexOf_11 : decode cX7_indexOf 11 = .ok (.getfield 18, 3) := by decide +kernel
theorem dX7_indexOf_14 : decode cX7_indexOf 14 = .ok (.iload_n 2, 1) := by decide +kernel
theorem dX7_indexOf_15 : decode cX7_indexOf 15 = .ok (.iaload, 1) := by decide +kernel
theorem dX7_indexOf_16 : decode cX7_indexOf 16 = .ok (.iload_n 1, 1) := by decide +kernel
theorem dX7_indexOf_17 : decode cX7_indexOf 17 = .ok (.if_icmp .ne 5, 3) := by decide +kernel
theorem dX7_indexOf_20 : decode cX7_indexOf 20 = .ok (.iload_n 2, 1) := by decide +kernel
theorem dX7_indexOf_21 : decode cX7_indexOf 21 = .ok (.ireturn, 1) := by decide +kernel
theorem dX7_indexOf_22 : decode cX7_indexOf 22 = .ok (.iinc 2 1, 3) := by decide +kernel
theorem dX7_indexOf_25 : decode cX7_indexOf 25 = .ok (.goto (-23), 3) := by decide +kernel
theorem dX7_indexOf_28 : decode cX7_indexOf 28 = .ok (.bipush (-6), 2) := by decide +kernel
theorem dX7_indexOf_30 : decode cX7_indexOf 30 = .ok (.ireturn, 1) := by decide +kernel
theorem dX7_newPitOf_0 : decode cX7_newPitOf 0 = .ok (.aload_n 0, 1) := by decide +kernel
theorem dX7_newPitOf_1 : decode cX7_newPitOf 1 = .ok (.iload_n 1, 1) := by decide +kernel
theorem dX7_newPitOf_2 : decode cX7_newPitOf 2 = .ok (.invokevirtual 73, 3) := by decide +kernel
theorem dX7_newPitOf_5 : decode cX7_newPitOf 5 = .ok (.istore_n 2, 1) := by decide +kernel
theorem dX7_newPitOf_6 : decode cX7_newPitOf 6 = .ok (.iload_n 2, 1) := by decide +kernel
theorem dX7_newPitOf_7 : decode cX7_newPitOf 7 = .ok (.bipush (-6), 2) := by decide +kernel
theorem dX7_newPitOf_9 : decode cX7_newPitOf 9 = .ok (.if_icmp .eq 14, 3) := by decide +kernel
theorem dX7_newPitOf_12 : decode cX7_newPitOf 12 = .ok (.aload_n 0, 1) := by decide +kernel
theorem dX7_newPitOf_13 : decode cX7_newPitOf 13 = .ok (.getfield 21, 3) := by decide +kernel
theorem dX7_newPitOf_16 : decode cX7_newPitOf 16 = .ok (.iload_n 2, 1) := by decide +kernel
theorem dX7_newPitOf_17 : decode cX7_newPitOf 17 = .ok (.iaload, 1) := by decide +kernel
theorem dX7_newPitOf_18 : decode cX7_newPitOf 18 = .ok (.bipush (-6), 2) := by decide +kernel
theorem dX7_newPitOf_20 : decode cX7_newPitOf 20 = .ok (.if_icmp .ne 8, 3) := by decide +kernel
theorem dX7_newPitOf_23 : decode cX7_newPitOf 23 = .ok (.bipush (-6), 2) := by decide +kernel
theorem dX7_newPitOf_25 : decode cX7_newPitOf 25 = .ok (.goto 14, 3) := by decide +kernel
theorem dX7_newPitOf_28 : decode cX7_newPitOf 28 = .ok (.aload_n 0, 1) := by decide +kernel
theorem dX7_newPitOf_29 : decode cX7_newPitOf 29 = .ok (.getfield 9, 3) := by decide +kernel
theorem dX7_newPitOf_32 : decode cX7_newPitOf 32 = .ok (.aload_n 0, 1) := by decide +kernel
theorem dX7_newPitOf_33 : decode cX7_newPitOf 33 = .ok (.getfield 21, 3) := by decide +kernel
theorem dX7_newPitOf_36 : decode cX7_newPitOf 36 = .ok (.iload_n 2, 1) := by decide +kernel
theorem dX7_newPitOf_37 : decode cX7_newPitOf 37 = .ok (.iaload, 1) := by decide +kernel
theorem dX7_newPitOf_38 : decode cX7_newPitOf 38 = .ok (.iaload, 1) := by decide +kernel
theorem dX7_newPitOf_39 : decode cX7_newPitOf 39 = .ok (.ireturn, 1) := by decide +kernel
theorem dX8_init_0 : decode cX8_init 0 = .ok (.aload_n 0, 1) := by decide +kernel
theorem dX8_init_1 : decode cX8_init 1 = .ok (.invokespecial 3, 3) := by decide +kernel
theorem dX8_init_4 : decode cX8_init 4 = .ok (.aload_n 0, 1) := by decide +kernel
theorem dX8_init_5 : decode cX8_init 5 = .ok (.bipush 40, 2) := by decide +kernel
theorem dX8_init_7 : decode cX8_init 7 = .ok (.newarray .int, 2) := by decide +kernel
theorem dX8_init_9 : decode cX8_init 9 = .ok (.putfield 9, 3) := by decide +kernel
theorem dX8_init_12 : decode cX8_init 12 = .ok (.return_, 1) := by decide +kernel
theorem dX8_add_0 : decode cX8_add 0 = .ok (.aload_n 0, 1) := by decide +kernel
theorem dX8_add_1 : decode cX8_add 1 = .ok (.getfield 15, 3) := by decide +kernel
theorem dX8_add_4 : decode cX8_add 4 = .ok (.bipush 40, 2) := by decide +kernel
theorem dX8_add_6 : decode cX8_add 6 = .ok (.if_icmp .lt 5, 3) := by decide +kernel
theorem dX8_add_9 : decode cX8_add 9 = .ok (.iconst 0, 1) := by decide +kernel
theorem dX8_add_10 : decode cX8_add 10 = .ok (.ireturn, 1) := by decide +kernel
theorem dX8_add_11 : decode cX8_add 11 = .ok (.aload_n 0, 1) := by decide +kernel
theorem dX8_add_12 : decode cX8_add 12 = .ok (.getfield 9, 3) := by decide +kernel
theorem dX8_add_15 : decode cX8_add 15 = .ok (.aload_n 0, 1) := by decide +kernel
theorem dX8_add_16 : decode cX8_add 16 = .ok (.getfield 15, 3) := by decide +kernel
theorem dX8_add_19 : decode cX8_add 19 = .ok (.iload_n 1, 1) := by decide +kernel
theorem dX8_add_20 : decode cX8_add 20 = .ok (.iastore, 1) := by decide +kernel
theorem dX8_add_21 : decode cX8_add 21 = .ok (.aload_n 0, 1) := by decide +kernel
theorem dX8_add_22 : decode cX8_add 22 = .ok (.dup, 1) := by decide +kernel
theorem dX8_add_23 : decode cX8_add 23 = .ok (.getfield 15, 3) := by decide +kernel
theorem dX8_add_26 : decode cX8_add 26 = .ok (.iconst 1, 1) := by decide +kernel
theorem dX8_add_27 : decode cX8_add 27 = .ok (.iadd, 1) := by decide +kernel
theorem dX8_add_28 : decode cX8_add 28 = .ok (.putfield 15, 3) := by decide +kernel
theorem dX8_add_31 : decode cX8_add 31 = .ok (.iconst 1, 1) := by decide +kernel
theorem dX8_add_32 : decode cX8_add 32 = .ok (.ireturn, 1) := by decide +kernel
theorem dX8_copyFrom_0 : decode cX8_copyFrom 0 = .ok (.aload_n 1, 1) := by decide +kernel
theorem dX8_copyFrom_1 : decode cX8_copyFrom 1 = .ok (.getfield 9, 3) := by decide +kernel
theorem dX8_copyFrom_4 : decode cX8_copyFrom 4 = .ok (.iconst 0, 1) := by decide +kernel
theorem dX8_copyFrom_5 : decode cX8_copyFrom 5 = .ok (.aload_n 0, 1) := by decide +kernel
theorem dX8_copyFrom_6 : decode cX8_copyFrom 6 = .ok (.getfield 9, 3) := by decide +kernel
theorem dX8_copyFrom_9 : decode cX8_copyFrom 9 = .ok (.iconst 0, 1) := by decide +kernel
theorem dX8_copyFrom_10 : decode cX8_copyFrom 10 = .ok (.bipush 40, 2) := by decide +kernel
theorem dX8_copyFrom_12 : decode cX8_copyFrom 12 = .ok (.invokestatic 19, 3) := by decide +kernel
theorem dX8_copyFrom_15 : decode cX8_copyFrom 15 = .ok (.aload_n 0, 1) := by decide +kernel
theorem dX8_copyFrom_16 : decode cX8_copyFrom 16 = .ok (.aload_n 1, 1) := by decide +kernel
theorem dX8_copyFrom_17 : decode cX8_copyFrom 17 = .ok (.getfield 15, 3) := by decide +kernel
theorem dX8_copyFrom_20 : decode cX8_copyFrom 20 = .ok (.putfield 15, 3) := by decide +kernel
theorem dX8_copyFrom_23 : decode cX8_copyFrom 23 = .ok (.return_, 1) := by decide +kernel
theorem dX8_firstFault_0 : decode cX8_firstFault 0 = .ok (.iconst 0, 1) := by decide +kernel
theorem dX8_firstFault_1 : decode cX8_firstFault 1 = .ok (.istore_n 1, 1) := by decide +kernel
theorem dX8_firstFault_2 : decode cX8_firstFault 2 = .ok (.iconst 0, 1) := by decide +kernel
theorem dX8_firstFault_3 : decode cX8_firstFault 3 = .ok (.istore_n 2, 1) := by decide +kernel
theorem dX8_firstFault_4 : decode cX8_firstFault 4 = .ok (.iconst 0, 1) := by decide +kernel
theorem dX8_firstFault_5 : decode cX8_firstFault 5 = .ok (.istore_n 3, 1) := by decide +kernel
theorem dX8_firstFault_6 : decode cX8_firstFault 6 = .ok (.iload_n 3, 1) := by decide +kernel
theorem dX8_firstFault_7 : decode cX8_firstFault 7 = .ok (.aload_n 0, 1) := by decide +kernel
theorem dX8_firstFault_8 : decode cX8_firstFault 8 = .ok (.getfield 15, 3) := by decide +kernel
theorem dX8_firstFault_11 : decode cX8_firstFault 11 = .ok (.if_icmp .ge 102, 3) := by decide +kernel
theorem dX8_firstFault_14 : decode cX8_firstFault 14 = .ok (.aload_n 0, 1) := by decide +kernel
theorem dX8_firstFault_15 : decode cX8_firstFault 15 = .ok (.getfield 9, 3) := by decide +kernel
theorem dX8_firstFault_18 : decode cX8_firstFault 18 = .ok (.iload_n 3, 1) := by decide +kernel
theorem dX8_firstFault_19 : decode cX8_firstFault 19 = .ok (.iaload, 1) := by decide +kernel
theorem dX8_firstFault_20 : decode cX8_firstFault 20 = .ok (.invokestatic 25, 3) := by decide +kernel
theorem dX8_firstFault_23 : decode cX8_firstFault 23 = .ok (.ifCond .eq 18, 3) := by decide +kernel
theorem dX8_firstFault_26 : decode cX8_firstFault 26 = .ok (.iinc 2 1, 3) := by decide +kernel
theorem dX8_firstFault_29 : decode cX8_firstFault 29 = .ok (.iload_n 2, 1) := by decide +kernel
theorem dX8_firstFault_30 : decode cX8_firstFault 30 = .ok (.iconst 4, 1) := by decide +kernel
theorem dX8_firstFault_31 : decode cX8_firstFault 31 = .ok (.if_icmp .gt 8, 3) := by decide +kernel
theorem dX8_firstFault_34 : decode cX8_firstFault 34 = .ok (.iload_n 1, 1) := by decide +kernel
theorem dX8_firstFault_35 : decode cX8_firstFault 35 = .ok (.iconst 5, 1) := by decide +kernel
theorem dX8_firstFault_36 : decode cX8_firstFault 36 = .ok (.if_icmp .lt 71, 3) := by decide +kernel
theorem dX8_firstFault_39 : decode cX8_firstFault 39 = .ok (.iload_n 3, 1) := by decide +kernel
theorem dX8_firstFault_40 : decode cX8_firstFault 40 = .ok (.ireturn, 1) := by decide +kernel
theorem dX8_firstFault_41 : decode cX8_firstFault 41 = .ok (.iload_n 2, 1) := by decide +kernel
theorem dX8_firstFault_42 : decode cX8_firstFault 42 = .ok (.ifCond .le 7, 3) := by decide +kernel
theorem dX8_firstFault_45 : decode cX8_firstFault 45 = .ok (.iconst 1, 1) := by decide +kernel
theorem dX8_firstFault_46 : decode cX8_firstFault 46 = .ok (.goto 4, 3) := by decide +kernel
theorem dX8_firstFault_49 : decode cX8_firstFault 49 = .ok (.iconst 0, 1) := by decide +kernel
theorem dX8_firstFault_50 : decode cX8_firstFault 50 = .ok (.aload_n 0, 1) := by decide +kernel
theorem dX8_firstFault_51 : decode cX8_firstFault 51 = .ok (.getfield 9, 3) := by decide +kernel
theorem dX8_firstFault_54 : decode cX8_firstFault 54 = .ok (.iload_n 3, 1) := by decide +kernel
theorem dX8_firstFault_55 : decode cX8_firstFault 55 = .ok (.iaload, 1) := by decide +kernel
theorem dX8_firstFault_56 : decode cX8_firstFault 56 = .ok (.bipush 44, 2) := by decide +kernel
theorem dX8_firstFault_58 : decode cX8_firstFault 58 = .ok (.if_icmp .ne 7, 3) := by decide +kernel
theorem dX8_firstFault_61 : decode cX8_firstFault 61 = .ok (.iconst 1, 1) := by decide +kernel
theorem dX8_firstFault_62 : decode cX8_firstFault 62 = .ok (.goto 4, 3) := by decide +kernel
theorem dX8_firstFault_65 : decode cX8_firstFault 65 = .ok (.iconst 0, 1) := by decide +kernel
theorem dX8_firstFault_66 : decode cX8_firstFault 66 = .ok (.if_icmp .ne 7, 3) := by decide +kernel
theorem dX8_firstFault_69 : decode cX8_firstFault 69 = .ok (.iconst 1, 1) := by decide +kernel
theorem dX8_firstFault_70 : decode cX8_firstFault 70 = .ok (.goto 4, 3) := by decide +kernel
theorem dX8_firstFault_73 : decode cX8_firstFault 73 = .ok (.iconst 0, 1) := by decide +kernel
theorem dX8_firstFault_74 : decode cX8_firstFault 74 = .ok (.istore 4, 2) := by decide +kernel
theorem dX8_firstFault_76 : decode cX8_firstFault 76 = .ok (.iload 4, 2) := by decide +kernel
theorem dX8_firstFault_78 : decode cX8_firstFault 78 = .ok (.ifCond .eq 16, 3) := by decide +kernel
theorem dX8_firstFault_81 : decode cX8_firstFault 81 = .ok (.aload_n 0, 1) := by decide +kernel
theorem dX8_firstFault_82 : decode cX8_firstFault 82 = .ok (.getfield 9, 3) := by decide +kernel
theorem dX8_firstFault_85 : decode cX8_firstFault 85 = .ok (.iload_n 3, 1) := by decide +kernel
theorem dX8_firstFault_86 : decode cX8_firstFault 86 = .ok (.iaload, 1) := by decide +kernel
theorem dX8_firstFault_87 : decode cX8_firstFault 87 = .ok (.iload_n 1, 1) := by decide +kernel
theorem dX8_firstFault_88 : decode cX8_firstFault 88 = .ok (.invokestatic 29, 3) := by decide +kernel
theorem dX8_firstFault_91 : decode cX8_firstFault 91 = .ok (.goto 5, 3) := by decide +kernel
theorem dX8_firstFault_94 : decode cX8_firstFault 94 = .ok (.bipush (-6), 2) := by decide +kernel
theorem dX8_firstFault_96 : decode cX8_firstFault 96 = .ok (.istore_n 1, 1) := by decide +kernel
theorem dX8_firstFault_97 : decode cX8_firstFault 97 = .ok (.iload_n 1, 1) := by decide +kernel
theorem dX8_firstFault_98 : decode cX8_firstFault 98 = .ok (.bipush (-6), 2) := by decide +kernel
theorem dX8_firstFault_100 : decode cX8_firstFault 100 = .ok (.if_icmp .ne 5, 3) := by decide +kernel
theorem dX8_firstFault_103 : decode cX8_firstFault 103 = .ok (.iload_n 3, 1) := by decide +kernel
theorem dX8_firstFault_104 : decode cX8_firstFault 104 = .ok (.ireturn, 1) := by decide +kernel
theorem dX8_firstFault_105 : decode cX8_firstFault 105 = .ok (.iconst 0, 1) := by decide +kernel
theorem dX8_firstFault_106 : decode cX8_firstFault 106 = .ok (.istore_n 2, 1) := by decide +kernel
theorem dX8_firstFault_107 : decode cX8_firstFault 107 = .ok (.iinc 3 1, 3) := by decide +kernel
theorem dX8_firstFault_110 : decode cX8_firstFault 110 = .ok (.goto (-104), 3) := by decide +kernel
theorem dX8_firstFault_113 : decode cX8_firstFault 113 = .ok (.iload_n 2, 1) := by decide +kernel
theorem dX8_firstFault_114 : decode cX8_firstFault 114 = .ok (.ifCond .ne 13, 3) := by decide +kernel
theorem dX8_firstFault_117 : decode cX8_firstFault 117 = .ok (.iload_n 1, 1) := by decide +kernel
theorem dX8_firstFault_118 : decode cX8_firstFault 118 = .ok (.iconst 1, 1) := by decide +kernel
theorem dX8_firstFault_119 : decode cX8_firstFault 119 = .ok (.if_icmp .ne 8, 3) := by decide +kernel
theorem dX8_firstFault_122 : decode cX8_firstFault 122 = .ok (.bipush (-6), 2) := by decide +kernel
theorem dX8_firstFault_124 : decode cX8_firstFault 124 = .ok (.goto 7, 3) := by decide +kernel
theorem dX8_firstFault_127 : decode cX8_firstFault 127 = .ok (.aload_n 0, 1) := by decide +kernel
theorem dX8_firstFault_128 : decode cX8_firstFault 128 = .ok (.getfield 15, 3) := by decide +kernel
theorem dX8_firstFault_131 : decode cX8_firstFault 131 = .ok (.ireturn, 1) := by decide +kernel
theorem dX8_isDigit_0 : decode cX8_isDigit 0 = .ok (.iload_n 0, 1) := by decide +kernel
theorem dX8_isDigit_1 : decode cX8_isDigit 1 = .ok (.bipush 48, 2) := by decide +kernel
theorem dX8_isDigit_3 : decode cX8_isDigit 3 = .ok (.if_icmp .lt 13, 3) := by decide +kernel
theorem dX8_isDigit_6 : decode cX8_isDigit 6 = .ok (.iload_n 0, 1) := by decide +kernel
theorem dX8_isDigit_7 : decode cX8_isDigit 7 = .ok (.bipush 57, 2) := by decide +kernel
theorem dX8_isDigit_9 : decode cX8_isDigit 9 = .ok (.if_icmp .gt 7, 3) := by decide +kernel
theorem dX8_isDigit_12 : decode cX8_isDigit 12 = .ok (.iconst 1, 1) := by decide +kernel
theorem dX8_isDigit_13 : decode cX8_isDigit 13 = .ok (.goto 4, 3) := by decide +kernel
theorem dX8_isDigit_16 : decode cX8_isDigit 16 = .ok (.iconst 0, 1) := by decide +kernel
theorem dX8_isDigit_17 : decode cX8_isDigit 17 = .ok (.ireturn, 1) := by decide +kernel
theorem dX8_heightBehind_0 : decode cX8_heightBehind 0 = .ok (.iload_n 0, 1) := by decide +kernel
theorem dX8_heightBehind_1 : decode cX8_heightBehind 1 = .ok (.lookupswitch 171 #[(33, 159), (38, 145), (42, 145), (43, 145), (44, 131), (45, 145), (60, 145), (61, 145), (62, 145), (97, 131), (102, 131), (107, 131), (116, 131), (121, 131), (124, 145)], 131) := by decide +kernel
theorem dX8_heightBehind_132 : decode cX8_heightBehind 132 = .ok (.iload_n 1, 1) := by decide +kernel
theorem dX8_heightBehind_133 : decode cX8_heightBehind 133 = .ok (.iconst 5, 1) := by decide +kernel
theorem dX8_heightBehind_134 : decode cX8_heightBehind 134 = .ok (.if_icmp .ge 9, 3) := by decide +kernel
theorem dX8_heightBehind_137 : decode cX8_heightBehind 137 = .ok (.iload_n 1, 1) := by decide +kernel
theorem dX8_heightBehind_138 : decode cX8_heightBehind 138 = .ok (.iconst 1, 1) := by decide +kernel
theorem dX8_heightBehind_139 : decode cX8_heightBehind 139 = .ok (.iadd, 1) := by decide +kernel
theorem dX8_heightBehind_140 : decode cX8_heightBehind 140 = .ok (.goto 5, 3) := by decide +kernel
theorem dX8_heightBehind_143 : decode cX8_heightBehind 143 = .ok (.bipush (-6), 2) := by decide +kernel
theorem dX8_heightBehind_145 : decode cX8_heightBehind 145 = .ok (.ireturn, 1) := by decide +kernel
theorem dX8_heightBehind_146 : decode cX8_heightBehind 146 = .ok (.iload_n 1, 1) := by decide +kernel
theorem dX8_heightBehind_147 : decode cX8_heightBehind 147 = .ok (.iconst 2, 1) := by decide +kernel
theorem dX8_heightBehind_148 : decode cX8_heightBehind 148 = .ok (.if_icmp .lt 9, 3) := by decide +kernel
theorem dX8_heightBehind_151 : decode cX8_heightBehind 151 = .ok (.iload_n 1, 1) := by decide +kernel
theorem dX8_heightBehind_152 : decode cX8_heightBehind 152 = .ok (.iconst 1, 1) := by decide +kernel
theorem dX8_heightBehind_153 : decode cX8_heightBehind 153 = .ok (.isub, 1) := by decide +kernel
theorem dX8_heightBehind_154 : decode cX8_heightBehind 154 = .ok (.goto 5, 3) := by decide +kernel
theorem dX8_heightBehind_157 : decode cX8_heightBehind 157 = .ok (.bipush (-6), 2) := by decide +kernel
theorem dX8_heightBehind_159 : decode cX8_heightBehind 159 = .ok (.ireturn, 1) := by decide +kernel
theorem dX8_heightBehind_160 : decode cX8_heightBehind 160 = .ok (.iload_n 1, 1) := by decide +kernel
theorem dX8_heightBehind_161 : decode cX8_heightBehind 161 = .ok (.iconst 1, 1) := by decide +kernel
theorem dX8_heightBehind_162 : decode cX8_heightBehind 162 = .ok (.if_icmp .lt 7, 3) := by decide +kernel
theorem dX8_heightBehind_165 : decode cX8_heightBehind 165 = .ok (.iload_n 1, 1) := by decide +kernel
theorem dX8_heightBehind_166 : decode cX8_heightBehind 166 = .ok (.goto 5, 3) := by decide +kernel
theorem dX8_heightBehind_169 : decode cX8_heightBehind 169 = .ok (.bipush (-6), 2) := by decide +kernel
theorem dX8_heightBehind_171 : decode cX8_heightBehind 171 = .ok (.ireturn, 1) := by decide +kernel
theorem dX8_heightBehind_172 : decode cX8_heightBehind 172 = .ok (.bipush (-6), 2) := by decide +kernel
theorem dX8_heightBehind_174 : decode cX8_heightBehind 174 = .ok (.ireturn, 1) := by decide +kernel
theorem dX9_init_0 : decode cX9_init 0 = .ok (.aload_n 0, 1) := by decide +kernel
theorem dX9_init_1 : decode cX9_init 1 = .ok (.invokespecial 3, 3) := by decide +kernel
theorem dX9_init_4 : decode cX9_init 4 = .ok (.aload_n 0, 1) := by decide +kernel
theorem dX9_init_5 : decode cX9_init 5 = .ok (.bipush 8, 2) := by decide +kernel
theorem dX9_init_7 : decode cX9_init 7 = .ok (.newarray .int, 2) := by decide +kernel
theorem dX9_init_9 : decode cX9_init 9 = .ok (.putfield 9, 3) := by decide +kernel
theorem dX9_init_12 : decode cX9_init 12 = .ok (.aload_n 0, 1) := by decide +kernel
theorem dX9_init_13 : decode cX9_init 13 = .ok (.bipush 8, 2) := by decide +kernel
theorem dX9_init_15 : decode cX9_init 15 = .ok (.newarray .int, 2) := by decide +kernel
theorem dX9_init_17 : decode cX9_init 17 = .ok (.putfield 15, 3) := by decide +kernel
theorem dX9_init_20 : decode cX9_init 20 = .ok (.aload_n 0, 1) := by decide +kernel
theorem dX9_init_21 : decode cX9_init 21 = .ok (.bipush 8, 2) := by decide +kernel
theorem dX9_init_23 : decode cX9_init 23 = .ok (.newarray .int, 2) := by decide +kernel
theorem dX9_init_25 : decode cX9_init 25 = .ok (.putfield 18, 3) := by decide +kernel
theorem dX9_init_28 : decode cX9_init 28 = .ok (.aload_n 0, 1) := by decide +kernel
theorem dX9_init_29 : decode cX9_init 29 = .ok (.bipush 8, 2) := by decide +kernel
theorem dX9_init_31 : decode cX9_init 31 = .ok (.newarray .boolean, 2) := by decide +kernel
theorem dX9_init_33 : decode cX9_init 33 = .ok (.putfield 21, 3) := by decide +kernel
theorem dX9_init_36 : decode cX9_init 36 = .ok (.aload_n 0, 1) := by decide +kernel
theorem dX9_init_37 : decode cX9_init 37 = .ok (.bipush 8, 2) := by decide +kernel
theorem dX9_init_39 : decode cX9_init 39 = .ok (.newarray .int, 2) := by decide +kernel
theorem dX9_init_41 : decode cX9_init 41 = .ok (.putfield 25, 3) := by decide +kernel
theorem dX9_init_44 : decode cX9_init 44 = .ok (.aload_n 0, 1) := by decide +kernel
theorem dX9_init_45 : decode cX9_init 45 = .ok (.bipush 12, 2) := by decide +kernel
theorem dX9_init_47 : decode cX9_init 47 = .ok (.newarray .int, 2) := by decide +kernel
theorem dX9_init_49 : decode cX9_init 49 = .ok (.putfield 28, 3) := by decide +kernel
theorem dX9_init_52 : decode cX9_init 52 = .ok (.aload_n 0, 1) := by decide +kernel
theorem dX9_init_53 : decode cX9_init 53 = .ok (.bipush 12, 2) := by decide +kernel
theorem dX9_init_55 : decode cX9_init 55 = .ok (.newarray .int, 2) := by decide +kernel
theorem dX9_init_57 : decode cX9_init 57 = .ok (.putfield 31, 3) := by decide +kernel
theorem dX9_init_60 : decode cX9_init 60 = .ok (.aload_n 0, 1) := by decide +kernel
theorem dX9_init_61 : decode cX9_init 61 = .ok (.bipush 12, 2) := by decide +kernel
theorem dX9_init_63 : decode cX9_init 63 = .ok (.newarray .int, 2) := by decide +kernel
theorem dX9_init_65 : decode cX9_init 65 = .ok (.putfield 34, 3) := by decide +kernel
theorem dX9_init_68 : decode cX9_init 68 = .ok (.return_, 1) := by decide +kernel
theorem dX9_addBasin_0 : decode cX9_addBasin 0 = .ok (.aload_n 0, 1) := by decide +kernel
theorem dX9_addBasin_1 : decode cX9_addBasin 1 = .ok (.getfield 37, 3) := by decide +kernel
theorem dX9_addBasin_4 : decode cX9_addBasin 4 = .ok (.bipush 8, 2) := by decide +kernel
theorem dX9_addBasin_6 : decode cX9_addBasin 6 = .ok (.if_icmp .ge 44, 3) := by decide +kernel
theorem dX9_addBasin_9 : decode cX9_addBasin 9 = .ok (.aload_n 0, 1) := by decide +kernel
theorem dX9_addBasin_10 : decode cX9_addBasin 10 = .ok (.getfield 9, 3) := by decide +kernel
theorem dX9_addBasin_13 : decode cX9_addBasin 13 = .ok (.aload_n 0, 1) := by decide +kernel
theorem dX9_addBasin_14 : decode cX9_addBasin 14 = .ok (.getfield 37, 3) := by decide +kernel
theorem dX9_addBasin_17 : decode cX9_addBasin 17 = .ok (.iload_n 1, 1) := by decide +kernel
theorem dX9_addBasin_18 : decode cX9_addBasin 18 = .ok (.iastore, 1) := by decide +kernel
theorem dX9_addBasin_19 : decode cX9_addBasin 19 = .ok (.aload_n 0, 1) := by decide +kernel
theorem dX9_addBasin_20 : decode cX9_addBasin 20 = .ok (.getfield 21, 3) := by decide +kernel
theorem dX9_addBasin_23 : decode cX9_addBasin 23 = .ok (.aload_n 0, 1) := by decide +kernel
theorem dX9_addBasin_24 : decode cX9_addBasin 24 = .ok (.getfield 37, 3) := by decide +kernel
theorem dX9_addBasin_27 : decode cX9_addBasin 27 = .ok (.iconst 1, 1) := by decide +kernel
theorem dX9_addBasin_28 : decode cX9_addBasin 28 = .ok (.bastore, 1) := by decide +kernel
theorem dX9_addBasin_29 : decode cX9_addBasin 29 = .ok (.aload_n 0, 1) := by decide +kernel
theorem dX9_addBasin_30 : decode cX9_addBasin 30 = .ok (.getfield 25, 3) := by decide +kernel
theorem dX9_addBasin_33 : decode cX9_addBasin 33 = .ok (.aload_n 0, 1) := by decide +kernel
theorem dX9_addBasin_34 : decode cX9_addBasin 34 = .ok (.getfield 37, 3) := by decide +kernel
theorem dX9_addBasin_37 : decode cX9_addBasin 37 = .ok (.bipush (-6), 2) := by decide +kernel
theorem dX9_addBasin_39 : decode cX9_addBasin 39 = .ok (.iastore, 1) := by decide +kernel
theorem dX9_addBasin_40 : decode cX9_addBasin 40 = .ok (.aload_n 0, 1) := by decide +kernel
theorem dX9_addBasin_41 : decode cX9_addBasin 41 = .ok (.dup, 1) := by decide +kernel
theorem dX9_addBasin_42 : decode cX9_addBasin 42 = .ok (.getfield 37, 3) := by decide +kernel
theorem dX9_addBasin_45 : decode cX9_addBasin 45 = .ok (.iconst 1, 1) := by decide +kernel
theorem dX9_addBasin_46 : decode cX9_addBasin 46 = .ok (.iadd, 1) := by decide +kernel
theorem dX9_addBasin_47 : decode cX9_addBasin 47 = .ok (.putfield 37, 3) := by decide +kernel
theorem dX9_addBasin_50 : decode cX9_addBasin 50 = .ok (.return_, 1) := by decide +kernel
theorem dX9_addWay_0 : decode cX9_addWay 0 = .ok (.aload_n 0, 1) := by decide +kernel
theorem dX9_addWay_1 : decode cX9_addWay 1 = .ok (.getfield 41, 3) := by decide +kernel
theorem dX9_addWay_4 : decode cX9_addWay 4 = .ok (.bipush 12, 2) := by decide +kernel
theorem dX9_addWay_6 : decode cX9_addWay 6 = .ok (.if_icmp .ge 43, 3) := by decide +kernel
theorem dX9_addWay_9 : decode cX9_addWay 9 = .ok (.aload_n 0, 1) := by decide +kernel
theorem dX9_addWay_10 : decode cX9_addWay 10 = .ok (.getfield 28, 3) := by decide +kernel
theorem dX9_addWay_13 : decode cX9_addWay 13 = .ok (.aload_n 0, 1) := by decide +kernel
theorem dX9_addWay_14 : decode cX9_addWay 14 = .ok (.getfield 41, 3) := by decide +kernel
theorem dX9_addWay_17 : decode cX9_addWay 17 = .ok (.iload_n 1, 1) := by decide +kernel
theorem dX9_addWay_18 : decode cX9_addWay 18 = .ok (.iastore, 1) := by decide +kernel
theorem dX9_addWay_19 : decode cX9_addWay 19 = .ok (.aload_n 0, 1) := by decide +kernel
theorem dX9_addWay_20 : decode cX9_addWay 20 = .ok (.getfield 31, 3) := by decide +kernel
theorem dX9_addWay_23 : decode cX9_addWay 23 = .ok (.aload_n 0, 1) := by decide +kernel
theorem dX9_addWay_24 : decode cX9_addWay 24 = .ok (.getfield 41, 3) := by decide +kernel
theorem dX9_addWay_27 : decode cX9_addWay 27 = .ok (.iload_n 2, 1) := by decide +kernel
theorem dX9_addWay_28 : decode cX9_addWay 28 = .ok (.iastore, 1) := by decide +kernel
theorem dX9_addWay_29 : decode cX9_addWay 29 = .ok (.aload_n 0, 1) := by decide +kernel
theorem dX9_addWay_30 : decode cX9_addWay 30 = .ok (.getfield 34, 3) := by decide +kernel
theorem dX9_addWay_33 : decode cX9_addWay 33 = .ok (.aload_n 0, 1) := by decide +kernel
theorem dX9_addWay_34 : decode cX9_addWay 34 = .ok (.getfield 41, 3) := by decide +kernel
theorem dX9_addWay_37 : decode cX9_addWay 37 = .ok (.iload_n 3, 1) := by decide +kernel
theorem dX9_addWay_38 : decode cX9_addWay 38 = .ok (.iastore, 1) := by decide +kernel
theorem dX9_addWay_39 : decode cX9_addWay 39 = .ok (.aload_n 0, 1) := by decide +kernel
theorem dX9_addWay_40 : decode cX9_addWay 40 = .ok (.dup, 1) := by decide +kernel
theorem dX9_addWay_41 : decode cX9_addWay 41 = .ok (.getfield 41, 3) := by decide +kernel
theorem dX9_addWay_44 : decode cX9_addWay 44 = .ok (.iconst 1, 1) := by decide +kernel
theorem dX9_addWay_45 : decode cX9_addWay 45 = .ok (.iadd, 1) := by decide +kernel
theorem dX9_addWay_46 : decode cX9_addWay 46 = .ok (.putfield 41, 3) := by decide +kernel
theorem dX9_addWay_49 : decode cX9_addWay 49 = .ok (.return_, 1) := by decide +kernel
theorem dX9_copyFrom_0 : decode cX9_copyFrom 0 = .ok (.aload_n 1, 1) := by decide +kernel
theorem dX9_copyFrom_1 : decode cX9_copyFrom 1 = .ok (.getfield 9, 3) := by decide +kernel
theorem dX9_copyFrom_4 : decode cX9_copyFrom 4 = .ok (.iconst 0, 1) := by decide +kernel
theorem dX9_copyFrom_5 : decode cX9_copyFrom 5 = .ok (.aload_n 0, 1) := by decide +kernel
theorem dX9_copyFrom_6 : decode cX9_copyFrom 6 = .ok (.getfield 9, 3) := by decide +kernel
theorem dX9_copyFrom_9 : decode cX9_copyFrom 9 = .ok (.iconst 0, 1) := by decide +kernel
theorem dX9_copyFrom_10 : decode cX9_copyFrom 10 = .ok (.bipush 8, 2) := by decide +kernel
theorem dX9_copyFrom_12 : decode cX9_copyFrom 12 = .ok (.invokestatic 44, 3) := by decide +kernel
theorem dX9_copyFrom_15 : decode cX9_copyFrom 15 = .ok (.aload_n 1, 1) := by decide +kernel
theorem dX9_copyFrom_16 : decode cX9_copyFrom 16 = .ok (.getfield 15, 3) := by decide +kernel
theorem dX9_copyFrom_19 : decode cX9_copyFrom 19 = .ok (.iconst 0, 1) := by decide +kernel
theorem dX9_copyFrom_20 : decode cX9_copyFrom 20 = .ok (.aload_n 0, 1) := by decide +kernel
theorem dX9_copyFrom_21 : decode cX9_copyFrom 21 = .ok (.getfield 15, 3) := by decide +kernel
theorem dX9_copyFrom_24 : decode cX9_copyFrom 24 = .ok (.iconst 0, 1) := by decide +kernel
theorem dX9_copyFrom_25 : decode cX9_copyFrom 25 = .ok (.bipush 8, 2) := by decide +kernel
theorem dX9_copyFrom_27 : decode cX9_copyFrom 27 = .ok (.invokestatic 44, 3) := by decide +kernel
theorem dX9_copyFrom_30 : decode cX9_copyFrom 30 = .ok (.aload_n 1, 1) := by decide +kernel
theorem dX9_copyFrom_31 : decode cX9_copyFrom 31 = .ok (.getfield 18, 3) := by decide +kernel
theorem dX9_copyFrom_34 : decode cX9_copyFrom 34 = .ok (.iconst 0, 1) := by decide +kernel
theorem dX9_copyFrom_35 : decode cX9_copyFrom 35 = .ok (.aload_n 0, 1) := by decide +kernel
theorem dX9_copyFrom_36 : decode cX9_copyFrom 36 = .ok (.getfield 18, 3) := by decide +kernel
theorem dX9_copyFrom_39 : decode cX9_copyFrom 39 = .ok (.iconst 0, 1) := by decide +kernel
theorem dX9_copyFrom_40 : decode cX9_copyFrom 40 = .ok (.bipush 8, 2) := by decide +kernel
theorem dX9_copyFrom_42 : decode cX9_copyFrom 42 = .ok (.invokestatic 44, 3) := by decide +kernel
theorem dX9_copyFrom_45 : decode cX9_copyFrom 45 = .ok (.aload_n 1, 1) := by decide +kernel
theorem dX9_copyFrom_46 : decode cX9_copyFrom 46 = .ok (.getfield 25, 3) := by decide +kernel
theorem dX9_copyFrom_49 : decode cX9_copyFrom 49 = .ok (.iconst 0, 1) := by decide +kernel
theorem dX9_copyFrom_50 : decode cX9_copyFrom 50 = .ok (.aload_n 0, 1) := by decide +kernel
theorem dX9_copyFrom_51 : decode cX9_copyFrom 51 = .ok (.getfield 25, 3) := by decide +kernel
theorem dX9_copyFrom_54 : decode cX9_copyFrom 54 = .ok (.iconst 0, 1) := by decide +kernel
theorem dX9_copyFrom_55 : decode cX9_copyFrom 55 = .ok (.bipush 8, 2) := by decide +kernel
theorem dX9_copyFrom_57 : decode cX9_copyFrom 57 = .ok (.invokestatic 44, 3) := by decide +kernel
theorem dX9_copyFrom_60 : decode cX9_copyFrom 60 = .ok (.iconst 0, 1) := by decide +kernel
theorem dX9_copyFrom_61 : decode cX9_copyFrom 61 = .ok (.istore_n 2, 1) := by decide +kernel
theorem dX9_copyFrom_62 : decode cX9_copyFrom 62 = .ok (.iload_n 2, 1) := by decide +kernel
theorem dX9_copyFrom_63 : decode cX9_copyFrom 63 = .ok (.bipush 8, 2) := by decide +kernel
theorem dX9_copyFrom_65 : decode cX9_copyFrom 65 = .ok (.if_icmp .ge 21, 3) := by decide +kernel
theorem dX9_copyFrom_68 : decode cX9_copyFrom 68 = .ok (.aload_n 0, 1) := by decide +kernel
theorem dX9_copyFrom_69 : decode cX9_copyFrom 69 = .ok (.getfield 21, 3) := by decide +kernel
theorem dX9_copyFrom_72 : decode cX9_copyFrom 72 = .ok (.iload_n 2, 1) := by decide +kernel
theorem dX9_copyFrom_73 : decode cX9_copyFrom 73 = .ok (.aload_n 1, 1) := by decide +kernel
theorem dX9_copyFrom_74 : decode cX9_copyFrom 74 = .ok (.getfield 21, 3) := by decide +kernel
theorem dX9_copyFrom_77 : decode cX9_copyFrom 77 = .ok (.iload_n 2, 1) := by decide +kernel
theorem dX9_copyFrom_78 : decode cX9_copyFrom 78 = .ok (.baload, 1) := by decide +kernel
theorem dX9_copyFrom_79 : decode cX9_copyFrom 79 = .ok (.bastore, 1) := by decide +kernel
theorem dX9_copyFrom_80 : decode cX9_copyFrom 80 = .ok (.iinc 2 1, 3) := by decide +kernel
theorem dX9_copyFrom_83 : decode cX9_copyFrom 83 = .ok (.goto (-21), 3) := by decide +kernel
theorem dX9_copyFrom_86 : decode cX9_copyFrom 86 = .ok (.aload_n 0, 1) := by decide +kernel
theorem dX9_copyFrom_87 : decode cX9_copyFrom 87 = .ok (.aload_n 1, 1) := by decide +kernel
theorem dX9_copyFrom_88 : decode cX9_copyFrom 88 = .ok (.getfield 37, 3) := by decide +kernel
theorem dX9_copyFrom_91 : decode cX9_copyFrom 91 = .ok (.putfield 37, 3) := by decide +kernel
theorem dX9_copyFrom_94 : decode cX9_copyFrom 94 = .ok (.aload_n 1, 1) := by decide +kernel
theorem dX9_copyFrom_95 : decode cX9_copyFrom 95 = .ok (.getfield 28, 3) := by decide +kernel
theorem dX9_copyFrom_98 : decode cX9_copyFrom 98 = .ok (.iconst 0, 1) := by decide +kernel
theorem dX9_copyFrom_99 : decode cX9_copyFrom 99 = .ok (.aload_n 0, 1) := by decide +kernel
theorem dX9_copyFrom_100 : decode cX9_copyFrom 100 = .ok (.getfield 28, 3) := by decide +kernel
theorem dX9_copyFrom_103 : decode cX9_copyFrom 103 = .ok (.iconst 0, 1) := by decide +kernel
theorem dX9_copyFrom_104 : decode cX9_copyFrom 104 = .ok (.bipush 12, 2) := by decide +kernel
theorem dX9_copyFrom_106 : decode cX9_copyFrom 106 = .ok (.invokestatic 44, 3) := by decide +kernel
theorem dX9_copyFrom_109 : decode cX9_copyFrom 109 = .ok (.aload_n 1, 1) := by decide +kernel
theorem dX9_copyFrom_110 : decode cX9_copyFrom 110 = .ok (.getfield 31, 3) := by decide +kernel
theorem dX9_copyFrom_113 : decode cX9_copyFrom 113 = .ok (.iconst 0, 1) := by decide +kernel
theorem dX9_copyFrom_114 : decode cX9_copyFrom 114 = .ok (.aload_n 0, 1) := by decide +kernel
theorem dX9_copyFrom_115 : decode cX9_copyFrom 115 = .ok (.getfield 31, 3) := by decide +kernel
theorem dX9_copyFrom_118 : decode cX9_copyFrom 118 = .ok (.iconst 0, 1) := by decide +kernel
theorem dX9_copyFrom_119 : decode cX9_copyFrom 119 = .ok (.bipush 12, 2) := by decide +kernel
theorem dX9_copyFrom_121 : decode cX9_copyFrom 121 = .ok (.invokestatic 44, 3) := by decide +kernel
theorem dX9_copyFrom_124 : decode cX9_copyFrom 124 = .ok (.aload_n 1, 1) := by decide +kernel
theorem dX9_copyFrom_125 : decode cX9_copyFrom 125 = .ok (.getfield 34, 3) := by decide +kernel
theorem dX9_copyFrom_128 : decode cX9_copyFrom 128 = .ok (.iconst 0, 1) := by decide +kernel
theorem dX9_copyFrom_129 : decode cX9_copyFrom 129 = .ok (.aload_n 0, 1) := by decide +kernel
theorem dX9_copyFrom_130 : decode cX9_copyFrom 130 = .ok (.getfield 34, 3) := by decide +kernel
theorem dX9_copyFrom_133 : decode cX9_copyFrom 133 = .ok (.iconst 0, 1) := by decide +kernel
theorem dX9_copyFrom_134 : decode cX9_copyFrom 134 = .ok (.bipush 12, 2) := by decide +kernel
theorem dX9_copyFrom_136 : decode cX9_copyFrom 136 = .ok (.invokestatic 44, 3) := by decide +kernel
theorem dX9_copyFrom_139 : decode cX9_copyFrom 139 = .ok (.aload_n 0, 1) := by decide +kernel
theorem dX9_copyFrom_140 : decode cX9_copyFrom 140 = .ok (.aload_n 1, 1) := by decide +kernel
theorem dX9_copyFrom_141 : decode cX9_copyFrom 141 = .ok (.getfield 41, 3) := by decide +kernel
theorem dX9_copyFrom_144 : decode cX9_copyFrom 144 = .ok (.putfield 41, 3) := by decide +kernel
theorem dX9_copyFrom_147 : decode cX9_copyFrom 147 = .ok (.aload_n 0, 1) := by decide +kernel
theorem dX9_copyFrom_148 : decode cX9_copyFrom 148 = .ok (.aload_n 1, 1) := by decide +kernel
theorem dX9_copyFrom_149 : decode cX9_copyFrom 149 = .ok (.getfield 50, 3) := by decide +kernel
theorem dX9_copyFrom_152 : decode cX9_copyFrom 152 = .ok (.putfield 50, 3) := by decide +kernel
theorem dX9_copyFrom_155 : decode cX9_copyFrom 155 = .ok (.aload_n 0, 1) := by decide +kernel
theorem dX9_copyFrom_156 : decode cX9_copyFrom 156 = .ok (.aload_n 1, 1) := by decide +kernel
theorem dX9_copyFrom_157 : decode cX9_copyFrom 157 = .ok (.getfield 53, 3) := by decide +kernel
theorem dX9_copyFrom_160 : decode cX9_copyFrom 160 = .ok (.putfield 53, 3) := by decide +kernel
theorem dX9_copyFrom_163 : decode cX9_copyFrom 163 = .ok (.aload_n 0, 1) := by decide +kernel
theorem dX9_copyFrom_164 : decode cX9_copyFrom 164 = .ok (.aload_n 1, 1) := by decide +kernel
theorem dX9_copyFrom_165 : decode cX9_copyFrom 165 = .ok (.getfield 56, 3) := by decide +kernel
theorem dX9_copyFrom_168 : decode cX9_copyFrom 168 = .ok (.putfield 56, 3) := by decide +kernel
theorem dX9_copyFrom_171 : decode cX9_copyFrom 171 = .ok (.return_, 1) := by decide +kernel
theorem dX9_passMonth_0 : decode cX9_passMonth 0 = .ok (.iconst 0, 1) := by decide +kernel
theorem dX9_passMonth_1 : decode cX9_passMonth 1 = .ok (.istore_n 1, 1) := by decide +kernel
theorem dX9_passMonth_2 : decode cX9_passMonth 2 = .ok (.iload_n 1, 1) := by decide +kernel
theorem dX9_passMonth_3 : decode cX9_passMonth 3 = .ok (.aload_n 0, 1) := by decide +kernel
theorem dX9_passMonth_4 : decode cX9_passMonth 4 = .ok (.getfield 37, 3) := by decide +kernel
theorem dX9_passMonth_7 : decode cX9_passMonth 7 = .ok (.if_icmp .ge 24, 3) := by decide +kernel
theorem dX9_passMonth_10 : decode cX9_passMonth 10 = .ok (.aload_n 0, 1) := by decide +kernel
theorem dX9_passMonth_11 : decode cX9_passMonth 11 = .ok (.getfield 18, 3) := by decide +kernel
theorem dX9_passMonth_14 : decode cX9_passMonth 14 = .ok (.iload_n 1, 1) := by decide +kernel
theorem dX9_passMonth_15 : decode cX9_passMonth 15 = .ok (.dup2, 1) := by decide +kernel
theorem dX9_passMonth_16 : decode cX9_passMonth 16 = .ok (.iaload, 1) := by decide +kernel
theorem dX9_passMonth_17 : decode cX9_passMonth 17 = .ok (.aload_n 0, 1) := by decide +kernel
theorem dX9_passMonth_18 : decode cX9_passMonth 18 = .ok (.getfield 15, 3) := by decide +kernel
theorem dX9_passMonth_21 : decode cX9_passMonth 21 = .ok (.iload_n 1, 1) := by decide +kernel
theorem dX9_passMonth_22 : decode cX9_passMonth 22 = .ok (.iaload, 1) := by decide +kernel
theorem dX9_passMonth_23 : decode cX9_passMonth 23 = .ok (.iadd, 1) := by decide +kernel
theorem dX9_passMonth_24 : decode cX9_passMonth 24 = .ok (.iastore, 1) := by decide +kernel
theorem dX9_passMonth_25 : decode cX9_passMonth 25 = .ok (.iinc 1 1, 3) := by decide +kernel
theorem dX9_passMonth_28 : decode cX9_passMonth 28 = .ok (.goto (-26), 3) := by decide +kernel
theorem dX9_passMonth_31 : decode cX9_passMonth 31 = .ok (.iconst 0, 1) := by decide +kernel
theorem dX9_passMonth_32 : decode cX9_passMonth 32 = .ok (.istore_n 1, 1) := by decide +kernel
theorem dX9_passMonth_33 : decode cX9_passMonth 33 = .ok (.iload_n 1, 1) := by decide +kernel
theorem dX9_passMonth_34 : decode cX9_passMonth 34 = .ok (.aload_n 0, 1) := by decide +kernel
theorem dX9_passMonth_35 : decode cX9_passMonth 35 = .ok (.getfield 41, 3) := by decide +kernel
theorem dX9_passMonth_38 : decode cX9_passMonth 38 = .ok (.if_icmp .ge 31, 3) := by decide +kernel
theorem dX9_passMonth_41 : decode cX9_passMonth 41 = .ok (.aload_n 0, 1) := by decide +kernel
theorem dX9_passMonth_42 : decode cX9_passMonth 42 = .ok (.aload_n 0, 1) := by decide +kernel
theorem dX9_passMonth_43 : decode cX9_passMonth 43 = .ok (.getfield 28, 3) := by decide +kernel
theorem dX9_passMonth_46 : decode cX9_passMonth 46 = .ok (.iload_n 1, 1) := by decide +kernel
theorem dX9_passMonth_47 : decode cX9_passMonth 47 = .ok (.iaload, 1) := by decide +kernel
theorem dX9_passMonth_48 : decode cX9_passMonth 48 = .ok (.aload_n 0, 1) := by decide +kernel
theorem dX9_passMonth_49 : decode cX9_passMonth 49 = .ok (.getfield 31, 3) := by decide +kernel
theorem dX9_passMonth_52 : decode cX9_passMonth 52 = .ok (.iload_n 1, 1) := by decide +kernel
theorem dX9_passMonth_53 : decode cX9_passMonth 53 = .ok (.iaload, 1) := by decide +kernel
theorem dX9_passMonth_54 : decode cX9_passMonth 54 = .ok (.aload_n 0, 1) := by decide +kernel
theorem dX9_passMonth_55 : decode cX9_passMonth 55 = .ok (.getfield 34, 3) := by decide +kernel
theorem dX9_passMonth_58 : decode cX9_passMonth 58 = .ok (.iload_n 1, 1) := by decide +kernel
theorem dX9_passMonth_59 : decode cX9_passMonth 59 = .ok (.iaload, 1) := by decide +kernel
theorem dX9_passMonth_60 : decode cX9_passMonth 60 = .ok (.invokevirtual 59, 3) := by decide +kernel
theorem dX9_passMonth_63 : decode cX9_passMonth 63 = .ok (.iinc 1 1, 3) := by decide +kernel
theorem dX9_passMonth_66 : decode cX9_passMonth 66 = .ok (.goto (-33), 3) := by decide +kernel
theorem dX9_passMonth_69 : decode cX9_passMonth 69 = .ok (.iconst 0, 1) := by decide +kernel
theorem dX9_passMonth_70 : decode cX9_passMonth 70 = .ok (.istore_n 1, 1) := by decide +kernel
theorem dX9_passMonth_71 : decode cX9_passMonth 71 = .ok (.iconst 0, 1) := by decide +kernel
theorem dX9_passMonth_72 : decode cX9_passMonth 72 = .ok (.istore_n 2, 1) := by decide +kernel
theorem dX9_passMonth_73 : decode cX9_passMonth 73 = .ok (.iload_n 2, 1) := by decide +kernel
theorem dX9_passMonth_74 : decode cX9_passMonth 74 = .ok (.aload_n 0, 1) := by decide +kernel
theorem dX9_passMonth_75 : decode cX9_passMonth 75 = .ok (.getfield 37, 3) := by decide +kernel
theorem dX9_passMonth_78 : decode cX9_passMonth 78 = .ok (.if_icmp .ge 55, 3) := by decide +kernel
theorem dX9_passMonth_81 : decode cX9_passMonth 81 = .ok (.aload_n 0, 1) := by decide +kernel
theorem dX9_passMonth_82 : decode cX9_passMonth 82 = .ok (.iload_n 2, 1) := by decide +kernel
theorem dX9_passMonth_83 : decode cX9_passMonth 83 = .ok (.invokevirtual 63, 3) := by decide +kernel
theorem dX9_passMonth_86 : decode cX9_passMonth 86 = .ok (.aload_n 0, 1) := by decide +kernel
theorem dX9_passMonth_87 : decode cX9_passMonth 87 = .ok (.getfield 25, 3) := by decide +kernel
theorem dX9_passMonth_90 : decode cX9_passMonth 90 = .ok (.iload_n 2, 1) := by decide +kernel
theorem dX9_passMonth_91 : decode cX9_passMonth 91 = .ok (.iaload, 1) := by decide +kernel
theorem dX9_passMonth_92 : decode cX9_passMonth 92 = .ok (.bipush (-6), 2) := by decide +kernel
theorem dX9_passMonth_94 : decode cX9_passMonth 94 = .ok (.if_icmp .ne 33, 3) := by decide +kernel
theorem dX9_passMonth_97 : decode cX9_passMonth 97 = .ok (.aload_n 0, 1) := by decide +kernel
theorem dX9_passMonth_98 : decode cX9_passMonth 98 = .ok (.getfield 18, 3) := by decide +kernel
theorem dX9_passMonth_101 : decode cX9_passMonth 101 = .ok (.iload_n 2, 1) := by decide +kernel
theorem dX9_passMonth_102 : decode cX9_passMonth 102 = .ok (.iaload, 1) := by decide +kernel
theorem dX9_passMonth_103 : decode cX9_passMonth 103 = .ok (.aload_n 0, 1) := by decide +kernel
theorem dX9_passMonth_104 : decode cX9_passMonth 104 = .ok (.getfield 9, 3) := by decide +kernel
theorem dX9_passMonth_107 : decode cX9_passMonth 107 = .ok (.iload_n 2, 1) := by decide +kernel
theorem dX9_passMonth_108 : decode cX9_passMonth 108 = .ok (.iaload, 1) := by decide +kernel
theorem dX9_passMonth_109 : decode cX9_passMonth 109 = .ok (.iconst 3, 1) := by decide +kernel
theorem dX9_passMonth_110 : decode cX9_passMonth 110 = .ok (.idiv, 1) := by decide +kernel
theorem dX9_passMonth_111 : decode cX9_passMonth 111 = .ok (.if_icmp .le 16, 3) := by decide +kernel
theorem dX9_passMonth_114 : decode cX9_passMonth 114 = .ok (.aload_n 0, 1) := by decide +kernel
theorem dX9_passMonth_115 : decode cX9_passMonth 115 = .ok (.getfield 25, 3) := by decide +kernel
theorem dX9_passMonth_118 : decode cX9_passMonth 118 = .ok (.iload_n 2, 1) := by decide +kernel
theorem dX9_passMonth_119 : decode cX9_passMonth 119 = .ok (.aload_n 0, 1) := by decide +kernel
theorem dX9_passMonth_120 : decode cX9_passMonth 120 = .ok (.getfield 50, 3) := by decide +kernel
theorem dX9_passMonth_123 : decode cX9_passMonth 123 = .ok (.iastore, 1) := by decide +kernel
theorem dX9_passMonth_124 : decode cX9_passMonth 124 = .ok (.iinc 1 1, 3) := by decide +kernel
theorem dX9_passMonth_127 : decode cX9_passMonth 127 = .ok (.iinc 2 1, 3) := by decide +kernel
theorem dX9_passMonth_130 : decode cX9_passMonth 130 = .ok (.goto (-57), 3) := by decide +kernel
theorem dX9_passMonth_133 : decode cX9_passMonth 133 = .ok (.aload_n 0, 1) := by decide +kernel
theorem dX9_passMonth_134 : decode cX9_passMonth 134 = .ok (.dup, 1) := by decide +kernel
theorem dX9_passMonth_135 : decode cX9_passMonth 135 = .ok (.getfield 50, 3) := by decide +kernel
theorem dX9_passMonth_138 : decode cX9_passMonth 138 = .ok (.iconst 1, 1) := by decide +kernel
theorem dX9_passMonth_139 : decode cX9_passMonth 139 = .ok (.iadd, 1) := by decide +kernel
theorem dX9_passMonth_140 : decode cX9_passMonth 140 = .ok (.putfield 50, 3) := by decide +kernel
theorem dX9_passMonth_143 : decode cX9_passMonth 143 = .ok (.iload_n 1, 1) := by decide +kernel
theorem dX9_passMonth_144 : decode cX9_passMonth 144 = .ok (.ireturn, 1) := by decide +kernel
theorem dX9_runThrough_0 : decode cX9_runThrough 0 = .ok (.aload_n 0, 1) := by decide +kernel
theorem dX9_runThrough_1 : decode cX9_runThrough 1 = .ok (.getfield 18, 3) := by decide +kernel
theorem dX9_runThrough_4 : decode cX9_runThrough 4 = .ok (.iload_n 1, 1) := by decide +kernel
theorem dX9_runThrough_5 : decode cX9_runThrough 5 = .ok (.iaload, 1) := by decide +kernel
theorem dX9_runThrough_6 : decode cX9_runThrough 6 = .ok (.aload_n 0, 1) := by decide +kernel
theorem dX9_runThrough_7 : decode cX9_runThrough 7 = .ok (.getfield 18, 3) := by decide +kernel
theorem dX9_runThrough_10 : decode cX9_runThrough 10 = .ok (.iload_n 2, 1) := by decide +kernel
theorem dX9_runThrough_11 : decode cX9_runThrough 11 = .ok (.iaload, 1) := by decide +kernel
theorem dX9_runThrough_12 : decode cX9_runThrough 12 = .ok (.if_icmp .le 7, 3) := by decide +kernel
theorem dX9_runThrough_15 : decode cX9_runThrough 15 = .ok (.iload_n 1, 1) := by decide +kernel
theorem dX9_runThrough_16 : decode cX9_runThrough 16 = .ok (.goto 4, 3) := by decide +kernel
theorem dX9_runThrough_19 : decode cX9_runThrough 19 = .ok (.iload_n 2, 1) := by decide +kernel
theorem dX9_runThrough_20 : decode cX9_runThrough 20 = .ok (.istore 4, 2) := by decide +kernel
theorem dX9_runThrough_22 : decode cX9_runThrough 22 = .ok (.iload 4, 2) := by decide +kernel
theorem dX9_runThrough_24 : decode cX9_runThrough 24 = .ok (.iload_n 1, 1) := by decide +kernel
theorem dX9_runThrough_25 : decode cX9_runThrough 25 = .ok (.if_icmp .ne 7, 3) := by decide +kernel
theorem dX9_runThrough_28 : decode cX9_runThrough 28 = .ok (.iload_n 2, 1) := by decide +kernel
theorem dX9_runThrough_29 : decode cX9_runThrough 29 = .ok (.goto 4, 3) := by decide +kernel
theorem dX9_runThrough_32 : decode cX9_runThrough 32 = .ok (.iload_n 1, 1) := by decide +kernel
theorem dX9_runThrough_33 : decode cX9_runThrough 33 = .ok (.istore 5, 2) := by decide +kernel
theorem dX9_runThrough_35 : decode cX9_runThrough 35 = .ok (.aload_n 0, 1) := by decide +kernel
theorem dX9_runThrough_36 : decode cX9_runThrough 36 = .ok (.getfield 18, 3) := by decide +kernel
theorem dX9_runThrough_39 : decode cX9_runThrough 39 = .ok (.iload 4, 2) := by decide +kernel
theorem dX9_runThrough_41 : decode cX9_runThrough 41 = .ok (.iaload, 1) := by decide +kernel
theorem dX9_runThrough_42 : decode cX9_runThrough 42 = .ok (.iload_n 3, 1) := by decide +kernel
theorem dX9_runThrough_43 : decode cX9_runThrough 43 = .ok (.aload_n 0, 1) := by decide +kernel
theorem dX9_runThrough_44 : decode cX9_runThrough 44 = .ok (.getfield 18, 3) := by decide +kernel
theorem dX9_runThrough_47 : decode cX9_runThrough 47 = .ok (.iload 5, 2) := by decide +kernel
theorem dX9_runThrough_49 : decode cX9_runThrough 49 = .ok (.iaload, 1) := by decide +kernel
theorem dX9_runThrough_50 : decode cX9_runThrough 50 = .ok (.invokestatic 67, 3) := by decide +kernel
theorem dX9_runThrough_53 : decode cX9_runThrough 53 = .ok (.isub, 1) := by decide +kernel
theorem dX9_runThrough_54 : decode cX9_runThrough 54 = .ok (.istore 6, 2) := by decide +kernel
theorem dX9_runThrough_56 : decode cX9_runThrough 56 = .ok (.iload 6, 2) := by decide +kernel
theorem dX9_runThrough_58 : decode cX9_runThrough 58 = .ok (.ifCond .le 31, 3) := by decide +kernel
theorem dX9_runThrough_61 : decode cX9_runThrough 61 = .ok (.aload_n 0, 1) := by decide +kernel
theorem dX9_runThrough_62 : decode cX9_runThrough 62 = .ok (.getfield 18, 3) := by decide +kernel
theorem dX9_runThrough_65 : decode cX9_runThrough 65 = .ok (.iload 4, 2) := by decide +kernel
theorem dX9_runThrough_67 : decode cX9_runThrough 67 = .ok (.dup2, 1) := by decide +kernel
theorem dX9_runThrough_68 : decode cX9_runThrough 68 = .ok (.iaload, 1) := by decide +kernel
theorem dX9_runThrough_69 : decode cX9_runThrough 69 = .ok (.iload 6, 2) := by decide +kernel
theorem dX9_runThrough_71 : decode cX9_runThrough 71 = .ok (.iconst 2, 1) := by decide +kernel
theorem dX9_runThrough_72 : decode cX9_runThrough 72 = .ok (.idiv, 1) := by decide +kernel
theorem dX9_runThrough_73 : decode cX9_runThrough 73 = .ok (.isub, 1) := by decide +kernel
theorem dX9_runThrough_74 : decode cX9_runThrough 74 = .ok (.iastore, 1) := by decide +kernel
theorem dX9_runThrough_75 : decode cX9_runThrough 75 = .ok (.aload_n 0, 1) := by decide +kernel
theorem dX9_runThrough_76 : decode cX9_runThrough 76 = .ok (.getfield 18, 3) := by decide +kernel
theorem dX9_runThrough_79 : decode cX9_runThrough 79 = .ok (.iload 5, 2) := by decide +kernel
theorem dX9_runThrough_81 : decode cX9_runThrough 81 = .ok (.dup2, 1) := by decide +kernel
theorem dX9_runThrough_82 : decode cX9_runThrough 82 = .ok (.iaload, 1) := by decide +kernel
theorem dX9_runThrough_83 : decode cX9_runThrough 83 = .ok (.iload 6, 2) := by decide +kernel
theorem dX9_runThrough_85 : decode cX9_runThrough 85 = .ok (.iconst 2, 1) := by decide +kernel
theorem dX9_runThrough_86 : decode cX9_runThrough 86 = .ok (.idiv, 1) := by decide +kernel
theorem dX9_runThrough_87 : decode cX9_runThrough 87 = .ok (.iadd, 1) := by decide +kernel
theorem dX9_runThrough_88 : decode cX9_runThrough 88 = .ok (.iastore, 1) := by decide +kernel
theorem dX9_runThrough_89 : decode cX9_runThrough 89 = .ok (.return_, 1) := by decide +kernel
theorem dX9_drain_0 : decode cX9_drain 0 = .ok (.aload_n 0, 1) := by decide +kernel
theorem dX9_drain_1 : decode cX9_drain 1 = .ok (.getfield 21, 3) := by decide +kernel
theorem dX9_drain_4 : decode cX9_drain 4 = .ok (.iload_n 1, 1) := by decide +kernel
theorem dX9_drain_5 : decode cX9_drain 5 = .ok (.baload, 1) := by decide +kernel
theorem dX9_drain_6 : decode cX9_drain 6 = .ok (.ifCond .eq 28, 3) := by decide +kernel
theorem dX9_drain_9 : decode cX9_drain 9 = .ok (.aload_n 0, 1) := by decide +kernel
theorem dX9_drain_10 : decode cX9_drain 10 = .ok (.dup, 1) := by decide +kernel
theorem dX9_drain_11 : decode cX9_drain 11 = .ok (.getfield 53, 3) := by decide +kernel
theorem dX9_drain_14 : decode cX9_drain 14 = .ok (.aload_n 0, 1) := by decide +kernel
theorem dX9_drain_15 : decode cX9_drain 15 = .ok (.getfield 18, 3) := by decide +kernel
theorem dX9_drain_18 : decode cX9_drain 18 = .ok (.iload_n 1, 1) := by decide +kernel
theorem dX9_drain_19 : decode cX9_drain 19 = .ok (.iaload, 1) := by decide +kernel
theorem dX9_drain_20 : decode cX9_drain 20 = .ok (.iadd, 1) := by decide +kernel
theorem dX9_drain_21 : decode cX9_drain 21 = .ok (.putfield 53, 3) := by decide +kernel
theorem dX9_drain_24 : decode cX9_drain 24 = .ok (.aload_n 0, 1) := by decide +kernel
theorem dX9_drain_25 : decode cX9_drain 25 = .ok (.getfield 18, 3) := by decide +kernel
theorem dX9_drain_28 : decode cX9_drain 28 = .ok (.iload_n 1, 1) := by decide +kernel
theorem dX9_drain_29 : decode cX9_drain 29 = .ok (.iconst 0, 1) := by decide +kernel
theorem dX9_drain_30 : decode cX9_drain 30 = .ok (.iastore, 1) := by decide +kernel
theorem dX9_drain_31 : decode cX9_drain 31 = .ok (.goto 52, 3) := by decide +kernel
theorem dX9_drain_34 : decode cX9_drain 34 = .ok (.aload_n 0, 1) := by decide +kernel
theorem dX9_drain_35 : decode cX9_drain 35 = .ok (.getfield 18, 3) := by decide +kernel
theorem dX9_drain_38 : decode cX9_drain 38 = .ok (.iload_n 1, 1) := by decide +kernel
theorem dX9_drain_39 : decode cX9_drain 39 = .ok (.iaload, 1) := by decide +kernel
theorem dX9_drain_40 : decode cX9_drain 40 = .ok (.aload_n 0, 1) := by decide +kernel
theorem dX9_drain_41 : decode cX9_drain 41 = .ok (.getfield 9, 3) := by decide +kernel
theorem dX9_drain_44 : decode cX9_drain 44 = .ok (.iload_n 1, 1) := by decide +kernel
theorem dX9_drain_45 : decode cX9_drain 45 = .ok (.iaload, 1) := by decide +kernel
theorem dX9_drain_46 : decode cX9_drain 46 = .ok (.if_icmp .le 37, 3) := by decide +kernel
theorem dX9_drain_49 : decode cX9_drain 49 = .ok (.aload_n 0, 1) := by decide +kernel
theorem dX9_drain_50 : decode cX9_drain 50 = .ok (.dup, 1) := by decide +kernel
theorem dX9_drain_51 : decode cX9_drain 51 = .ok (.getfield 56, 3) := by decide +kernel
theorem dX9_drain_54 : decode cX9_drain 54 = .ok (.aload_n 0, 1) := by decide +kernel
theorem dX9_drain_55 : decode cX9_drain 55 = .ok (.getfield 18, 3) := by decide +kernel
theorem dX9_drain_58 : decode cX9_drain 58 = .ok (.iload_n 1, 1) := by decide +kernel
theorem dX9_drain_59 : decode cX9_drain 59 = .ok (.iaload, 1) := by decide +kernel
theorem dX9_drain_60 : decode cX9_drain 60 = .ok (.aload_n 0, 1) := by decide +kernel
theorem dX9_drain_61 : decode cX9_drain 61 = .ok (.getfield 9, 3) := by decide +kernel
theorem dX9_drain_64 : decode cX9_drain 64 = .ok (.iload_n 1, 1) := by decide +kernel
theorem dX9_drain_65 : decode cX9_drain 65 = .ok (.iaload, 1) := by decide +kernel
theorem dX9_drain_66 : decode cX9_drain 66 = .ok (.isub, 1) := by decide +kernel
theorem dX9_drain_67 : decode cX9_drain 67 = .ok (.iadd, 1) := by decide +kernel
theorem dX9_drain_68 : decode cX9_drain 68 = .ok (.putfield 56, 3) := by decide +kernel
theorem dX9_drain_71 : decode cX9_drain 71 = .ok (.aload_n 0, 1) := by decide +kernel
theorem dX9_drain_72 : decode cX9_drain 72 = .ok (.getfield 18, 3) := by decide +kernel
theorem dX9_drain_75 : decode cX9_drain 75 = .ok (.iload_n 1, 1) := by decide +kernel
theorem dX9_drain_76 : decode cX9_drain 76 = .ok (.aload_n 0, 1) := by decide +kernel
theorem dX9_drain_77 : decode cX9_drain 77 = .ok (.getfield 9, 3) := by decide +kernel
theorem dX9_drain_80 : decode cX9_drain 80 = .ok (.iload_n 1, 1) := by decide +kernel
theorem dX9_drain_81 : decode cX9_drain 81 = .ok (.iaload, 1) := by decide +kernel
theorem dX9_drain_82 : decode cX9_drain 82 = .ok (.iastore, 1) := by decide +kernel
theorem dX9_drain_83 : decode cX9_drain 83 = .ok (.return_, 1) := by decide +kernel
theorem dX10_init_0 : decode cX10_init 0 = .ok (.aload_n 0, 1) := by decide +kernel
theorem dX10_init_1 : decode cX10_init 1 = .ok (.invokespecial 1, 3) := by decide +kernel
theorem dX10_init_4 : decode cX10_init 4 = .ok (.aload_n 0, 1) := by decide +kernel
theorem dX10_init_5 : decode cX10_init 5 = .ok (.bipush 6, 2) := by decide +kernel
theorem dX10_init_7 : decode cX10_init 7 = .ok (.anewarray 9, 3) := by decide +kernel
theorem dX10_init_10 : decode cX10_init 10 = .ok (.putfield 11, 3) := by decide +kernel
theorem dX10_init_13 : decode cX10_init 13 = .ok (.aload_n 0, 1) := by decide +kernel
theorem dX10_init_14 : decode cX10_init 14 = .ok (.bipush 8, 2) := by decide +kernel
theorem dX10_init_16 : decode cX10_init 16 = .ok (.anewarray 15, 3) := by decide +kernel
theorem dX10_init_19 : decode cX10_init 19 = .ok (.putfield 17, 3) := by decide +kernel
theorem dX10_init_22 : decode cX10_init 22 = .ok (.aload_n 0, 1) := by decide +kernel
theorem dX10_init_23 : decode cX10_init 23 = .ok (.bipush 24, 2) := by decide +kernel
theorem dX10_init_25 : decode cX10_init 25 = .ok (.anewarray 21, 3) := by decide +kernel
theorem dX10_init_28 : decode cX10_init 28 = .ok (.putfield 23, 3) := by decide +kernel
theorem dX10_init_31 : decode cX10_init 31 = .ok (.aload_n 0, 1) := by decide +kernel
theorem dX10_init_32 : decode cX10_init 32 = .ok (.bipush 10, 2) := by decide +kernel
theorem dX10_init_34 : decode cX10_init 34 = .ok (.anewarray 27, 3) := by decide +kernel
theorem dX10_init_37 : decode cX10_init 37 = .ok (.putfield 29, 3) := by decide +kernel
theorem dX10_init_40 : decode cX10_init 40 = .ok (.aload_n 0, 1) := by decide +kernel
theorem dX10_init_41 : decode cX10_init 41 = .ok (.getstatic 33, 3) := by decide +kernel
theorem dX10_init_44 : decode cX10_init 44 = .ok (.arraylength, 1) := by decide +kernel
theorem dX10_init_45 : decode cX10_init 45 = .ok (.newarray .int, 2) := by decide +kernel
theorem dX10_init_47 : decode cX10_init 47 = .ok (.putfield 37, 3) := by decide +kernel
theorem dX10_init_50 : decode cX10_init 50 = .ok (.aload_n 0, 1) := by decide +kernel
theorem dX10_init_51 : decode cX10_init 51 = .ok (.new 40, 3) := by decide +kernel
theorem dX10_init_54 : decode cX10_init 54 = .ok (.dup, 1) := by decide +kernel
theorem dX10_init_55 : decode cX10_init 55 = .ok (.invokespecial 42, 3) := by decide +kernel
theorem dX10_init_58 : decode cX10_init 58 = .ok (.putfield 43, 3) := by decide +kernel
theorem dX10_init_61 : decode cX10_init 61 = .ok (.aload_n 0, 1) := by decide +kernel
theorem dX10_init_62 : decode cX10_init 62 = .ok (.iconst 3, 1) := by decide +kernel
theorem dX10_init_63 : decode cX10_init 63 = .ok (.anewarray 40, 3) := by decide +kernel
theorem dX10_init_66 : decode cX10_init 66 = .ok (.putfield 47, 3) := by decide +kernel
theorem dX10_init_69 : decode cX10_init 69 = .ok (.aload_n 0, 1) := by decide +kernel
theorem dX10_init_70 : decode cX10_init 70 = .ok (.new 51, 3) := by decide +kernel
theorem dX10_init_73 : decode cX10_init 73 = .ok (.dup, 1) := by decide +kernel
theorem dX10_init_74 : decode cX10_init 74 = .ok (.invokespecial 53, 3) := by decide +kernel
theorem dX10_init_77 : decode cX10_init 77 = .ok (.putfield 54, 3) := by decide +kernel
theorem dX10_init_80 : decode cX10_init 80 = .ok (.aload_n 0, 1) := by decide +kernel
theorem dX10_init_81 : decode cX10_init 81 = .ok (.new 58, 3) := by decide +kernel
theorem dX10_init_84 : decode cX10_init 84 = .ok (.dup, 1) := by decide +kernel
theorem dX10_init_85 : decode cX10_init 85 = .ok (.invokespecial 60, 3) := by decide +kernel
theorem dX10_init_88 : decode cX10_init 88 = .ok (.putfield 61, 3) := by decide +kernel
theorem dX10_init_91 : decode cX10_init 91 = .ok (.aload_n 0, 1) := by decide +kernel
theorem dX10_init_92 : decode cX10_init 92 = .ok (.new 65, 3) := by decide +kernel
theorem dX10_init_95 : decode cX10_init 95 = .ok (.dup, 1) := by decide +kernel
theorem dX10_init_96 : decode cX10_init 96 = .ok (.invokespecial 67, 3) := by decide +kernel
theorem dX10_init_99 : decode cX10_init 99 = .ok (.putfield 68, 3) := by decide +kernel
theorem dX10_init_102 : decode cX10_init 102 = .ok (.aload_n 0, 1) := by decide +kernel
theorem dX10_init_103 : decode cX10_init 103 = .ok (.new 65, 3) := by decide +kernel
theorem dX10_init_106 : decode cX10_init 106 = .ok (.dup, 1) := by decide +kernel
theorem dX10_init_107 : decode cX10_init 107 = .ok (.invokespecial 67, 3) := by decide +kernel
theorem dX10_init_110 : decode cX10_init 110 = .ok (.putfield 72, 3) := by decide +kernel
theorem dX10_init_113 : decode cX10_init 113 = .ok (.aload_n 0, 1) := by decide +kernel
theorem dX10_init_114 : decode cX10_init 114 = .ok (.new 75, 3) := by decide +kernel
theorem dX10_init_117 : decode cX10_init 117 = .ok (.dup, 1) := by decide +kernel
theorem dX10_init_118 : decode cX10_init 118 = .ok (.invokespecial 77, 3) := by decide +kernel
theorem dX10_init_121 : decode cX10_init 121 = .ok (.putfield 78, 3) := by decide +kernel
theorem dX10_init_124 : decode cX10_init 124 = .ok (.iconst 0, 1) := by decide +kernel
theorem dX10_init_125 : decode cX10_init 125 = .ok (.istore_n 1, 1) := by decide +kernel
theorem dX10_init_126 : decode cX10_init 126 = .ok (.iload_n 1, 1) := by decide +kernel
theorem dX10_init_127 : decode cX10_init 127 = .ok (.bipush 6, 2) := by decide +kernel
theorem dX10_init_129 : decode cX10_init 129 = .ok (.if_icmp .ge 24, 3) := by decide +kernel
theorem dX10_init_132 : decode cX10_init 132 = .ok (.aload_n 0, 1) := by decide +kernel
theorem dX10_init_133 : decode cX10_init 133 = .ok (.getfield 11, 3) := by decide +kernel
theorem dX10_init_136 : decode cX10_init 136 = .ok (.iload_n 1, 1) := by decide +kernel
theorem dX10_init_137 : decode cX10_init 137 = .ok (.new 9, 3) := by decide +kernel
theorem dX10_init_140 : decode cX10_init 140 = .ok (.dup, 1) := by decide +kernel
theorem dX10_init_141 : decode cX10_init 141 = .ok (.iconst 0, 1) := by decide +kernel
theorem dX10_init_142 : decode cX10_init 142 = .ok (.iconst 0, 1) := by decide +kernel
theorem dX10_init_143 : decode cX10_init 143 = .ok (.invokespecial 82, 3) := by decide +kernel
theorem dX10_init_146 : decode cX10_init 146 = .ok (.aastore, 1) := by decide +kernel
theorem dX10_init_147 : decode cX10_init 147 = .ok (.iinc 1 1, 3) := by decide +kernel
theorem dX10_init_150 : decode cX10_init 150 = .ok (.goto (-24), 3) := by decide +kernel
theorem dX10_init_153 : decode cX10_init 153 = .ok (.iconst 0, 1) := by decide +kernel
theorem dX10_init_154 : decode cX10_init 154 = .ok (.istore_n 1, 1) := by decide +kernel
theorem dX10_init_155 : decode cX10_init 155 = .ok (.iload_n 1, 1) := by decide +kernel
theorem dX10_init_156 : decode cX10_init 156 = .ok (.iconst 3, 1) := by decide +kernel
theorem dX10_init_157 : decode cX10_init 157 = .ok (.if_icmp .ge 22, 3) := by decide +kernel
theorem dX10_init_160 : decode cX10_init 160 = .ok (.aload_n 0, 1) := by decide +kernel
theorem dX10_init_161 : decode cX10_init 161 = .ok (.getfield 47, 3) := by decide +kernel
theorem dX10_init_164 : decode cX10_init 164 = .ok (.iload_n 1, 1) := by decide +kernel
theorem dX10_init_165 : decode cX10_init 165 = .ok (.new 40, 3) := by decide +kernel
theorem dX10_init_168 : decode cX10_init 168 = .ok (.dup, 1) := by decide +kernel
theorem dX10_init_169 : decode cX10_init 169 = .ok (.invokespecial 42, 3) := by decide +kernel
theorem dX10_init_172 : decode cX10_init 172 = .ok (.aastore, 1) := by decide +kernel
theorem dX10_init_173 : decode cX10_init 173 = .ok (.iinc 1 1, 3) := by decide +kernel
theorem dX10_init_176 : decode cX10_init 176 = .ok (.goto (-21), 3) := by decide +kernel
theorem dX10_init_179 : decode cX10_init 179 = .ok (.getstatic 33, 3) := by decide +kernel
theorem dX10_init_182 : decode cX10_init 182 = .ok (.iconst 0, 1) := by decide +kernel
theorem dX10_init_183 : decode cX10_init 183 = .ok (.aload_n 0, 1) := by decide +kernel
theorem dX10_init_184 : decode cX10_init 184 = .ok (.getfield 37, 3) := by decide +kernel
theorem dX10_init_187 : decode cX10_init 187 = .ok (.iconst 0, 1) := by decide +kernel
theorem dX10_init_188 : decode cX10_init 188 = .ok (.getstatic 33, 3) := by decide +kernel
theorem dX10_init_191 : decode cX10_init 191 = .ok (.arraylength, 1) := by decide +kernel
theorem dX10_init_192 : decode cX10_init 192 = .ok (.invokestatic 85, 3) := by decide +kernel
theorem dX10_init_195 : decode cX10_init 195 = .ok (.return_, 1) := by decide +kernel
theorem dX10_town_0 : decode cX10_town 0 = .ok (.iload_n 1, 1) := by decide +kernel
theorem dX10_town_1 : decode cX10_town 1 = .ok (.invokestatic 91, 3) := by decide +kernel
theorem dX10_town_4 : decode cX10_town 4 = .ok (.ifCond .ne 5, 3) := by decide +kernel
theorem dX10_town_7 : decode cX10_town 7 = .ok (.iconst (-1), 1) := by decide +kernel
theorem dX10_town_8 : decode cX10_town 8 = .ok (.ireturn, 1) := by decide +kernel
theorem dX10_town_9 : decode cX10_town 9 = .ok (.iload_n 2, 1) := by decide +kernel
theorem dX10_town_10 : decode cX10_town 10 = .ok (.iload_n 3, 1) := by decide +kernel
theorem dX10_town_11 : decode cX10_town 11 = .ok (.invokestatic 95, 3) := by decide +kernel
theorem dX10_town_14 : decode cX10_town 14 = .ok (.ifCond .ne 6, 3) := by decide +kernel
theorem dX10_town_17 : decode cX10_town 17 = .ok (.bipush (-2), 2) := by decide +kernel
theorem dX10_town_19 : decode cX10_town 19 = .ok (.ireturn, 1) := by decide +kernel
theorem dX10_town_20 : decode cX10_town 20 = .ok (.aload_n 0, 1) := by decide +kernel
theorem dX10_town_21 : decode cX10_town 21 = .ok (.getfield 11, 3) := by decide +kernel
theorem dX10_town_24 : decode cX10_town 24 = .ok (.iload_n 1, 1) := by decide +kernel
theorem dX10_town_25 : decode cX10_town 25 = .ok (.aaload, 1) := by decide +kernel
theorem dX10_town_26 : decode cX10_town 26 = .ok (.iload_n 2, 1) := by decide +kernel
theorem dX10_town_27 : decode cX10_town 27 = .ok (.putfield 99, 3) := by decide +kernel
theorem dX10_town_30 : decode cX10_town 30 = .ok (.aload_n 0, 1) := by decide +kernel
theorem dX10_town_31 : decode cX10_town 31 = .ok (.getfield 11, 3) := by decide +kernel
theorem dX10_town_34 : decode cX10_town 34 = .ok (.iload_n 1, 1) := by decide +kernel
theorem dX10_town_35 : decode cX10_town 35 = .ok (.aaload, 1) := by decide +kernel
theorem dX10_town_36 : decode cX10_town 36 = .ok (.iload_n 3, 1) := by decide +kernel
theorem dX10_town_37 : decode cX10_town 37 = .ok (.putfield 103, 3) := by decide +kernel
theorem dX10_town_40 : decode cX10_town 40 = .ok (.iconst 1, 1) := by decide +kernel
theorem dX10_town_41 : decode cX10_town 41 = .ok (.ireturn, 1) := by decide +kernel
theorem dX10_pit_0 : decode cX10_pit 0 = .ok (.iload_n 1, 1) := by decide +kernel
theorem dX10_pit_1 : decode cX10_pit 1 = .ok (.iload_n 2, 1) := by decide +kernel
theorem dX10_pit_2 : decode cX10_pit 2 = .ok (.invokestatic 95, 3) := by decide +kernel
theorem dX10_pit_5 : decode cX10_pit 5 = .ok (.ifCond .eq 38, 3) := by decide +kernel
theorem dX10_pit_8 : decode cX10_pit 8 = .ok (.iload_n 3, 1) := by decide +kernel
theorem dX10_pit_9 : decode cX10_pit 9 = .ok (.iconst 0, 1) := by decide +kernel
theorem dX10_pit_10 : decode cX10_pit 10 = .ok (.sipush 1000, 3) := by decide +kernel
theorem dX10_pit_13 : decode cX10_pit 13 = .ok (.invokestatic 106, 3) := by decide +kernel
theorem dX10_pit_16 : decode cX10_pit 16 = .ok (.ifCond .eq 27, 3) := by decide +kernel
theorem dX10_pit_19 : decode cX10_pit 19 = .ok (.iload 4, 2) := by decide +kernel
theorem dX10_pit_21 : decode cX10_pit 21 = .ok (.iconst 0, 1) := by decide +kernel
theorem dX10_pit_22 : decode cX10_pit 22 = .ok (.sipush 200, 3) := by decide +kernel
theorem dX10_pit_25 : decode cX10_pit 25 = .ok (.invokestatic 106, 3) := by decide +kernel
theorem dX10_pit_28 : decode cX10_pit 28 = .ok (.ifCond .eq 15, 3) := by decide +kernel
theorem dX10_pit_31 : decode cX10_pit 31 = .ok (.iload 5, 2) := by decide +kernel
theorem dX10_pit_33 : decode cX10_pit 33 = .ok (.iconst 1, 1) := by decide +kernel
theorem dX10_pit_34 : decode cX10_pit 34 = .ok (.sipush 1000, 3) := by decide +kernel
theorem dX10_pit_37 : decode cX10_pit 37 = .ok (.invokestatic 106, 3) := by decide +kernel
theorem dX10_pit_40 : decode cX10_pit 40 = .ok (.ifCond .ne 6, 3) := by decide +kernel
theorem dX10_pit_43 : decode cX10_pit 43 = .ok (.bipush (-2), 2) := by decide +kernel
theorem dX10_pit_45 : decode cX10_pit 45 = .ok (.ireturn, 1) := by decide +kernel
theorem dX10_pit_46 : decode cX10_pit 46 = .ok (.aload_n 0, 1) := by decide +kernel
theorem dX10_pit_47 : decode cX10_pit 47 = .ok (.getfield 110, 3) := by decide +kernel
theorem dX10_pit_50 : decode cX10_pit 50 = .ok (.bipush 8, 2) := by decide +kernel
theorem dX10_pit_52 : decode cX10_pit 52 = .ok (.if_icmp .lt 6, 3) := by decide +kernel
theorem dX10_pit_55 : decode cX10_pit 55 = .ok (.bipush (-4), 2) := by decide +kernel
theorem dX10_pit_57 : decode cX10_pit 57 = .ok (.ireturn, 1) := by decide +kernel
theorem dX10_pit_58 : decode cX10_pit 58 = .ok (.aload_n 0, 1) := by decide +kernel
theorem dX10_pit_59 : decode cX10_pit 59 = .ok (.getfield 17, 3) := by decide +kernel
theorem dX10_pit_62 : decode cX10_pit 62 = .ok (.aload_n 0, 1) := by decide +kernel
theorem dX10_pit_63 : decode cX10_pit 63 = .ok (.getfield 110, 3) := by decide +kernel
theorem dX10_pit_66 : decode cX10_pit 66 = .ok (.new 15, 3) := by decide +kernel
theorem dX10_pit_69 : decode cX10_pit 69 = .ok (.dup, 1) := by decide +kernel
theorem dX10_pit_70 : decode cX10_pit 70 = .ok (.new 9, 3) := by decide +kernel
theorem dX10_pit_73 : decode cX10_pit 73 = .ok (.dup, 1) := by decide +kernel
theorem dX10_pit_74 : decode cX10_pit 74 = .ok (.iload_n 1, 1) := by decide +kernel
theorem dX10_pit_75 : decode cX10_pit 75 = .ok (.iload_n 2, 1) := by decide +kernel
theorem dX10_pit_76 : decode cX10_pit 76 = .ok (.invokespecial 82, 3) := by decide +kernel
theorem dX10_pit_79 : decode cX10_pit 79 = .ok (.iload_n 3, 1) := by decide +kernel
theorem dX10_pit_80 : decode cX10_pit 80 = .ok (.iload 4, 2) := by decide +kernel
theorem dX10_pit_82 : decode cX10_pit 82 = .ok (.iload 5, 2) := by decide +kernel
theorem dX10_pit_84 : decode cX10_pit 84 = .ok (.invokespecial 113, 3) := by decide +kernel
theorem dX10_pit_87 : decode cX10_pit 87 = .ok (.aastore, 1) := by decide +kernel
theorem dX10_pit_88 : decode cX10_pit 88 = .ok (.aload_n 0, 1) := by decide +kernel
theorem dX10_pit_89 : decode cX10_pit 89 = .ok (.getfield 68, 3) := by decide +kernel
theorem dX10_pit_92 : decode cX10_pit 92 = .ok (.iload 5, 2) := by decide +kernel
theorem dX10_pit_94 : decode cX10_pit 94 = .ok (.invokevirtual 116, 3) := by decide +kernel
theorem dX10_pit_97 : decode cX10_pit 97 = .ok (.aload_n 0, 1) := by decide +kernel
theorem dX10_pit_98 : decode cX10_pit 98 = .ok (.dup, 1) := by decide +kernel
theorem dX10_pit_99 : decode cX10_pit 99 = .ok (.getfield 110, 3) := by decide +kernel
theorem dX10_pit_102 : decode cX10_pit 102 = .ok (.dup_x1, 1) := by decide +kernel
theorem dX10_pit_103 : decode cX10_pit 103 = .ok (.iconst 1, 1) := by decide +kernel
theorem dX10_pit_104 : decode cX10_pit 104 = .ok (.iadd, 1) := by decide +kernel
theorem dX10_pit_105 : decode cX10_pit 105 = .ok (.putfield 110, 3) := by decide +kernel
theorem dX10_pit_108 : decode cX10_pit 108 = .ok (.ireturn, 1) := by decide +kernel
theorem dX10_about_0 : decode cX10_about 0 = .ok (.aload_n 0, 1) := by decide +kernel
theorem dX10_about_1 : decode cX10_about 1 = .ok (.iload_n 1, 1) := by decide +kernel
theorem dX10_about_2 : decode cX10_about 2 = .ok (.invokevirtual 120, 3) := by decide +kernel
theorem dX10_about_5 : decode cX10_about 5 = .ok (.ifCond .ne 5, 3) := by decide +kernel
theorem dX10_about_8 : decode cX10_about 8 = .ok (.iconst (-1), 1) := by decide +kernel
theorem dX10_about_9 : decode cX10_about 9 = .ok (.ireturn, 1) := by decide +kernel
theorem dX10_about_10 : decode cX10_about 10 = .ok (.aload_n 0, 1) := by decide +kernel
theorem dX10_about_11 : decode cX10_about 11 = .ok (.getfield 17, 3) := by decide +kernel
theorem dX10_about_14 : decode cX10_about 14 = .ok (.iload_n 1, 1) := by decide +kernel
theorem dX10_about_15 : decode cX10_about 15 = .ok (.aaload, 1) := by decide +kernel
theorem dX10_about_16 : decode cX10_about 16 = .ok (.astore_n 3, 1) := by decide +kernel
theorem dX10_about_17 : decode cX10_about 17 = .ok (.iload_n 2, 1) := by decide +kernel
theorem dX10_about_18 : decode cX10_about 18 = .ok (.tableswitch 154 0 12 #[66, 74, 82, 87, 92, 97, 105, 111, 121, 131, 144, 144, 144], 66) := by decide +kernel
theorem dX10_about_84 : decode cX10_about 84 = .ok (.aload_n 3, 1) := by decide +kernel
theorem dX10_about_85 : decode cX10_about 85 = .ok (.getfield 123, 3) := by decide +kernel
theorem dX10_about_88 : decode cX10_about 88 = .ok (.getfield 99, 3) := by decide +kernel
theorem dX10_about_91 : decode cX10_about 91 = .ok (.ireturn, 1) := by decide +kernel
theorem dX10_about_92 : decode cX10_about 92 = .ok (.aload_n 3, 1) := by decide +kernel
theorem dX10_about_93 : decode cX10_about 93 = .ok (.getfield 123, 3) := by decide +kernel
theorem dX10_about_96 : decode cX10_about 96 = .ok (.getfield 103, 3) := by decide +kernel
theorem dX10_about_99 : decode cX10_about 99 = .ok (.ireturn, 1) := by decide +kernel
theorem dX10_about_100 : decode cX10_about 100 = .ok (.aload_n 3, 1) := by decide +kernel
theorem dX10_about_101 : decode cX10_about 101 = .ok (.getfield 127, 3) := by decide +kernel
theorem dX10_about_104 : decode cX10_about 104 = .ok (.ireturn, 1) := by decide +kernel
theorem dX10_about_105 : decode cX10_about 105 = .ok (.aload_n 3, 1) := by decide +kernel
theorem dX10_about_106 : decode cX10_about 106 = .ok (.getfield 130, 3) := by decide +kernel
theorem dX10_about_109 : decode cX10_about 109 = .ok (.ireturn, 1) := by decide +kernel
theorem dX10_about_110 : decode cX10_about 110 = .ok (.aload_n 3, 1) := by decide +kernel
theorem dX10_about_111 : decode cX10_about 111 = .ok (.getfield 133, 3) := by decide +kernel
theorem dX10_about_114 : decode cX10_about 114 = .ok (.ireturn, 1) := by decide +kernel
theorem dX10_about_115 : decode cX10_about 115 = .ok (.aload_n 3, 1) := by decide +kernel
theorem dX10_about_116 : decode cX10_about 116 = .ok (.getfield 136, 3) := by decide +kernel
theorem dX10_about_119 : decode cX10_about 119 = .ok (.invokestatic 140, 3) := by decide +kernel
theorem dX10_about_122 : decode cX10_about 122 = .ok (.ireturn, 1) := by decide +kernel
theorem dX10_about_123 : decode cX10_about 123 = .ok (.aload_n 0, 1) := by decide +kernel
theorem dX10_about_124 : decode cX10_about 124 = .ok (.iload_n 1, 1) := by decide +kernel
theorem dX10_about_125 : decode cX10_about 125 = .ok (.invokevirtual 144, 3) := by decide +kernel
theorem dX10_about_128 : decode cX10_about 128 = .ok (.ireturn, 1) := by decide +kernel
theorem dX10_about_129 : decode cX10_about 129 = .ok (.aload_n 0, 1) := by decide +kernel
theorem dX10_about_130 : decode cX10_about 130 = .ok (.getfield 68, 3) := by decide +kernel
theorem dX10_about_133 : decode cX10_about 133 = .ok (.getfield 148, 3) := by decide +kernel
theorem dX10_about_136 : decode cX10_about 136 = .ok (.iload_n 1, 1) := by decide +kernel
theorem dX10_about_137 : decode cX10_about 137 = .ok (.iaload, 1) := by decide +kernel
theorem dX10_about_138 : decode cX10_about 138 = .ok (.ireturn, 1) := by decide +kernel
theorem dX10_about_139 : decode cX10_about 139 = .ok (.aload_n 0, 1) := by decide +kernel
theorem dX10_about_140 : decode cX10_about 140 = .ok (.getfield 68, 3) := by decide +kernel
theorem dX10_about_143 : decode cX10_about 143 = .ok (.getfield 151, 3) := by decide +kernel
theorem dX10_about_146 : decode cX10_about 146 = .ok (.iload_n 1, 1) := by decide +kernel
theorem dX10_about_147 : decode cX10_about 147 = .ok (.iaload, 1) := by decide +kernel
theorem dX10_about_148 : decode cX10_about 148 = .ok (.ireturn, 1) := by decide +kernel
theorem dX10_about_149 : decode cX10_about 149 = .ok (.aload_n 0, 1) := by decide +kernel
theorem dX10_about_150 : decode cX10_about 150 = .ok (.getfield 68, 3) := by decide +kernel
theorem dX10_about_153 : decode cX10_about 153 = .ok (.getfield 154, 3) := by decide +kernel
theorem dX10_about_156 : decode cX10_about 156 = .ok (.iload_n 1, 1) := by decide +kernel
theorem dX10_about_157 : decode cX10_about 157 = .ok (.baload, 1) := by decide +kernel
theorem dX10_about_158 : decode cX10_about 158 = .ok (.invokestatic 140, 3) := by decide +kernel
theorem dX10_about_161 : decode cX10_about 161 = .ok (.ireturn, 1) := by decide +kernel
theorem dX10_about_162 : decode cX10_about 162 = .ok (.aload_n 3, 1) := by decide +kernel
theorem dX10_about_163 : decode cX10_about 163 = .ok (.getfield 158, 3) := by decide +kernel
theorem dX10_about_166 : decode cX10_about 166 = .ok (.iload_n 2, 1) := by decide +kernel
theorem dX10_about_167 : decode cX10_about 167 = .ok (.bipush 10, 2) := by decide +kernel
theorem dX10_about_169 : decode cX10_about 169 = .ok (.isub, 1) := by decide +kernel
theorem dX10_about_170 : decode cX10_about 170 = .ok (.iaload, 1) := by decide +kernel
theorem dX10_about_171 : decode cX10_about 171 = .ok (.ireturn, 1) := by decide +kernel
theorem dX10_about_172 : decode cX10_about 172 = .ok (.bipush (-2), 2) := by decide +kernel
theorem dX10_about_174 : decode cX10_about 174 = .ok (.ireturn, 1) := by decide +kernel
theorem dX10_man_0 : decode cX10_man 0 = .ok (.iload 4, 2) := by decide +kernel
theorem dX10_man_2 : decode cX10_man 2 = .ok (.invokestatic 91, 3) := by decide +kernel
theorem dX10_man_5 : decode cX10_man 5 = .ok (.ifCond .eq 12, 3) := by decide +kernel
theorem dX10_man_8 : decode cX10_man 8 = .ok (.aload_n 0, 1) := by decide +kernel
theorem dX10_man_9 : decode cX10_man 9 = .ok (.iload 5, 2) := by decide +kernel
theorem dX10_man_11 : decode cX10_man 11 = .ok (.invokevirtual 120, 3) := by decide +kernel
theorem dX10_man_14 : decode cX10_man 14 = .ok (.ifCond .ne 5, 3) := by decide +kernel
theorem dX10_man_17 : decode cX10_man 17 = .ok (.iconst (-1), 1) := by decide +kernel
theorem dX10_man_18 : decode cX10_man 18 = .ok (.ireturn, 1) := by decide +kernel
theorem dX10_man_19 : decode cX10_man 19 = .ok (.iload_n 1, 1) := by decide +kernel
theorem dX10_man_20 : decode cX10_man 20 = .ok (.bipush 14, 2) := by decide +kernel
theorem dX10_man_22 : decode cX10_man 22 = .ok (.bipush 70, 2) := by decide +kernel
theorem dX10_man_24 : decode cX10_man 24 = .ok (.invokestatic 106, 3) := by decide +kernel
theorem dX10_man_27 : decode cX10_man 27 = .ok (.ifCond .eq 20, 3) := by decide +kernel
theorem dX10_man_30 : decode cX10_man 30 = .ok (.iload_n 2, 1) := by decide +kernel
theorem dX10_man_31 : decode cX10_man 31 = .ok (.invokestatic 161, 3) := by decide +kernel
theorem dX10_man_34 : decode cX10_man 34 = .ok (.ifCond .eq 13, 3) := by decide +kernel
theorem dX10_man_37 : decode cX10_man 37 = .ok (.iload_n 3, 1) := by decide +kernel
theorem dX10_man_38 : decode cX10_man 38 = .ok (.iconst 0, 1) := by decide +kernel
theorem dX10_man_39 : decode cX10_man 39 = .ok (.bipush 50, 2) := by decide +kernel
theorem dX10_man_41 : decode cX10_man 41 = .ok (.invokestatic 106, 3) := by decide +kernel
theorem dX10_man_44 : decode cX10_man 44 = .ok (.ifCond .ne 6, 3) := by decide +kernel
theorem dX10_man_47 : decode cX10_man 47 = .ok (.bipush (-2), 2) := by decide +kernel
theorem dX10_man_49 : decode cX10_man 49 = .ok (.ireturn, 1) := by decide +kernel
theorem dX10_man_50 : decode cX10_man 50 = .ok (.aload_n 0, 1) := by decide +kernel
theorem dX10_man_51 : decode cX10_man 51 = .ok (.getfield 17, 3) := by decide +kernel
theorem dX10_man_54 : decode cX10_man 54 = .ok (.iload 5, 2) := by decide +kernel
theorem dX10_man_56 : decode cX10_man 56 = .ok (.aaload, 1) := by decide +kernel
theorem dX10_man_57 : decode cX10_man 57 = .ok (.getfield 136, 3) := by decide +kernel
theorem dX10_man_60 : decode cX10_man 60 = .ok (.ifCond .ne 6, 3) := by decide +kernel
theorem dX10_man_63 : decode cX10_man 63 = .ok (.bipush (-3), 2) := by decide +kernel
theorem dX10_man_65 : decode cX10_man 65 = .ok (.ireturn, 1) := by decide +kernel
theorem dX10_man_66 : decode cX10_man 66 = .ok (.aload_n 0, 1) := by decide +kernel
theorem dX10_man_67 : decode cX10_man 67 = .ok (.getfield 164, 3) := by decide +kernel
theorem dX10_man_70 : decode cX10_man 70 = .ok (.bipush 24, 2) := by decide +kernel
theorem dX10_man_72 : decode cX10_man 72 = .ok (.if_icmp .lt 6, 3) := by decide +kernel
theorem dX10_man_75 : decode cX10_man 75 = .ok (.bipush (-4), 2) := by decide +kernel
theorem dX10_man_77 : decode cX10_man 77 = .ok (.ireturn, 1) := by decide +kernel
theorem dX10_man_78 : decode cX10_man 78 = .ok (.aload_n 0, 1) := by decide +kernel
theorem dX10_man_79 : decode cX10_man 79 = .ok (.getfield 23, 3) := by decide +kernel
theorem dX10_man_82 : decode cX10_man 82 = .ok (.aload_n 0, 1) := by decide +kernel
theorem dX10_man_83 : decode cX10_man 83 = .ok (.getfield 164, 3) := by decide +kernel
theorem dX10_man_86 : decode cX10_man 86 = .ok (.new 21, 3) := by decide +kernel
theorem dX10_man_89 : decode cX10_man 89 = .ok (.dup, 1) := by decide +kernel
theorem dX10_man_90 : decode cX10_man 90 = .ok (.iload_n 1, 1) := by decide +kernel
theorem dX10_man_91 : decode cX10_man 91 = .ok (.iload_n 2, 1) := by decide +kernel
theorem dX10_man_92 : decode cX10_man 92 = .ok (.iload_n 3, 1) := by decide +kernel
theorem dX10_man_93 : decode cX10_man 93 = .ok (.iload 4, 2) := by decide +kernel
theorem dX10_man_95 : decode cX10_man 95 = .ok (.iload 5, 2) := by decide +kernel
theorem dX10_man_97 : decode cX10_man 97 = .ok (.iload 6, 2) := by decide +kernel
theorem dX10_man_99 : decode cX10_man 99 = .ok (.invokespecial 167, 3) := by decide +kernel
theorem dX10_man_102 : decode cX10_man 102 = .ok (.aastore, 1) := by decide +kernel
theorem dX10_man_103 : decode cX10_man 103 = .ok (.aload_n 0, 1) := by decide +kernel
theorem dX10_man_104 : decode cX10_man 104 = .ok (.dup, 1) := by decide +kernel
theorem dX10_man_105 : decode cX10_man 105 = .ok (.getfield 164, 3) := by decide +kernel
theorem dX10_man_108 : decode cX10_man 108 = .ok (.dup_x1, 1) := by decide +kernel
theorem dX10_man_109 : decode cX10_man 109 = .ok (.iconst 1, 1) := by decide +kernel
theorem dX10_man_110 : decode cX10_man 110 = .ok (.iadd, 1) := by decide +kernel
theorem dX10_man_111 : decode cX10_man 111 = .ok (.putfield 164, 3) := by decide +kernel
theorem dX10_man_114 : decode cX10_man 114 = .ok (.ireturn, 1) := by decide +kernel
theorem dX10_ofMan_0 : decode cX10_ofMan 0 = .ok (.aload_n 0, 1) := by decide +kernel
theorem dX10_ofMan_1 : decode cX10_ofMan 1 = .ok (.iload_n 1, 1) := by decide +kernel
theorem dX10_ofMan_2 : decode cX10_ofMan 2 = .ok (.invokevirtual 170, 3) := by decide +kernel
theorem dX10_ofMan_5 : decode cX10_ofMan 5 = .ok (.ifCond .ne 5, 3) := by decide +kernel
theorem dX10_ofMan_8 : decode cX10_ofMan 8 = .ok (.iconst (-1), 1) := by decide +kernel
theorem dX10_ofMan_9 : decode cX10_ofMan 9 = .ok (.ireturn, 1) := by decide +kernel
theorem dX10_ofMan_10 : decode cX10_ofMan 10 = .ok (.aload_n 0, 1) := by decide +kernel
theorem dX10_ofMan_11 : decode cX10_ofMan 11 = .ok (.getfield 23, 3) := by decide +kernel
theorem dX10_ofMan_14 : decode cX10_ofMan 14 = .ok (.iload_n 1, 1) := by decide +kernel
theorem dX10_ofMan_15 : decode cX10_ofMan 15 = .ok (.aaload, 1) := by decide +kernel
theorem dX10_ofMan_16 : decode cX10_ofMan 16 = .ok (.astore_n 3, 1) := by decide +kernel
theorem dX10_ofMan_17 : decode cX10_ofMan 17 = .ok (.iload_n 2, 1) := by decide +kernel
theorem dX10_ofMan_18 : decode cX10_ofMan 18 = .ok (.tableswitch 80 0 6 #[42, 47, 52, 57, 62, 67, 75], 42) := by decide +kernel
theorem dX10_ofMan_60 : decode cX10_ofMan 60 = .ok (.aload_n 3, 1) := by decide +kernel
theorem dX10_ofMan_61 : decode cX10_ofMan 61 = .ok (.getfield 173, 3) := by decide +kernel
theorem dX10_ofMan_64 : decode cX10_ofMan 64 = .ok (.ireturn, 1) := by decide +kernel
theorem dX10_ofMan_65 : decode cX10_ofMan 65 = .ok (.aload_n 3, 1) := by decide +kernel
theorem dX10_ofMan_66 : decode cX10_ofMan 66 = .ok (.getfield 176, 3) := by decide +kernel
theorem dX10_ofMan_69 : decode cX10_ofMan 69 = .ok (.ireturn, 1) := by decide +kernel
theorem dX10_ofMan_70 : decode cX10_ofMan 70 = .ok (.aload_n 3, 1) := by decide +kernel
theorem dX10_ofMan_71 : decode cX10_ofMan 71 = .ok (.getfield 179, 3) := by decide +kernel
theorem dX10_ofMan_74 : decode cX10_ofMan 74 = .ok (.ireturn, 1) := by decide +kernel
theorem dX10_ofMan_75 : decode cX10_ofMan 75 = .ok (.aload_n 3, 1) := by decide +kernel
theorem dX10_ofMan_76 : decode cX10_ofMan 76 = .ok (.getfield 182, 3) := by decide +kernel
theorem dX10_ofMan_79 : decode cX10_ofMan 79 = .ok (.ireturn, 1) := by decide +kernel
theorem dX10_ofMan_80 : decode cX10_ofMan 80 = .ok (.aload_n 3, 1) := by decide +kernel
theorem dX10_ofMan_81 : decode cX10_ofMan 81 = .ok (.getfield 185, 3) := by decide +kernel
theorem dX10_ofMan_84 : decode cX10_ofMan 84 = .ok (.ireturn, 1) := by decide +kernel
theorem dX10_ofMan_85 : decode cX10_ofMan 85 = .ok (.aload_n 3, 1) := by decide +kernel
theorem dX10_ofMan_86 : decode cX10_ofMan 86 = .ok (.getfield 188, 3) := by decide +kernel
theorem dX10_ofMan_89 : decode cX10_ofMan 89 = .ok (.invokestatic 140, 3) := by decide +kernel
theorem dX10_ofMan_92 : decode cX10_ofMan 92 = .ok (.ireturn, 1) := by decide +kernel
theorem dX10_ofMan_93 : decode cX10_ofMan 93 = .ok (.aload_n 3, 1) := by decide +kernel
theorem dX10_ofMan_94 : decode cX10_ofMan 94 = .ok (.getfield 191, 3) := by decide +kernel
theorem dX10_ofMan_97 : decode cX10_ofMan 97 = .ok (.ireturn, 1) := by decide +kernel
theorem dX10_ofMan_98 : decode cX10_ofMan 98 = .ok (.bipush (-2), 2) := by decide +kernel
theorem dX10_ofMan_100 : decode cX10_ofMan 100 = .ok (.ireturn, 1) := by decide +kernel
theorem dX10_leave_0 : decode cX10_leave 0 = .ok (.aload_n 0, 1) := by decide +kernel
theorem dX10_leave_1 : decode cX10_leave 1 = .ok (.iload_n 1, 1) := by decide +kernel
theorem dX10_leave_2 : decode cX10_leave 2 = .ok (.invokevirtual 170, 3) := by decide +kernel
theorem dX10_leave_5 : decode cX10_leave 5 = .ok (.ifCond .ne 5, 3) := by decide +kernel
theorem dX10_leave_8 : decode cX10_leave 8 = .ok (.iconst (-1), 1) := by decide +kernel
theorem dX10_leave_9 : decode cX10_leave 9 = .ok (.ireturn, 1) := by decide +kernel
theorem dX10_leave_10 : decode cX10_leave 10 = .ok (.aload_n 0, 1) := by decide +kernel
theorem dX10_leave_11 : decode cX10_leave 11 = .ok (.getfield 23, 3) := by decide +kernel
theorem dX10_leave_14 : decode cX10_leave 14 = .ok (.iload_n 1, 1) := by decide +kernel
theorem dX10_leave_15 : decode cX10_leave 15 = .ok (.aaload, 1) := by decide +kernel
theorem dX10_leave_16 : decode cX10_leave 16 = .ok (.getfield 191, 3) := by decide +kernel
theorem dX10_leave_19 : decode cX10_leave 19 = .ok (.istore_n 2, 1) := by decide +kernel
theorem dX10_leave_20 : decode cX10_leave 20 = .ok (.iload_n 2, 1) := by decide +kernel
theorem dX10_leave_21 : decode cX10_leave 21 = .ok (.iconst 4, 1) := by decide +kernel
theorem dX10_leave_22 : decode cX10_leave 22 = .ok (.if_icmp .ne 6, 3) := by decide +kernel
theorem dX10_leave_25 : decode cX10_leave 25 = .ok (.bipush (-5), 2) := by decide +kernel
theorem dX10_leave_27 : decode cX10_leave 27 = .ok (.ireturn, 1) := by decide +kernel
theorem dX10_leave_28 : decode cX10_leave 28 = .ok (.aload_n 0, 1) := by decide +kernel
theorem dX10_leave_29 : decode cX10_leave 29 = .ok (.getfield 23, 3) := by decide +kernel
theorem dX10_leave_32 : decode cX10_leave 32 = .ok (.iload_n 1, 1) := by decide +kernel
theorem dX10_leave_33 : decode cX10_leave 33 = .ok (.aaload, 1) := by decide +kernel
theorem dX10_leave_34 : decode cX10_leave 34 = .ok (.iconst 4, 1) := by decide +kernel
theorem dX10_leave_35 : decode cX10_leave 35 = .ok (.invokevirtual 194, 3) := by decide +kernel
theorem dX10_leave_38 : decode cX10_leave 38 = .ok (.iload_n 2, 1) := by decide +kernel
theorem dX10_leave_39 : decode cX10_leave 39 = .ok (.ireturn, 1) := by decide +kernel
theorem dX10_posts_0 : decode cX10_posts 0 = .ok (.aload_n 0, 1) := by decide +kernel
theorem dX10_posts_1 : decode cX10_posts 1 = .ok (.iload_n 1, 1) := by decide +kernel
theorem dX10_posts_2 : decode cX10_posts 2 = .ok (.invokevirtual 120, 3) := by decide +kernel
theorem dX10_posts_5 : decode cX10_posts 5 = .ok (.ifCond .ne 5, 3) := by decide +kernel
theorem dX10_posts_8 : decode cX10_posts 8 = .ok (.iconst (-1), 1) := by decide +kernel
theorem dX10_posts_9 : decode cX10_posts 9 = .ok (.ireturn, 1) := by decide +kernel
theorem dX10_posts_10 : decode cX10_posts 10 = .ok (.iload_n 2, 1) := by decide +kernel
theorem dX10_posts_11 : decode cX10_posts 11 = .ok (.invokestatic 161, 3) := by decide +kernel
theorem dX10_posts_14 : decode cX10_posts 14 = .ok (.ifCond .eq 13, 3) := by decide +kernel
theorem dX10_posts_17 : decode cX10_posts 17 = .ok (.iload_n 3, 1) := by decide +kernel
theorem dX10_posts_18 : decode cX10_posts 18 = .ok (.iconst 0, 1) := by decide +kernel
theorem dX10_posts_19 : decode cX10_posts 19 = .ok (.bipush 9, 2) := by decide +kernel
theorem dX10_posts_21 : decode cX10_posts 21 = .ok (.invokestatic 106, 3) := by decide +kernel
theorem dX10_posts_24 : decode cX10_posts 24 = .ok (.ifCond .ne 6, 3) := by decide +kernel
theorem dX10_posts_27 : decode cX10_posts 27 = .ok (.bipush (-2), 2) := by decide +kernel
theorem dX10_posts_29 : decode cX10_posts 29 = .ok (.ireturn, 1) := by decide +kernel
theorem dX10_posts_30 : decode cX10_posts 30 = .ok (.aload_n 0, 1) := by decide +kernel
theorem dX10_posts_31 : decode cX10_posts 31 = .ok (.getfield 17, 3) := by decide +kernel
theorem dX10_posts_34 : decode cX10_posts 34 = .ok (.iload_n 1, 1) := by decide +kernel
theorem dX10_posts_35 : decode cX10_posts 35 = .ok (.aaload, 1) := by decide +kernel
theorem dX10_posts_36 : decode cX10_posts 36 = .ok (.getfield 136, 3) := by decide +kernel
theorem dX10_posts_39 : decode cX10_posts 39 = .ok (.ifCond .ne 6, 3) := by decide +kernel
theorem dX10_posts_42 : decode cX10_posts 42 = .ok (.bipush (-3), 2) := by decide +kernel
theorem dX10_posts_44 : decode cX10_posts 44 = .ok (.ireturn, 1) := by decide +kernel
theorem dX10_posts_45 : decode cX10_posts 45 = .ok (.aload_n 0, 1) := by decide +kernel
theorem dX10_posts_46 : decode cX10_posts 46 = .ok (.getfield 17, 3) := by decide +kernel
theorem dX10_posts_49 : decode cX10_posts 49 = .ok (.iload_n 1, 1) := by decide +kernel
theorem dX10_posts_50 : decode cX10_posts 50 = .ok (.aaload, 1) := by decide +kernel
theorem dX10_posts_51 : decode cX10_posts 51 = .ok (.getfield 158, 3) := by decide +kernel
theorem dX10_posts_54 : decode cX10_posts 54 = .ok (.iload_n 2, 1) := by decide +kernel
theorem dX10_posts_55 : decode cX10_posts 55 = .ok (.iaload, 1) := by decide +kernel
theorem dX10_posts_56 : decode cX10_posts 56 = .ok (.istore 4, 2) := by decide +kernel
theorem dX10_posts_58 : decode cX10_posts 58 = .ok (.aload_n 0, 1) := by decide +kernel
theorem dX10_posts_59 : decode cX10_posts 59 = .ok (.getfield 17, 3) := by decide +kernel
theorem dX10_posts_62 : decode cX10_posts 62 = .ok (.iload_n 1, 1) := by decide +kernel
theorem dX10_posts_63 : decode cX10_posts 63 = .ok (.aaload, 1) := by decide +kernel
theorem dX10_posts_64 : decode cX10_posts 64 = .ok (.getfield 158, 3) := by decide +kernel
theorem dX10_posts_67 : decode cX10_posts 67 = .ok (.iload_n 2, 1) := by decide +kernel
theorem dX10_posts_68 : decode cX10_posts 68 = .ok (.iload_n 3, 1) := by decide +kernel
theorem dX10_posts_69 : decode cX10_posts 69 = .ok (.iastore, 1) := by decide +kernel
theorem dX10_posts_70 : decode cX10_posts 70 = .ok (.iload 4, 2) := by decide +kernel
theorem dX10_posts_72 : decode cX10_posts 72 = .ok (.ireturn, 1) := by decide +kernel
theorem dX10_set_0 : decode cX10_set 0 = .ok (.iload_n 1, 1) := by decide +kernel
theorem dX10_set_1 : decode cX10_set 1 = .ok (.iconst 0, 1) := by decide +kernel
theorem dX10_set_2 : decode cX10_set 2 = .ok (.aload_n 0, 1) := by decide +kernel
theorem dX10_set_3 : decode cX10_set 3 = .ok (.getfield 37, 3) := by decide +kernel
theorem dX10_set_6 : decode cX10_set 6 = .ok (.arraylength, 1) := by decide +kernel
theorem dX10_set_7 : decode cX10_set 7 = .ok (.iconst 1, 1) := by decide +kernel
theorem dX10_set_8 : decode cX10_set 8 = .ok (.isub, 1) := by decide +kernel
theorem dX10_set_9 : decode cX10_set 9 = .ok (.invokestatic 106, 3) := by decide +kernel
theorem dX10_set_12 : decode cX10_set 12 = .ok (.ifCond .eq 20, 3) := by decide +kernel
theorem dX10_set_15 : decode cX10_set 15 = .ok (.iload_n 2, 1) := by decide +kernel
theorem dX10_set_16 : decode cX10_set 16 = .ok (.getstatic 197, 3) := by decide +kernel
theorem dX10_set_19 : decode cX10_set 19 = .ok (.iload_n 1, 1) := by decide +kernel
theorem dX10_set_20 : decode cX10_set 20 = .ok (.iaload, 1) := by decide +kernel
theorem dX10_set_21 : decode cX10_set 21 = .ok (.getstatic 200, 3) := by decide +kernel
theorem dX10_set_24 : decode cX10_set 24 = .ok (.iload_n 1, 1) := by decide +kernel
theorem dX10_set_25 : decode cX10_set 25 = .ok (.iaload, 1) := by decide +kernel
theorem dX10_set_26 : decode cX10_set 26 = .ok (.invokestatic 106, 3) := by decide +kernel
theorem dX10_set_29 : decode cX10_set 29 = .ok (.ifCond .ne 6, 3) := by decide +kernel
theorem dX10_set_32 : decode cX10_set 32 = .ok (.bipush (-2), 2) := by decide +kernel
theorem dX10_set_34 : decode cX10_set 34 = .ok (.ireturn, 1) := by decide +kernel
theorem dX10_set_35 : decode cX10_set 35 = .ok (.aload_n 0, 1) := by decide +kernel
theorem dX10_set_36 : decode cX10_set 36 = .ok (.getfield 37, 3) := by decide +kernel
theorem dX10_set_39 : decode cX10_set 39 = .ok (.iload_n 1, 1) := by decide +kernel
theorem dX10_set_40 : decode cX10_set 40 = .ok (.iaload, 1) := by decide +kernel
theorem dX10_set_41 : decode cX10_set 41 = .ok (.istore_n 3, 1) := by decide +kernel
theorem dX10_set_42 : decode cX10_set 42 = .ok (.aload_n 0, 1) := by decide +kernel
theorem dX10_set_43 : decode cX10_set 43 = .ok (.getfield 37, 3) := by decide +kernel
theorem dX10_set_46 : decode cX10_set 46 = .ok (.iload_n 1, 1) := by decide +kernel
theorem dX10_set_47 : decode cX10_set 47 = .ok (.iload_n 2, 1) := by decide +kernel
theorem dX10_set_48 : decode cX10_set 48 = .ok (.iastore, 1) := by decide +kernel
theorem dX10_set_49 : decode cX10_set 49 = .ok (.iload_n 3, 1) := by decide +kernel
theorem dX10_set_50 : decode cX10_set 50 = .ok (.ireturn, 1) := by decide +kernel
theorem dX10_year_0 : decode cX10_year 0 = .ok (.iconst 0, 1) := by decide +kernel
theorem dX10_year_1 : decode cX10_year 1 = .ok (.istore_n 1, 1) := by decide +kernel
theorem dX10_year_2 : decode cX10_year 2 = .ok (.iconst 0, 1) := by decide +kernel
theorem dX10_year_3 : decode cX10_year 3 = .ok (.istore_n 2, 1) := by decide +kernel
theorem dX10_year_4 : decode cX10_year 4 = .ok (.iload_n 2, 1) := by decide +kernel
theorem dX10_year_5 : decode cX10_year 5 = .ok (.aload_n 0, 1) := by decide +kernel
theorem dX10_year_6 : decode cX10_year 6 = .ok (.getfield 164, 3) := by decide +kernel
theorem dX10_year_9 : decode cX10_year 9 = .ok (.if_icmp .ge 30, 3) := by decide +kernel
theorem dX10_year_12 : decode cX10_year 12 = .ok (.aload_n 0, 1) := by decide +kernel
theorem dX10_year_13 : decode cX10_year 13 = .ok (.getfield 23, 3) := by decide +kernel
theorem dX10_year_16 : decode cX10_year 16 = .ok (.iload_n 2, 1) := by decide +kernel
theorem dX10_year_17 : decode cX10_year 17 = .ok (.aaload, 1) := by decide +kernel
theorem dX10_year_18 : decode cX10_year 18 = .ok (.aload_n 0, 1) := by decide +kernel
theorem dX10_year_19 : decode cX10_year 19 = .ok (.getfield 37, 3) := by decide +kernel
theorem dX10_year_22 : decode cX10_year 22 = .ok (.iconst 0, 1) := by decide +kernel
theorem dX10_year_23 : decode cX10_year 23 = .ok (.iaload, 1) := by decide +kernel
theorem dX10_year_24 : decode cX10_year 24 = .ok (.invokevirtual 203, 3) := by decide +kernel
theorem dX10_year_27 : decode cX10_year 27 = .ok (.ifCond .eq 6, 3) := by decide +kernel
theorem dX10_year_30 : decode cX10_year 30 = .ok (.iinc 1 1, 3) := by decide +kernel
theorem dX10_year_33 : decode cX10_year 33 = .ok (.iinc 2 1, 3) := by decide +kernel
theorem dX10_year_36 : decode cX10_year 36 = .ok (.goto (-32), 3) := by decide +kernel
theorem dX10_year_39 : decode cX10_year 39 = .ok (.iload_n 1, 1) := by decide +kernel
theorem dX10_year_40 : decode cX10_year 40 = .ok (.ireturn, 1) := by decide +kernel
theorem dX10_say_0 : decode cX10_say 0 = .ok (.iload_n 1, 1) := by decide +kernel
theorem dX10_say_1 : decode cX10_say 1 = .ok (.bipush 33, 2) := by decide +kernel
theorem dX10_say_3 : decode cX10_say 3 = .ok (.bipush 126, 2) := by decide +kernel
theorem dX10_say_5 : decode cX10_say 5 = .ok (.invokestatic 106, 3) := by decide +kernel
theorem dX10_say_8 : decode cX10_say 8 = .ok (.ifCond .ne 6, 3) := by decide +kernel
theorem dX10_say_11 : decode cX10_say 11 = .ok (.bipush (-2), 2) := by decide +kernel
theorem dX10_say_13 : decode cX10_say 13 = .ok (.ireturn, 1) := by decide +kernel
theorem dX10_say_14 : decode cX10_say 14 = .ok (.aload_n 0, 1) := by decide +kernel
theorem dX10_say_15 : decode cX10_say 15 = .ok (.getfield 43, 3) := by decide +kernel
theorem dX10_say_18 : decode cX10_say 18 = .ok (.iload_n 1, 1) := by decide +kernel
theorem dX10_say_19 : decode cX10_say 19 = .ok (.invokevirtual 206, 3) := by decide +kernel
theorem dX10_say_22 : decode cX10_say 22 = .ok (.ifCond .ne 6, 3) := by decide +kernel
theorem dX10_say_25 : decode cX10_say 25 = .ok (.bipush (-4), 2) := by decide +kernel
theorem dX10_say_27 : decode cX10_say 27 = .ok (.ireturn, 1) := by decide +kernel
theorem dX10_say_28 : decode cX10_say 28 = .ok (.aload_n 0, 1) := by decide +kernel
theorem dX10_say_29 : decode cX10_say 29 = .ok (.getfield 43, 3) := by decide +kernel
theorem dX10_say_32 : decode cX10_say 32 = .ok (.getfield 209, 3) := by decide +kernel
theorem dX10_say_35 : decode cX10_say 35 = .ok (.ireturn, 1) := by decide +kernel
theorem dX10_wipe_0 : decode cX10_wipe 0 = .ok (.aload_n 0, 1) := by decide +kernel
theorem dX10_wipe_1 : decode cX10_wipe 1 = .ok (.getfield 43, 3) := by decide +kernel
theorem dX10_wipe_4 : decode cX10_wipe 4 = .ok (.getfield 209, 3) := by decide +kernel
theorem dX10_wipe_7 : decode cX10_wipe 7 = .ok (.istore_n 1, 1) := by decide +kernel
theorem dX10_wipe_8 : decode cX10_wipe 8 = .ok (.aload_n 0, 1) := by decide +kernel
theorem dX10_wipe_9 : decode cX10_wipe 9 = .ok (.getfield 43, 3) := by decide +kernel
theorem dX10_wipe_12 : decode cX10_wipe 12 = .ok (.iconst 0, 1) := by decide +kernel
theorem dX10_wipe_13 : decode cX10_wipe 13 = .ok (.putfield 209, 3) := by decide +kernel
theorem dX10_wipe_16 : decode cX10_wipe 16 = .ok (.iload_n 1, 1) := by decide +kernel
theorem dX10_wipe_17 : decode cX10_wipe 17 = .ok (.ireturn, 1) := by decide +kernel
theorem dX10_fault_0 : decode cX10_fault 0 = .ok (.aload_n 0, 1) := by decide +kernel
theorem dX10_fault_1 : decode cX10_fault 1 = .ok (.getfield 43, 3) := by decide +kernel
theorem dX10_fault_4 : decode cX10_fault 4 = .ok (.invokevirtual 212, 3) := by decide +kernel
theorem dX10_fault_7 : decode cX10_fault 7 = .ok (.ireturn, 1) := by decide +kernel
theorem dX10_rule_0 : decode cX10_rule 0 = .ok (.iload_n 1, 1) := by decide +kernel
theorem dX10_rule_1 : decode cX10_rule 1 = .ok (.invokestatic 216, 3) := by decide +kernel
theorem dX10_rule_4 : decode cX10_rule 4 = .ok (.ifCond .ne 6, 3) := by decide +kernel
theorem dX10_rule_7 : decode cX10_rule 7 = .ok (.bipush (-2), 2) := by decide +kernel
theorem dX10_rule_9 : decode cX10_rule 9 = .ok (.ireturn, 1) := by decide +kernel
theorem dX10_rule_10 : decode cX10_rule 10 = .ok (.aload_n 0, 1) := by decide +kernel
theorem dX10_rule_11 : decode cX10_rule 11 = .ok (.getfield 43, 3) := by decide +kernel
theorem dX10_rule_14 : decode cX10_rule 14 = .ok (.invokevirtual 212, 3) := by decide +kernel
theorem dX10_rule_17 : decode cX10_rule 17 = .ok (.bipush (-6), 2) := by decide +kernel
theorem dX10_rule_19 : decode cX10_rule 19 = .ok (.if_icmp .eq 6, 3) := by decide +kernel
theorem dX10_rule_22 : decode cX10_rule 22 = .ok (.bipush (-5), 2) := by decide +kernel
theorem dX10_rule_24 : decode cX10_rule 24 = .ok (.ireturn, 1) := by decide +kernel
theorem dX10_rule_25 : decode cX10_rule 25 = .ok (.aload_n 0, 1) := by decide +kernel
theorem dX10_rule_26 : decode cX10_rule 26 = .ok (.getfield 47, 3) := by decide +kernel
theorem dX10_rule_29 : decode cX10_rule 29 = .ok (.iload_n 1, 1) := by decide +kernel
theorem dX10_rule_30 : decode cX10_rule 30 = .ok (.aaload, 1) := by decide +kernel
theorem dX10_rule_31 : decode cX10_rule 31 = .ok (.getfield 209, 3) := by decide +kernel
theorem dX10_rule_34 : decode cX10_rule 34 = .ok (.ifCond .ne 7, 3) := by decide +kernel
theorem dX10_rule_37 : decode cX10_rule 37 = .ok (.iconst 1, 1) := by decide +kernel
theorem dX10_rule_38 : decode cX10_rule 38 = .ok (.goto 4, 3) := by decide +kernel
theorem dX10_rule_41 : decode cX10_rule 41 = .ok (.iconst 0, 1) := by decide +kernel
theorem dX10_rule_42 : decode cX10_rule 42 = .ok (.invokestatic 140, 3) := by decide +kernel
theorem dX10_rule_45 : decode cX10_rule 45 = .ok (.istore_n 2, 1) := by decide +kernel
theorem dX10_rule_46 : decode cX10_rule 46 = .ok (.aload_n 0, 1) := by decide +kernel
theorem dX10_rule_47 : decode cX10_rule 47 = .ok (.getfield 47, 3) := by decide +kernel
theorem dX10_rule_50 : decode cX10_rule 50 = .ok (.iload_n 1, 1) := by decide +kernel
theorem dX10_rule_51 : decode cX10_rule 51 = .ok (.aaload, 1) := by decide +kernel
theorem dX10_rule_52 : decode cX10_rule 52 = .ok (.aload_n 0, 1) := by decide +kernel
theorem dX10_rule_53 : decode cX10_rule 53 = .ok (.getfield 43, 3) := by decide +kernel
theorem dX10_rule_56 : decode cX10_rule 56 = .ok (.invokevirtual 219, 3) := by decide +kernel
theorem dX10_rule_59 : decode cX10_rule 59 = .ok (.aload_n 0, 1) := by decide +kernel
theorem dX10_rule_60 : decode cX10_rule 60 = .ok (.getfield 43, 3) := by decide +kernel
theorem dX10_rule_63 : decode cX10_rule 63 = .ok (.iconst 0, 1) := by decide +kernel
theorem dX10_rule_64 : decode cX10_rule 64 = .ok (.putfield 209, 3) := by decide +kernel
theorem dX10_rule_67 : decode cX10_rule 67 = .ok (.iload_n 2, 1) := by decide +kernel
theorem dX10_rule_68 : decode cX10_rule 68 = .ok (.ireturn, 1) := by decide +kernel
theorem dX10_worth_0 : decode cX10_worth 0 = .ok (.aload_n 0, 1) := by decide +kernel
theorem dX10_worth_1 : decode cX10_worth 1 = .ok (.iload_n 2, 1) := by decide +kernel
theorem dX10_worth_2 : decode cX10_worth 2 = .ok (.invokevirtual 170, 3) := by decide +kernel
theorem dX10_worth_5 : decode cX10_worth 5 = .ok (.ifCond .ne 6, 3) := by decide +kernel
theorem dX10_worth_8 : decode cX10_worth 8 = .ok (.ldc 223, 2) := by decide +kernel
theorem dX10_worth_10 : decode cX10_worth 10 = .ok (.ireturn, 1) := by decide +kernel
theorem dX10_worth_11 : decode cX10_worth 11 = .ok (.iload_n 1, 1) := by decide +kernel
theorem dX10_worth_12 : decode cX10_worth 12 = .ok (.invokestatic 216, 3) := by decide +kernel
theorem dX10_worth_15 : decode cX10_worth 15 = .ok (.ifCond .ne 6, 3) := by decide +kernel
theorem dX10_worth_18 : decode cX10_worth 18 = .ok (.ldc 224, 2) := by decide +kernel
theorem dX10_worth_20 : decode cX10_worth 20 = .ok (.ireturn, 1) := by decide +kernel
theorem dX10_worth_21 : decode cX10_worth 21 = .ok (.aload_n 0, 1) := by decide +kernel
theorem dX10_worth_22 : decode cX10_worth 22 = .ok (.getfield 47, 3) := by decide +kernel
theorem dX10_worth_25 : decode cX10_worth 25 = .ok (.iload_n 1, 1) := by decide +kernel
theorem dX10_worth_26 : decode cX10_worth 26 = .ok (.aaload, 1) := by decide +kernel
theorem dX10_worth_27 : decode cX10_worth 27 = .ok (.getfield 209, 3) := by decide +kernel
theorem dX10_worth_30 : decode cX10_worth 30 = .ok (.ifCond .ne 6, 3) := by decide +kernel
theorem dX10_worth_33 : decode cX10_worth 33 = .ok (.ldc 225, 2) := by decide +kernel
theorem dX10_worth_35 : decode cX10_worth 35 = .ok (.ireturn, 1) := by decide +kernel
theorem dX10_worth_36 : decode cX10_worth 36 = .ok (.aload_n 0, 1) := by decide +kernel
theorem dX10_worth_37 : decode cX10_worth 37 = .ok (.getfield 54, 3) := by decide +kernel
theorem dX10_worth_40 : decode cX10_worth 40 = .ok (.aload_n 0, 1) := by decide +kernel
theorem dX10_worth_41 : decode cX10_worth 41 = .ok (.getfield 47, 3) := by decide +kernel
theorem dX10_worth_44 : decode cX10_worth 44 = .ok (.iload_n 1, 1) := by decide +kernel
theorem dX10_worth_45 : decode cX10_worth 45 = .ok (.aaload, 1) := by decide +kernel
theorem dX10_worth_46 : decode cX10_worth 46 = .ok (.aload_n 0, 1) := by decide +kernel
theorem dX10_worth_47 : decode cX10_worth 47 = .ok (.getfield 23, 3) := by decide +kernel
theorem dX10_worth_50 : decode cX10_worth 50 = .ok (.iload_n 2, 1) := by decide +kernel
theorem dX10_worth_51 : decode cX10_worth 51 = .ok (.aaload, 1) := by decide +kernel
theorem dX10_worth_52 : decode cX10_worth 52 = .ok (.aload_n 0, 1) := by decide +kernel
theorem dX10_worth_53 : decode cX10_worth 53 = .ok (.aload_n 0, 1) := by decide +kernel
theorem dX10_worth_54 : decode cX10_worth 54 = .ok (.getfield 23, 3) := by decide +kernel
theorem dX10_worth_57 : decode cX10_worth 57 = .ok (.iload_n 2, 1) := by decide +kernel
theorem dX10_worth_58 : decode cX10_worth 58 = .ok (.aaload, 1) := by decide +kernel
theorem dX10_worth_59 : decode cX10_worth 59 = .ok (.invokevirtual 226, 3) := by decide +kernel
theorem dX10_worth_62 : decode cX10_worth 62 = .ok (.invokevirtual 230, 3) := by decide +kernel
theorem dX10_worth_65 : decode cX10_worth 65 = .ok (.ireturn, 1) := by decide +kernel
theorem dX10_move_0 : decode cX10_move 0 = .ok (.aload_n 0, 1) := by decide +kernel
theorem dX10_move_1 : decode cX10_move 1 = .ok (.iload_n 1, 1) := by decide +kernel
theorem dX10_move_2 : decode cX10_move 2 = .ok (.invokevirtual 120, 3) := by decide +kernel
theorem dX10_move_5 : decode cX10_move 5 = .ok (.ifCond .eq 35, 3) := by decide +kernel
theorem dX10_move_8 : decode cX10_move 8 = .ok (.iload_n 2, 1) := by decide +kernel
theorem dX10_move_9 : decode cX10_move 9 = .ok (.bipush (-4), 2) := by decide +kernel
theorem dX10_move_11 : decode cX10_move 11 = .ok (.aload_n 0, 1) := by decide +kernel
theorem dX10_move_12 : decode cX10_move 12 = .ok (.getfield 164, 3) := by decide +kernel
theorem dX10_move_15 : decode cX10_move 15 = .ok (.iconst 1, 1) := by decide +kernel
theorem dX10_move_16 : decode cX10_move 16 = .ok (.isub, 1) := by decide +kernel
theorem dX10_move_17 : decode cX10_move 17 = .ok (.invokestatic 106, 3) := by decide +kernel
theorem dX10_move_20 : decode cX10_move 20 = .ok (.ifCond .eq 20, 3) := by decide +kernel
theorem dX10_move_23 : decode cX10_move 23 = .ok (.iload_n 2, 1) := by decide +kernel
theorem dX10_move_24 : decode cX10_move 24 = .ok (.ifCond .lt 18, 3) := by decide +kernel
theorem dX10_move_27 : decode cX10_move 27 = .ok (.aload_n 0, 1) := by decide +kernel
theorem dX10_move_28 : decode cX10_move 28 = .ok (.getfield 23, 3) := by decide +kernel
theorem dX10_move_31 : decode cX10_move 31 = .ok (.iload_n 2, 1) := by decide +kernel
theorem dX10_move_32 : decode cX10_move 32 = .ok (.aaload, 1) := by decide +kernel
theorem dX10_move_33 : decode cX10_move 33 = .ok (.getfield 185, 3) := by decide +kernel
theorem dX10_move_36 : decode cX10_move 36 = .ok (.iload_n 1, 1) := by decide +kernel
theorem dX10_move_37 : decode cX10_move 37 = .ok (.if_icmp .eq 5, 3) := by decide +kernel
theorem dX10_move_40 : decode cX10_move 40 = .ok (.iconst (-1), 1) := by decide +kernel
theorem dX10_move_41 : decode cX10_move 41 = .ok (.ireturn, 1) := by decide +kernel
theorem dX10_move_42 : decode cX10_move 42 = .ok (.aload_n 0, 1) := by decide +kernel
theorem dX10_move_43 : decode cX10_move 43 = .ok (.getfield 17, 3) := by decide +kernel
theorem dX10_move_46 : decode cX10_move 46 = .ok (.iload_n 1, 1) := by decide +kernel
theorem dX10_move_47 : decode cX10_move 47 = .ok (.aaload, 1) := by decide +kernel
theorem dX10_move_48 : decode cX10_move 48 = .ok (.getfield 136, 3) := by decide +kernel
theorem dX10_move_51 : decode cX10_move 51 = .ok (.ifCond .ne 6, 3) := by decide +kernel
theorem dX10_move_54 : decode cX10_move 54 = .ok (.bipush (-3), 2) := by decide +kernel
theorem dX10_move_56 : decode cX10_move 56 = .ok (.ireturn, 1) := by decide +kernel
theorem dX10_move_57 : decode cX10_move 57 = .ok (.aload_n 0, 1) := by decide +kernel
theorem dX10_move_58 : decode cX10_move 58 = .ok (.iload_n 1, 1) := by decide +kernel
theorem dX10_move_59 : decode cX10_move 59 = .ok (.invokevirtual 234, 3) := by decide +kernel
theorem dX10_move_62 : decode cX10_move 62 = .ok (.ifCond .ne 6, 3) := by decide +kernel
theorem dX10_move_65 : decode cX10_move 65 = .ok (.bipush (-5), 2) := by decide +kernel
theorem dX10_move_67 : decode cX10_move 67 = .ok (.ireturn, 1) := by decide +kernel
theorem dX10_move_68 : decode cX10_move 68 = .ok (.iload_n 2, 1) := by decide +kernel
theorem dX10_move_69 : decode cX10_move 69 = .ok (.tableswitch 63 (-4) (-1) #[55, 47, 39, 31], 31) := by decide +kernel
theorem dX10_move_100 : decode cX10_move 100 = .ok (.aload_n 0, 1) := by decide +kernel
theorem dX10_move_101 : decode cX10_move 101 = .ok (.getfield 61, 3) := by decide +kernel
theorem dX10_move_104 : decode cX10_move 104 = .ok (.getfield 237, 3) := by decide +kernel
theorem dX10_move_107 : decode cX10_move 107 = .ok (.ireturn, 1) := by decide +kernel
theorem dX10_move_108 : decode cX10_move 108 = .ok (.aload_n 0, 1) := by decide +kernel
theorem dX10_move_109 : decode cX10_move 109 = .ok (.getfield 61, 3) := by decide +kernel
theorem dX10_move_112 : decode cX10_move 112 = .ok (.getfield 240, 3) := by decide +kernel
theorem dX10_move_115 : decode cX10_move 115 = .ok (.ireturn, 1) := by decide +kernel
theorem dX10_move_116 : decode cX10_move 116 = .ok (.aload_n 0, 1) := by decide +kernel
theorem dX10_move_117 : decode cX10_move 117 = .ok (.getfield 61, 3) := by decide +kernel
theorem dX10_move_120 : decode cX10_move 120 = .ok (.getfield 243, 3) := by decide +kernel
theorem dX10_move_123 : decode cX10_move 123 = .ok (.ireturn, 1) := by decide +kernel
theorem dX10_move_124 : decode cX10_move 124 = .ok (.aload_n 0, 1) := by decide +kernel
theorem dX10_move_125 : decode cX10_move 125 = .ok (.getfield 61, 3) := by decide +kernel
theorem dX10_move_128 : decode cX10_move 128 = .ok (.getfield 246, 3) := by decide +kernel
theorem dX10_move_131 : decode cX10_move 131 = .ok (.ireturn, 1) := by decide +kernel
theorem dX10_move_132 : decode cX10_move 132 = .ok (.aload_n 0, 1) := by decide +kernel
theorem dX10_move_133 : decode cX10_move 133 = .ok (.getfield 61, 3) := by decide +kernel
theorem dX10_move_136 : decode cX10_move 136 = .ok (.iload_n 2, 1) := by decide +kernel
theorem dX10_move_137 : decode cX10_move 137 = .ok (.invokevirtual 249, 3) := by decide +kernel
theorem dX10_move_140 : decode cX10_move 140 = .ok (.ireturn, 1) := by decide +kernel
theorem dX10_close_0 : decode cX10_close 0 = .ok (.aload_n 0, 1) := by decide +kernel
theorem dX10_close_1 : decode cX10_close 1 = .ok (.iload_n 1, 1) := by decide +kernel
theorem dX10_close_2 : decode cX10_close 2 = .ok (.invokevirtual 120, 3) := by decide +kernel
theorem dX10_close_5 : decode cX10_close 5 = .ok (.ifCond .ne 5, 3) := by decide +kernel
theorem dX10_close_8 : decode cX10_close 8 = .ok (.iconst (-1), 1) := by decide +kernel
theorem dX10_close_9 : decode cX10_close 9 = .ok (.ireturn, 1) := by decide +kernel
theorem dX10_close_10 : decode cX10_close 10 = .ok (.aload_n 0, 1) := by decide +kernel
theorem dX10_close_11 : decode cX10_close 11 = .ok (.getfield 17, 3) := by decide +kernel
theorem dX10_close_14 : decode cX10_close 14 = .ok (.iload_n 1, 1) := by decide +kernel
theorem dX10_close_15 : decode cX10_close 15 = .ok (.aaload, 1) := by decide +kernel
theorem dX10_close_16 : decode cX10_close 16 = .ok (.getfield 136, 3) := by decide +kernel
theorem dX10_close_19 : decode cX10_close 19 = .ok (.ifCond .ne 6, 3) := by decide +kernel
theorem dX10_close_22 : decode cX10_close 22 = .ok (.bipush (-3), 2) := by decide +kernel
theorem dX10_close_24 : decode cX10_close 24 = .ok (.ireturn, 1) := by decide +kernel
theorem dX10_close_25 : decode cX10_close 25 = .ok (.aload_n 0, 1) := by decide +kernel
theorem dX10_close_26 : decode cX10_close 26 = .ok (.iload_n 1, 1) := by decide +kernel
theorem dX10_close_27 : decode cX10_close 27 = .ok (.invokevirtual 234, 3) := by decide +kernel
theorem dX10_close_30 : decode cX10_close 30 = .ok (.ifCond .ne 6, 3) := by decide +kernel
theorem dX10_close_33 : decode cX10_close 33 = .ok (.bipush (-5), 2) := by decide +kernel
theorem dX10_close_35 : decode cX10_close 35 = .ok (.ireturn, 1) := by decide +kernel
theorem dX10_close_36 : decode cX10_close 36 = .ok (.aload_n 0, 1) := by decide +kernel
theorem dX10_close_37 : decode cX10_close 37 = .ok (.iload_n 1, 1) := by decide +kernel
theorem dX10_close_38 : decode cX10_close 38 = .ok (.invokevirtual 252, 3) := by decide +kernel
theorem dX10_close_41 : decode cX10_close 41 = .ok (.aload_n 0, 1) := by decide +kernel
theorem dX10_close_42 : decode cX10_close 42 = .ok (.getfield 17, 3) := by decide +kernel
theorem dX10_close_45 : decode cX10_close 45 = .ok (.iload_n 1, 1) := by decide +kernel
theorem dX10_close_46 : decode cX10_close 46 = .ok (.aaload, 1) := by decide +kernel
theorem dX10_close_47 : decode cX10_close 47 = .ok (.invokevirtual 255, 3) := by decide +kernel
theorem dX10_close_50 : decode cX10_close 50 = .ok (.aload_n 0, 1) := by decide +kernel
theorem dX10_close_51 : decode cX10_close 51 = .ok (.getfield 61, 3) := by decide +kernel
theorem dX10_close_54 : decode cX10_close 54 = .ok (.getfield 237, 3) := by decide +kernel
theorem dX10_close_57 : decode cX10_close 57 = .ok (.ireturn, 1) := by decide +kernel
theorem dX10_inflow_0 : decode cX10_inflow 0 = .ok (.aload_n 0, 1) := by decide +kernel
theorem dX10_inflow_1 : decode cX10_inflow 1 = .ok (.iload_n 1, 1) := by decide +kernel
theorem dX10_inflow_2 : decode cX10_inflow 2 = .ok (.invokevirtual 120, 3) := by decide +kernel
theorem dX10_inflow_5 : decode cX10_inflow 5 = .ok (.ifCond .ne 5, 3) := by decide +kernel
theorem dX10_inflow_8 : decode cX10_inflow 8 = .ok (.iconst (-1), 1) := by decide +kernel
theorem dX10_inflow_9 : decode cX10_inflow 9 = .ok (.ireturn, 1) := by decide +kernel
theorem dX10_inflow_10 : decode cX10_inflow 10 = .ok (.iload_n 2, 1) := by decide +kernel
theorem dX10_inflow_11 : decode cX10_inflow 11 = .ok (.iconst 0, 1) := by decide +kernel
theorem dX10_inflow_12 : decode cX10_inflow 12 = .ok (.bipush 100, 2) := by decide +kernel
theorem dX10_inflow_14 : decode cX10_inflow 14 = .ok (.invokestatic 106, 3) := by decide +kernel
theorem dX10_inflow_17 : decode cX10_inflow 17 = .ok (.ifCond .ne 6, 3) := by decide +kernel
theorem dX10_inflow_20 : decode cX10_inflow 20 = .ok (.bipush (-2), 2) := by decide +kernel
theorem dX10_inflow_22 : decode cX10_inflow 22 = .ok (.ireturn, 1) := by decide +kernel
theorem dX10_inflow_23 : decode cX10_inflow 23 = .ok (.aload_n 0, 1) := by decide +kernel
theorem dX10_inflow_24 : decode cX10_inflow 24 = .ok (.getfield 68, 3) := by decide +kernel
theorem dX10_inflow_27 : decode cX10_inflow 27 = .ok (.getfield 258, 3) := by decide +kernel
theorem dX10_inflow_30 : decode cX10_inflow 30 = .ok (.iload_n 1, 1) := by decide +kernel
theorem dX10_inflow_31 : decode cX10_inflow 31 = .ok (.iaload, 1) := by decide +kernel
theorem dX10_inflow_32 : decode cX10_inflow 32 = .ok (.istore_n 3, 1) := by decide +kernel
theorem dX10_inflow_33 : decode cX10_inflow 33 = .ok (.aload_n 0, 1) := by decide +kernel
theorem dX10_inflow_34 : decode cX10_inflow 34 = .ok (.getfield 68, 3) := by decide +kernel
theorem dX10_inflow_37 : decode cX10_inflow 37 = .ok (.getfield 258, 3) := by decide +kernel
theorem dX10_inflow_40 : decode cX10_inflow 40 = .ok (.iload_n 1, 1) := by decide +kernel
theorem dX10_inflow_41 : decode cX10_inflow 41 = .ok (.iload_n 2, 1) := by decide +kernel
theorem dX10_inflow_42 : decode cX10_inflow 42 = .ok (.iastore, 1) := by decide +kernel
theorem dX10_inflow_43 : decode cX10_inflow 43 = .ok (.iload_n 3, 1) := by decide +kernel
theorem dX10_inflow_44 : decode cX10_inflow 44 = .ok (.ireturn, 1) := by decide +kernel
theorem dX10_pump_0 : decode cX10_pump 0 = .ok (.aload_n 0, 1) := by decide +kernel
theorem dX10_pump_1 : decode cX10_pump 1 = .ok (.iload_n 1, 1) := by decide +kernel
theorem dX10_pump_2 : decode cX10_pump 2 = .ok (.invokevirtual 120, 3) := by decide +kernel
theorem dX10_pump_5 : decode cX10_pump 5 = .ok (.ifCond .ne 5, 3) := by decide +kernel
theorem dX10_pump_8 : decode cX10_pump 8 = .ok (.iconst (-1), 1) := by decide +kernel
theorem dX10_pump_9 : decode cX10_pump 9 = .ok (.ireturn, 1) := by decide +kernel
theorem dX10_pump_10 : decode cX10_pump 10 = .ok (.aload_n 0, 1) := by decide +kernel
theorem dX10_pump_11 : decode cX10_pump 11 = .ok (.getfield 68, 3) := by decide +kernel
theorem dX10_pump_14 : decode cX10_pump 14 = .ok (.getfield 154, 3) := by decide +kernel
theorem dX10_pump_17 : decode cX10_pump 17 = .ok (.iload_n 1, 1) := by decide +kernel
theorem dX10_pump_18 : decode cX10_pump 18 = .ok (.baload, 1) := by decide +kernel
theorem dX10_pump_19 : decode cX10_pump 19 = .ok (.invokestatic 140, 3) := by decide +kernel
theorem dX10_pump_22 : decode cX10_pump 22 = .ok (.istore_n 3, 1) := by decide +kernel
theorem dX10_pump_23 : decode cX10_pump 23 = .ok (.aload_n 0, 1) := by decide +kernel
theorem dX10_pump_24 : decode cX10_pump 24 = .ok (.getfield 68, 3) := by decide +kernel
theorem dX10_pump_27 : decode cX10_pump 27 = .ok (.getfield 154, 3) := by decide +kernel
theorem dX10_pump_30 : decode cX10_pump 30 = .ok (.iload_n 1, 1) := by decide +kernel
theorem dX10_pump_31 : decode cX10_pump 31 = .ok (.iload_n 2, 1) := by decide +kernel
theorem dX10_pump_32 : decode cX10_pump 32 = .ok (.bastore, 1) := by decide +kernel
theorem dX10_pump_33 : decode cX10_pump 33 = .ok (.iload_n 3, 1) := by decide +kernel
theorem dX10_pump_34 : decode cX10_pump 34 = .ok (.ireturn, 1) := by decide +kernel
theorem dX10_way_0 : decode cX10_way 0 = .ok (.aload_n 0, 1) := by decide +kernel
theorem dX10_way_1 : decode cX10_way 1 = .ok (.iload_n 1, 1) := by decide +kernel
theorem dX10_way_2 : decode cX10_way 2 = .ok (.invokevirtual 120, 3) := by decide +kernel
theorem dX10_way_5 : decode cX10_way 5 = .ok (.ifCond .eq 16, 3) := by decide +kernel
theorem dX10_way_8 : decode cX10_way 8 = .ok (.aload_n 0, 1) := by decide +kernel
theorem dX10_way_9 : decode cX10_way 9 = .ok (.iload_n 2, 1) := by decide +kernel
theorem dX10_way_10 : decode cX10_way 10 = .ok (.invokevirtual 120, 3) := by decide +kernel
theorem dX10_way_13 : decode cX10_way 13 = .ok (.ifCond .eq 8, 3) := by decide +kernel
theorem dX10_way_16 : decode cX10_way 16 = .ok (.iload_n 1, 1) := by decide +kernel
theorem dX10_way_17 : decode cX10_way 17 = .ok (.iload_n 2, 1) := by decide +kernel
theorem dX10_way_18 : decode cX10_way 18 = .ok (.if_icmp .ne 5, 3) := by decide +kernel
theorem dX10_way_21 : decode cX10_way 21 = .ok (.iconst (-1), 1) := by decide +kernel
theorem dX10_way_22 : decode cX10_way 22 = .ok (.ireturn, 1) := by decide +kernel
theorem dX10_way_23 : decode cX10_way 23 = .ok (.iload_n 3, 1) := by decide +kernel
theorem dX10_way_24 : decode cX10_way 24 = .ok (.iconst 0, 1) := by decide +kernel
theorem dX10_way_25 : decode cX10_way 25 = .ok (.sipush 1000, 3) := by decide +kernel
theorem dX10_way_28 : decode cX10_way 28 = .ok (.invokestatic 106, 3) := by decide +kernel
theorem dX10_way_31 : decode cX10_way 31 = .ok (.ifCond .ne 6, 3) := by decide +kernel
theorem dX10_way_34 : decode cX10_way 34 = .ok (.bipush (-2), 2) := by decide +kernel
theorem dX10_way_36 : decode cX10_way 36 = .ok (.ireturn, 1) := by decide +kernel
theorem dX10_way_37 : decode cX10_way 37 = .ok (.aload_n 0, 1) := by decide +kernel
theorem dX10_way_38 : decode cX10_way 38 = .ok (.getfield 68, 3) := by decide +kernel
theorem dX10_way_41 : decode cX10_way 41 = .ok (.getfield 261, 3) := by decide +kernel
theorem dX10_way_44 : decode cX10_way 44 = .ok (.bipush 12, 2) := by decide +kernel
theorem dX10_way_46 : decode cX10_way 46 = .ok (.if_icmp .lt 6, 3) := by decide +kernel
theorem dX10_way_49 : decode cX10_way 49 = .ok (.bipush (-4), 2) := by decide +kernel
theorem dX10_way_51 : decode cX10_way 51 = .ok (.ireturn, 1) := by decide +kernel
theorem dX10_way_52 : decode cX10_way 52 = .ok (.aload_n 0, 1) := by decide +kernel
theorem dX10_way_53 : decode cX10_way 53 = .ok (.getfield 68, 3) := by decide +kernel
theorem dX10_way_56 : decode cX10_way 56 = .ok (.iload_n 1, 1) := by decide +kernel
theorem dX10_way_57 : decode cX10_way 57 = .ok (.iload_n 2, 1) := by decide +kernel
theorem dX10_way_58 : decode cX10_way 58 = .ok (.iload_n 3, 1) := by decide +kernel
theorem dX10_way_59 : decode cX10_way 59 = .ok (.invokevirtual 264, 3) := by decide +kernel
theorem dX10_way_62 : decode cX10_way 62 = .ok (.aload_n 0, 1) := by decide +kernel
theorem dX10_way_63 : decode cX10_way 63 = .ok (.getfield 68, 3) := by decide +kernel
theorem dX10_way_66 : decode cX10_way 66 = .ok (.getfield 261, 3) := by decide +kernel
theorem dX10_way_69 : decode cX10_way 69 = .ok (.iconst 1, 1) := by decide +kernel
theorem dX10_way_70 : decode cX10_way 70 = .ok (.isub, 1) := by decide +kernel
theorem dX10_way_71 : decode cX10_way 71 = .ok (.ireturn, 1) := by decide +kernel
theorem dX10_months_0 : decode cX10_months 0 = .ok (.iload_n 1, 1) := by decide +kernel
theorem dX10_months_1 : decode cX10_months 1 = .ok (.iconst 1, 1) := by decide +kernel
theorem dX10_months_2 : decode cX10_months 2 = .ok (.sipush 240, 3) := by decide +kernel
theorem dX10_months_5 : decode cX10_months 5 = .ok (.invokestatic 106, 3) := by decide +kernel
theorem dX10_months_8 : decode cX10_months 8 = .ok (.ifCond .ne 6, 3) := by decide +kernel
theorem dX10_months_11 : decode cX10_months 11 = .ok (.bipush (-2), 2) := by decide +kernel
theorem dX10_months_13 : decode cX10_months 13 = .ok (.ireturn, 1) := by decide +kernel
theorem dX10_months_14 : decode cX10_months 14 = .ok (.iconst 0, 1) := by decide +kernel
theorem dX10_months_15 : decode cX10_months 15 = .ok (.istore_n 2, 1) := by decide +kernel
theorem dX10_months_16 : decode cX10_months 16 = .ok (.iconst 0, 1) := by decide +kernel
theorem dX10_months_17 : decode cX10_months 17 = .ok (.istore_n 3, 1) := by decide +kernel
theorem dX10_months_18 : decode cX10_months 18 = .ok (.iload_n 3, 1) := by decide +kernel
theorem dX10_months_19 : decode cX10_months 19 = .ok (.iload_n 1, 1) := by decide +kernel
theorem dX10_months_20 : decode cX10_months 20 = .ok (.if_icmp .ge 19, 3) := by decide +kernel
theorem dX10_months_23 : decode cX10_months 23 = .ok (.iload_n 2, 1) := by decide +kernel
theorem dX10_months_24 : decode cX10_months 24 = .ok (.aload_n 0, 1) := by decide +kernel
theorem dX10_months_25 : decode cX10_months 25 = .ok (.getfield 68, 3) := by decide +kernel
theorem dX10_months_28 : decode cX10_months 28 = .ok (.invokevirtual 268, 3) := by decide +kernel
theorem dX10_months_31 : decode cX10_months 31 = .ok (.iadd, 1) := by decide +kernel
theorem dX10_months_32 : decode cX10_months 32 = .ok (.istore_n 2, 1) := by decide +kernel
theorem dX10_months_33 : decode cX10_months 33 = .ok (.iinc 3 1, 3) := by decide +kernel
theorem dX10_months_36 : decode cX10_months 36 = .ok (.goto (-18), 3) := by decide +kernel
theorem dX10_months_39 : decode cX10_months 39 = .ok (.iload_n 2, 1) := by decide +kernel
theorem dX10_months_40 : decode cX10_months 40 = .ok (.ireturn, 1) := by decide +kernel
theorem dX10_threat_0 : decode cX10_threat 0 = .ok (.aload_n 0, 1) := by decide +kernel
theorem dX10_threat_1 : decode cX10_threat 1 = .ok (.iload_n 1, 1) := by decide +kernel
theorem dX10_threat_2 : decode cX10_threat 2 = .ok (.invokevirtual 120, 3) := by decide +kernel
theorem dX10_threat_5 : decode cX10_threat 5 = .ok (.ifCond .eq 11, 3) := by decide +kernel
theorem dX10_threat_8 : decode cX10_threat 8 = .ok (.aload_n 0, 1) := by decide +kernel
theorem dX10_threat_9 : decode cX10_threat 9 = .ok (.iload_n 2, 1) := by decide +kernel
theorem dX10_threat_10 : decode cX10_threat 10 = .ok (.invokevirtual 120, 3) := by decide +kernel
theorem dX10_threat_13 : decode cX10_threat 13 = .ok (.ifCond .ne 5, 3) := by decide +kernel
theorem dX10_threat_16 : decode cX10_threat 16 = .ok (.iconst (-1), 1) := by decide +kernel
theorem dX10_threat_17 : decode cX10_threat 17 = .ok (.ireturn, 1) := by decide +kernel
theorem dX10_threat_18 : decode cX10_threat 18 = .ok (.aload_n 0, 1) := by decide +kernel
theorem dX10_threat_19 : decode cX10_threat 19 = .ok (.getfield 68, 3) := by decide +kernel
theorem dX10_threat_22 : decode cX10_threat 22 = .ok (.getfield 151, 3) := by decide +kernel
theorem dX10_threat_25 : decode cX10_threat 25 = .ok (.iload_n 1, 1) := by decide +kernel
theorem dX10_threat_26 : decode cX10_threat 26 = .ok (.iaload, 1) := by decide +kernel
theorem dX10_threat_27 : decode cX10_threat 27 = .ok (.bipush (-6), 2) := by decide +kernel
theorem dX10_threat_29 : decode cX10_threat 29 = .ok (.if_icmp .eq 6, 3) := by decide +kernel
theorem dX10_threat_32 : decode cX10_threat 32 = .ok (.bipush (-6), 2) := by decide +kernel
theorem dX10_threat_34 : decode cX10_threat 34 = .ok (.ireturn, 1) := by decide +kernel
theorem dX10_threat_35 : decode cX10_threat 35 = .ok (.aload_n 0, 1) := by decide +kernel
theorem dX10_threat_36 : decode cX10_threat 36 = .ok (.getfield 72, 3) := by decide +kernel
theorem dX10_threat_39 : decode cX10_threat 39 = .ok (.aload_n 0, 1) := by decide +kernel
theorem dX10_threat_40 : decode cX10_threat 40 = .ok (.getfield 68, 3) := by decide +kernel
theorem dX10_threat_43 : decode cX10_threat 43 = .ok (.invokevirtual 271, 3) := by decide +kernel
theorem dX10_threat_46 : decode cX10_threat 46 = .ok (.aload_n 0, 1) := by decide +kernel
theorem dX10_threat_47 : decode cX10_threat 47 = .ok (.getfield 72, 3) := by decide +kernel
theorem dX10_threat_50 : decode cX10_threat 50 = .ok (.getfield 154, 3) := by decide +kernel
theorem dX10_threat_53 : decode cX10_threat 53 = .ok (.iload_n 2, 1) := by decide +kernel
theorem dX10_threat_54 : decode cX10_threat 54 = .ok (.iconst 0, 1) := by decide +kernel
theorem dX10_threat_55 : decode cX10_threat 55 = .ok (.bastore, 1) := by decide +kernel
theorem dX10_threat_56 : decode cX10_threat 56 = .ok (.iconst 0, 1) := by decide +kernel
theorem dX10_threat_57 : decode cX10_threat 57 = .ok (.istore_n 3, 1) := by decide +kernel
theorem dX10_threat_58 : decode cX10_threat 58 = .ok (.iload_n 3, 1) := by decide +kernel
theorem dX10_threat_59 : decode cX10_threat 59 = .ok (.sipush 240, 3) := by decide +kernel
theorem dX10_threat_62 : decode cX10_threat 62 = .ok (.if_icmp .ge 33, 3) := by decide +kernel
theorem dX10_threat_65 : decode cX10_threat 65 = .ok (.aload_n 0, 1) := by decide +kernel
theorem dX10_threat_66 : decode cX10_threat 66 = .ok (.getfield 72, 3) := by decide +kernel
theorem dX10_threat_69 : decode cX10_threat 69 = .ok (.invokevirtual 268, 3) := by decide +kernel
theorem dX10_threat_72 : decode cX10_threat 72 = .ok (.pop, 1) := by decide +kernel
theorem dX10_threat_73 : decode cX10_threat 73 = .ok (.aload_n 0, 1) := by decide +kernel
theorem dX10_threat_74 : decode cX10_threat 74 = .ok (.getfield 72, 3) := by decide +kernel
theorem dX10_threat_77 : decode cX10_threat 77 = .ok (.getfield 151, 3) := by decide +kernel
theorem dX10_threat_80 : decode cX10_threat 80 = .ok (.iload_n 1, 1) := by decide +kernel
theorem dX10_threat_81 : decode cX10_threat 81 = .ok (.iaload, 1) := by decide +kernel
theorem dX10_threat_82 : decode cX10_threat 82 = .ok (.bipush (-6), 2) := by decide +kernel
theorem dX10_threat_84 : decode cX10_threat 84 = .ok (.if_icmp .eq 5, 3) := by decide +kernel
theorem dX10_threat_87 : decode cX10_threat 87 = .ok (.iload_n 3, 1) := by decide +kernel
theorem dX10_threat_88 : decode cX10_threat 88 = .ok (.ireturn, 1) := by decide +kernel
theorem dX10_threat_89 : decode cX10_threat 89 = .ok (.iinc 3 1, 3) := by decide +kernel
theorem dX10_threat_92 : decode cX10_threat 92 = .ok (.goto (-34), 3) := by decide +kernel
theorem dX10_threat_95 : decode cX10_threat 95 = .ok (.bipush (-6), 2) := by decide +kernel
theorem dX10_threat_97 : decode cX10_threat 97 = .ok (.ireturn, 1) := by decide +kernel
theorem dX10_price_0 : decode cX10_price 0 = .ok (.iload_n 1, 1) := by decide +kernel
theorem dX10_price_1 : decode cX10_price 1 = .ok (.iconst 0, 1) := by decide +kernel
theorem dX10_price_2 : decode cX10_price 2 = .ok (.iconst 2, 1) := by decide +kernel
theorem dX10_price_3 : decode cX10_price 3 = .ok (.invokestatic 106, 3) := by decide +kernel
theorem dX10_price_6 : decode cX10_price 6 = .ok (.ifCond .eq 12, 3) := by decide +kernel
theorem dX10_price_9 : decode cX10_price 9 = .ok (.iload_n 2, 1) := by decide +kernel
theorem dX10_price_10 : decode cX10_price 10 = .ok (.iconst 0, 1) := by decide +kernel
theorem dX10_price_11 : decode cX10_price 11 = .ok (.iconst 4, 1) := by decide +kernel
theorem dX10_price_12 : decode cX10_price 12 = .ok (.invokestatic 106, 3) := by decide +kernel
theorem dX10_price_15 : decode cX10_price 15 = .ok (.ifCond .ne 5, 3) := by decide +kernel
theorem dX10_price_18 : decode cX10_price 18 = .ok (.iconst (-1), 1) := by decide +kernel
theorem dX10_price_19 : decode cX10_price 19 = .ok (.ireturn, 1) := by decide +kernel
theorem dX10_price_20 : decode cX10_price 20 = .ok (.iload_n 3, 1) := by decide +kernel
theorem dX10_price_21 : decode cX10_price 21 = .ok (.iconst 0, 1) := by decide +kernel
theorem dX10_price_22 : decode cX10_price 22 = .ok (.sipush 200, 3) := by decide +kernel
theorem dX10_price_25 : decode cX10_price 25 = .ok (.invokestatic 106, 3) := by decide +kernel
theorem dX10_price_28 : decode cX10_price 28 = .ok (.ifCond .ne 6, 3) := by decide +kernel
theorem dX10_price_31 : decode cX10_price 31 = .ok (.bipush (-2), 2) := by decide +kernel
theorem dX10_price_33 : decode cX10_price 33 = .ok (.ireturn, 1) := by decide +kernel
theorem dX10_price_34 : decode cX10_price 34 = .ok (.aload_n 0, 1) := by decide +kernel
theorem dX10_price_35 : decode cX10_price 35 = .ok (.getfield 78, 3) := by decide +kernel
theorem dX10_price_38 : decode cX10_price 38 = .ok (.getfield 274, 3) := by decide +kernel
theorem dX10_price_41 : decode cX10_price 41 = .ok (.iload_n 1, 1) := by decide +kernel
theorem dX10_price_42 : decode cX10_price 42 = .ok (.aaload, 1) := by decide +kernel
theorem dX10_price_43 : decode cX10_price 43 = .ok (.iload_n 2, 1) := by decide +kernel
theorem dX10_price_44 : decode cX10_price 44 = .ok (.iaload, 1) := by decide +kernel
theorem dX10_price_45 : decode cX10_price 45 = .ok (.istore 4, 2) := by decide +kernel
theorem dX10_price_47 : decode cX10_price 47 = .ok (.aload_n 0, 1) := by decide +kernel
theorem dX10_price_48 : decode cX10_price 48 = .ok (.getfield 78, 3) := by decide +kernel
theorem dX10_price_51 : decode cX10_price 51 = .ok (.getfield 274, 3) := by decide +kernel
theorem dX10_price_54 : decode cX10_price 54 = .ok (.iload_n 1, 1) := by decide +kernel
theorem dX10_price_55 : decode cX10_price 55 = .ok (.aaload, 1) := by decide +kernel
theorem dX10_price_56 : decode cX10_price 56 = .ok (.iload_n 2, 1) := by decide +kernel
theorem dX10_price_57 : decode cX10_price 57 = .ok (.iload_n 3, 1) := by decide +kernel
theorem dX10_price_58 : decode cX10_price 58 = .ok (.iastore, 1) := by decide +kernel
theorem dX10_price_59 : decode cX10_price 59 = .ok (.iload 4, 2) := by decide +kernel
theorem dX10_price_61 : decode cX10_price 61 = .ok (.ireturn, 1) := by decide +kernel
theorem dX10_plan_0 : decode cX10_plan 0 = .ok (.iload_n 2, 1) := by decide +kernel
theorem dX10_plan_1 : decode cX10_plan 1 = .ok (.iconst 0, 1) := by decide +kernel
theorem dX10_plan_2 : decode cX10_plan 2 = .ok (.iconst 2, 1) := by decide +kernel
theorem dX10_plan_3 : decode cX10_plan 3 = .ok (.invokestatic 106, 3) := by decide +kernel
theorem dX10_plan_6 : decode cX10_plan 6 = .ok (.ifCond .ne 6, 3) := by decide +kernel
theorem dX10_plan_9 : decode cX10_plan 9 = .ok (.bipush (-2), 2) := by decide +kernel
theorem dX10_plan_11 : decode cX10_plan 11 = .ok (.ireturn, 1) := by decide +kernel
theorem dX10_plan_12 : decode cX10_plan 12 = .ok (.aload_n 0, 1) := by decide +kernel
theorem dX10_plan_13 : decode cX10_plan 13 = .ok (.getfield 78, 3) := by decide +kernel
theorem dX10_plan_16 : decode cX10_plan 16 = .ok (.aload_n 0, 1) := by decide +kernel
theorem dX10_plan_17 : decode cX10_plan 17 = .ok (.getfield 17, 3) := by decide +kernel
theorem dX10_plan_20 : decode cX10_plan 20 = .ok (.aload_n 0, 1) := by decide +kernel
theorem dX10_plan_21 : decode cX10_plan 21 = .ok (.getfield 110, 3) := by decide +kernel
theorem dX10_plan_24 : decode cX10_plan 24 = .ok (.aload_n 0, 1) := by decide +kernel
theorem dX10_plan_25 : decode cX10_plan 25 = .ok (.getfield 37, 3) := by decide +kernel
theorem dX10_plan_28 : decode cX10_plan 28 = .ok (.invokevirtual 278, 3) := by decide +kernel
theorem dX10_plan_31 : decode cX10_plan 31 = .ok (.aload_n 0, 1) := by decide +kernel
theorem dX10_plan_32 : decode cX10_plan 32 = .ok (.getfield 78, 3) := by decide +kernel
theorem dX10_plan_35 : decode cX10_plan 35 = .ok (.iload_n 1, 1) := by decide +kernel
theorem dX10_plan_36 : decode cX10_plan 36 = .ok (.invokevirtual 282, 3) := by decide +kernel
theorem dX10_plan_39 : decode cX10_plan 39 = .ok (.ifCond .ne 6, 3) := by decide +kernel
theorem dX10_plan_42 : decode cX10_plan 42 = .ok (.bipush (-2), 2) := by decide +kernel
theorem dX10_plan_44 : decode cX10_plan 44 = .ok (.ireturn, 1) := by decide +kernel
theorem dX10_plan_45 : decode cX10_plan 45 = .ok (.iload_n 2, 1) := by decide +kernel
theorem dX10_plan_46 : decode cX10_plan 46 = .ok (.lookupswitch 52 #[(0, 26), (1, 37)], 26) := by decide +kernel
theorem dX10_plan_72 : decode cX10_plan 72 = .ok (.aload_n 0, 1) := by decide +kernel
theorem dX10_plan_73 : decode cX10_plan 73 = .ok (.getfield 78, 3) := by decide +kernel
theorem dX10_plan_76 : decode cX10_plan 76 = .ok (.invokevirtual 285, 3) := by decide +kernel
theorem dX10_plan_79 : decode cX10_plan 79 = .ok (.invokestatic 140, 3) := by decide +kernel
theorem dX10_plan_82 : decode cX10_plan 82 = .ok (.ireturn, 1) := by decide +kernel
theorem dX10_plan_83 : decode cX10_plan 83 = .ok (.aload_n 0, 1) := by decide +kernel
theorem dX10_plan_84 : decode cX10_plan 84 = .ok (.getfield 78, 3) := by decide +kernel
theorem dX10_plan_87 : decode cX10_plan 87 = .ok (.aload_n 0, 1) := by decide +kernel
theorem dX10_plan_88 : decode cX10_plan 88 = .ok (.getfield 78, 3) := by decide +kernel
theorem dX10_plan_91 : decode cX10_plan 91 = .ok (.invokevirtual 289, 3) := by decide +kernel
theorem dX10_plan_94 : decode cX10_plan 94 = .ok (.invokevirtual 292, 3) := by decide +kernel
theorem dX10_plan_97 : decode cX10_plan 97 = .ok (.ireturn, 1) := by decide +kernel
theorem dX10_plan_98 : decode cX10_plan 98 = .ok (.aload_n 0, 1) := by decide +kernel
theorem dX10_plan_99 : decode cX10_plan 99 = .ok (.getfield 78, 3) := by decide +kernel
theorem dX10_plan_102 : decode cX10_plan 102 = .ok (.invokevirtual 289, 3) := by decide +kernel
theorem dX10_plan_105 : decode cX10_plan 105 = .ok (.ireturn, 1) := by decide +kernel
theorem dX10_best_0 : decode cX10_best 0 = .ok (.iload_n 1, 1) := by decide +kernel
theorem dX10_best_1 : decode cX10_best 1 = .ok (.iconst 0, 1) := by decide +kernel
theorem dX10_best_2 : decode cX10_best 2 = .ok (.iconst 1, 1) := by decide +kernel
theorem dX10_best_3 : decode cX10_best 3 = .ok (.invokestatic 106, 3) := by decide +kernel
theorem dX10_best_6 : decode cX10_best 6 = .ok (.ifCond .ne 6, 3) := by decide +kernel
theorem dX10_best_9 : decode cX10_best 9 = .ok (.bipush (-2), 2) := by decide +kernel
theorem dX10_best_11 : decode cX10_best 11 = .ok (.ireturn, 1) := by decide +kernel
theorem dX10_best_12 : decode cX10_best 12 = .ok (.aload_n 0, 1) := by decide +kernel
theorem dX10_best_13 : decode cX10_best 13 = .ok (.getfield 78, 3) := by decide +kernel
theorem dX10_best_16 : decode cX10_best 16 = .ok (.aload_n 0, 1) := by decide +kernel
theorem dX10_best_17 : decode cX10_best 17 = .ok (.getfield 17, 3) := by decide +kernel
theorem dX10_best_20 : decode cX10_best 20 = .ok (.aload_n 0, 1) := by decide +kernel
theorem dX10_best_21 : decode cX10_best 21 = .ok (.getfield 110, 3) := by decide +kernel
theorem dX10_best_24 : decode cX10_best 24 = .ok (.aload_n 0, 1) := by decide +kernel
theorem dX10_best_25 : decode cX10_best 25 = .ok (.getfield 37, 3) := by decide +kernel
theorem dX10_best_28 : decode cX10_best 28 = .ok (.invokevirtual 278, 3) := by decide +kernel
theorem dX10_best_31 : decode cX10_best 31 = .ok (.aload_n 0, 1) := by decide +kernel
theorem dX10_best_32 : decode cX10_best 32 = .ok (.getfield 78, 3) := by decide +kernel
theorem dX10_best_35 : decode cX10_best 35 = .ok (.invokevirtual 295, 3) := by decide +kernel
theorem dX10_best_38 : decode cX10_best 38 = .ok (.ifCond .ne 6, 3) := by decide +kernel
theorem dX10_best_41 : decode cX10_best 41 = .ok (.bipush (-5), 2) := by decide +kernel
theorem dX10_best_43 : decode cX10_best 43 = .ok (.ireturn, 1) := by decide +kernel
theorem dX10_best_44 : decode cX10_best 44 = .ok (.iload_n 1, 1) := by decide +kernel
theorem dX10_best_45 : decode cX10_best 45 = .ok (.ifCond .ne 13, 3) := by decide +kernel
theorem dX10_best_48 : decode cX10_best 48 = .ok (.aload_n 0, 1) := by decide +kernel
theorem dX10_best_49 : decode cX10_best 49 = .ok (.getfield 78, 3) := by decide +kernel
theorem dX10_best_52 : decode cX10_best 52 = .ok (.getfield 298, 3) := by decide +kernel
theorem dX10_best_55 : decode cX10_best 55 = .ok (.goto 10, 3) := by decide +kernel
theorem dX10_best_58 : decode cX10_best 58 = .ok (.aload_n 0, 1) := by decide +kernel
theorem dX10_best_59 : decode cX10_best 59 = .ok (.getfield 78, 3) := by decide +kernel
theorem dX10_best_62 : decode cX10_best 62 = .ok (.getfield 301, 3) := by decide +kernel
theorem dX10_best_65 : decode cX10_best 65 = .ok (.ireturn, 1) := by decide +kernel
theorem dX10_vote_0 : decode cX10_vote 0 = .ok (.aload_n 0, 1) := by decide +kernel
theorem dX10_vote_1 : decode cX10_vote 1 = .ok (.iload_n 1, 1) := by decide +kernel
theorem dX10_vote_2 : decode cX10_vote 2 = .ok (.invokevirtual 120, 3) := by decide +kernel
theorem dX10_vote_5 : decode cX10_vote 5 = .ok (.ifCond .ne 5, 3) := by decide +kernel
theorem dX10_vote_8 : decode cX10_vote 8 = .ok (.iconst (-1), 1) := by decide +kernel
theorem dX10_vote_9 : decode cX10_vote 9 = .ok (.ireturn, 1) := by decide +kernel
theorem dX10_vote_10 : decode cX10_vote 10 = .ok (.iload_n 2, 1) := by decide +kernel
theorem dX10_vote_11 : decode cX10_vote 11 = .ok (.iconst 0, 1) := by decide +kernel
theorem dX10_vote_12 : decode cX10_vote 12 = .ok (.iconst 1, 1) := by decide +kernel
theorem dX10_vote_13 : decode cX10_vote 13 = .ok (.invokestatic 106, 3) := by decide +kernel
theorem dX10_vote_16 : decode cX10_vote 16 = .ok (.ifCond .ne 6, 3) := by decide +kernel
theorem dX10_vote_19 : decode cX10_vote 19 = .ok (.bipush (-2), 2) := by decide +kernel
theorem dX10_vote_21 : decode cX10_vote 21 = .ok (.ireturn, 1) := by decide +kernel
theorem dX10_vote_22 : decode cX10_vote 22 = .ok (.aload_n 0, 1) := by decide +kernel
theorem dX10_vote_23 : decode cX10_vote 23 = .ok (.getfield 17, 3) := by decide +kernel
theorem dX10_vote_26 : decode cX10_vote 26 = .ok (.iload_n 1, 1) := by decide +kernel
theorem dX10_vote_27 : decode cX10_vote 27 = .ok (.aaload, 1) := by decide +kernel
theorem dX10_vote_28 : decode cX10_vote 28 = .ok (.getfield 136, 3) := by decide +kernel
theorem dX10_vote_31 : decode cX10_vote 31 = .ok (.ifCond .ne 6, 3) := by decide +kernel
theorem dX10_vote_34 : decode cX10_vote 34 = .ok (.bipush (-3), 2) := by decide +kernel
theorem dX10_vote_36 : decode cX10_vote 36 = .ok (.ireturn, 1) := by decide +kernel
theorem dX10_vote_37 : decode cX10_vote 37 = .ok (.iconst 0, 1) := by decide +kernel
theorem dX10_vote_38 : decode cX10_vote 38 = .ok (.istore_n 3, 1) := by decide +kernel
theorem dX10_vote_39 : decode cX10_vote 39 = .ok (.iconst 0, 1) := by decide +kernel
theorem dX10_vote_40 : decode cX10_vote 40 = .ok (.istore 4, 2) := by decide +kernel
theorem dX10_vote_42 : decode cX10_vote 42 = .ok (.iload 4, 2) := by decide +kernel
theorem dX10_vote_44 : decode cX10_vote 44 = .ok (.aload_n 0, 1) := by decide +kernel
theorem dX10_vote_45 : decode cX10_vote 45 = .ok (.getfield 164, 3) := by decide +kernel
theorem dX10_vote_48 : decode cX10_vote 48 = .ok (.if_icmp .ge 41, 3) := by decide +kernel
theorem dX10_vote_51 : decode cX10_vote 51 = .ok (.aload_n 0, 1) := by decide +kernel
theorem dX10_vote_52 : decode cX10_vote 52 = .ok (.getfield 23, 3) := by decide +kernel
theorem dX10_vote_55 : decode cX10_vote 55 = .ok (.iload 4, 2) := by decide +kernel
theorem dX10_vote_57 : decode cX10_vote 57 = .ok (.aaload, 1) := by decide +kernel
theorem dX10_vote_58 : decode cX10_vote 58 = .ok (.getfield 185, 3) := by decide +kernel
theorem dX10_vote_61 : decode cX10_vote 61 = .ok (.iload_n 1, 1) := by decide +kernel
theorem dX10_vote_62 : decode cX10_vote 62 = .ok (.if_icmp .ne 21, 3) := by decide +kernel
theorem dX10_vote_65 : decode cX10_vote 65 = .ok (.aload_n 0, 1) := by decide +kernel
theorem dX10_vote_66 : decode cX10_vote 66 = .ok (.iconst 2, 1) := by decide +kernel
theorem dX10_vote_67 : decode cX10_vote 67 = .ok (.aload_n 0, 1) := by decide +kernel
theorem dX10_vote_68 : decode cX10_vote 68 = .ok (.getfield 23, 3) := by decide +kernel
theorem dX10_vote_71 : decode cX10_vote 71 = .ok (.iload 4, 2) := by decide +kernel
theorem dX10_vote_73 : decode cX10_vote 73 = .ok (.aaload, 1) := by decide +kernel
theorem dX10_vote_74 : decode cX10_vote 74 = .ok (.invokevirtual 304, 3) := by decide +kernel
theorem dX10_vote_77 : decode cX10_vote 77 = .ok (.ifCond .eq 6, 3) := by decide +kernel
theorem dX10_vote_80 : decode cX10_vote 80 = .ok (.iinc 3 1, 3) := by decide +kernel
theorem dX10_vote_83 : decode cX10_vote 83 = .ok (.iinc 4 1, 3) := by decide +kernel
theorem dX10_vote_86 : decode cX10_vote 86 = .ok (.goto (-44), 3) := by decide +kernel
theorem dX10_vote_89 : decode cX10_vote 89 = .ok (.iload_n 2, 1) := by decide +kernel
theorem dX10_vote_90 : decode cX10_vote 90 = .ok (.ifCond .ne 7, 3) := by decide +kernel
theorem dX10_vote_93 : decode cX10_vote 93 = .ok (.iload_n 3, 1) := by decide +kernel
theorem dX10_vote_94 : decode cX10_vote 94 = .ok (.goto 22, 3) := by decide +kernel
theorem dX10_vote_97 : decode cX10_vote 97 = .ok (.iconst 2, 1) := by decide +kernel
theorem dX10_vote_98 : decode cX10_vote 98 = .ok (.iload_n 3, 1) := by decide +kernel
theorem dX10_vote_99 : decode cX10_vote 99 = .ok (.imul, 1) := by decide +kernel
theorem dX10_vote_100 : decode cX10_vote 100 = .ok (.aload_n 0, 1) := by decide +kernel
theorem dX10_vote_101 : decode cX10_vote 101 = .ok (.iload_n 1, 1) := by decide +kernel
theorem dX10_vote_102 : decode cX10_vote 102 = .ok (.invokevirtual 144, 3) := by decide +kernel
theorem dX10_vote_105 : decode cX10_vote 105 = .ok (.if_icmp .le 7, 3) := by decide +kernel
theorem dX10_vote_108 : decode cX10_vote 108 = .ok (.iconst 1, 1) := by decide +kernel
theorem dX10_vote_109 : decode cX10_vote 109 = .ok (.goto 4, 3) := by decide +kernel
theorem dX10_vote_112 : decode cX10_vote 112 = .ok (.iconst 0, 1) := by decide +kernel
theorem dX10_vote_113 : decode cX10_vote 113 = .ok (.invokestatic 140, 3) := by decide +kernel
theorem dX10_vote_116 : decode cX10_vote 116 = .ok (.ireturn, 1) := by decide +kernel
theorem dX10_worked_0 : decode cX10_worked 0 = .ok (.aload_n 0, 1) := by decide +kernel
theorem dX10_worked_1 : decode cX10_worked 1 = .ok (.iload_n 1, 1) := by decide +kernel
theorem dX10_worked_2 : decode cX10_worked 2 = .ok (.invokevirtual 120, 3) := by decide +kernel
theorem dX10_worked_5 : decode cX10_worked 5 = .ok (.ifCond .ne 5, 3) := by decide +kernel
theorem dX10_worked_8 : decode cX10_worked 8 = .ok (.iconst (-1), 1) := by decide +kernel
theorem dX10_worked_9 : decode cX10_worked 9 = .ok (.ireturn, 1) := by decide +kernel
theorem dX10_worked_10 : decode cX10_worked 10 = .ok (.iload_n 2, 1) := by decide +kernel
theorem dX10_worked_11 : decode cX10_worked 11 = .ok (.iconst 0, 1) := by decide +kernel
theorem dX10_worked_12 : decode cX10_worked 12 = .ok (.bipush 99, 2) := by decide +kernel
theorem dX10_worked_14 : decode cX10_worked 14 = .ok (.invokestatic 106, 3) := by decide +kernel
theorem dX10_worked_17 : decode cX10_worked 17 = .ok (.ifCond .eq 13, 3) := by decide +kernel
theorem dX10_worked_20 : decode cX10_worked 20 = .ok (.iload_n 3, 1) := by decide +kernel
theorem dX10_worked_21 : decode cX10_worked 21 = .ok (.iload_n 2, 1) := by decide +kernel
theorem dX10_worked_22 : decode cX10_worked 22 = .ok (.bipush 99, 2) := by decide +kernel
theorem dX10_worked_24 : decode cX10_worked 24 = .ok (.invokestatic 106, 3) := by decide +kernel
theorem dX10_worked_27 : decode cX10_worked 27 = .ok (.ifCond .ne 6, 3) := by decide +kernel
theorem dX10_worked_30 : decode cX10_worked 30 = .ok (.bipush (-2), 2) := by decide +kernel
theorem dX10_worked_32 : decode cX10_worked 32 = .ok (.ireturn, 1) := by decide +kernel
theorem dX10_worked_33 : decode cX10_worked 33 = .ok (.aload_n 0, 1) := by decide +kernel
theorem dX10_worked_34 : decode cX10_worked 34 = .ok (.getfield 17, 3) := by decide +kernel
theorem dX10_worked_37 : decode cX10_worked 37 = .ok (.iload_n 1, 1) := by decide +kernel
theorem dX10_worked_38 : decode cX10_worked 38 = .ok (.aaload, 1) := by decide +kernel
theorem dX10_worked_39 : decode cX10_worked 39 = .ok (.iload_n 2, 1) := by decide +kernel
theorem dX10_worked_40 : decode cX10_worked 40 = .ok (.putfield 308, 3) := by decide +kernel
theorem dX10_worked_43 : decode cX10_worked 43 = .ok (.aload_n 0, 1) := by decide +kernel
theorem dX10_worked_44 : decode cX10_worked 44 = .ok (.getfield 17, 3) := by decide +kernel
theorem dX10_worked_47 : decode cX10_worked 47 = .ok (.iload_n 1, 1) := by decide +kernel
theorem dX10_worked_48 : decode cX10_worked 48 = .ok (.aaload, 1) := by decide +kernel
theorem dX10_worked_49 : decode cX10_worked 49 = .ok (.iload_n 3, 1) := by decide +kernel
theorem dX10_worked_50 : decode cX10_worked 50 = .ok (.putfield 311, 3) := by decide +kernel
theorem dX10_worked_53 : decode cX10_worked 53 = .ok (.iconst 1, 1) := by decide +kernel
theorem dX10_worked_54 : decode cX10_worked 54 = .ok (.ireturn, 1) := by decide +kernel
theorem dX10_harm_0 : decode cX10_harm 0 = .ok (.iload_n 1, 1) := by decide +kernel
theorem dX10_harm_1 : decode cX10_harm 1 = .ok (.iload_n 2, 1) := by decide +kernel
theorem dX10_harm_2 : decode cX10_harm 2 = .ok (.invokestatic 95, 3) := by decide +kernel
theorem dX10_harm_5 : decode cX10_harm 5 = .ok (.ifCond .eq 25, 3) := by decide +kernel
theorem dX10_harm_8 : decode cX10_harm 8 = .ok (.iload_n 3, 1) := by decide +kernel
theorem dX10_harm_9 : decode cX10_harm 9 = .ok (.iconst 0, 1) := by decide +kernel
theorem dX10_harm_10 : decode cX10_harm 10 = .ok (.bipush 99, 2) := by decide +kernel
theorem dX10_harm_12 : decode cX10_harm 12 = .ok (.invokestatic 106, 3) := by decide +kernel
theorem dX10_harm_15 : decode cX10_harm 15 = .ok (.ifCond .eq 15, 3) := by decide +kernel
theorem dX10_harm_18 : decode cX10_harm 18 = .ok (.iload 4, 2) := by decide +kernel
theorem dX10_harm_20 : decode cX10_harm 20 = .ok (.iconst 0, 1) := by decide +kernel
theorem dX10_harm_21 : decode cX10_harm 21 = .ok (.ldc_w 314, 3) := by decide +kernel
theorem dX10_harm_24 : decode cX10_harm 24 = .ok (.invokestatic 106, 3) := by decide +kernel
theorem dX10_harm_27 : decode cX10_harm 27 = .ok (.ifCond .ne 6, 3) := by decide +kernel
theorem dX10_harm_30 : decode cX10_harm 30 = .ok (.bipush (-2), 2) := by decide +kernel
theorem dX10_harm_32 : decode cX10_harm 32 = .ok (.ireturn, 1) := by decide +kernel
theorem dX10_harm_33 : decode cX10_harm 33 = .ok (.aload_n 0, 1) := by decide +kernel
theorem dX10_harm_34 : decode cX10_harm 34 = .ok (.getfield 315, 3) := by decide +kernel
theorem dX10_harm_37 : decode cX10_harm 37 = .ok (.bipush 10, 2) := by decide +kernel
theorem dX10_harm_39 : decode cX10_harm 39 = .ok (.if_icmp .lt 6, 3) := by decide +kernel
theorem dX10_harm_42 : decode cX10_harm 42 = .ok (.bipush (-4), 2) := by decide +kernel
theorem dX10_harm_44 : decode cX10_harm 44 = .ok (.ireturn, 1) := by decide +kernel
theorem dX10_harm_45 : decode cX10_harm 45 = .ok (.aload_n 0, 1) := by decide +kernel
theorem dX10_harm_46 : decode cX10_harm 46 = .ok (.getfield 29, 3) := by decide +kernel
theorem dX10_harm_49 : decode cX10_harm 49 = .ok (.aload_n 0, 1) := by decide +kernel
theorem dX10_harm_50 : decode cX10_harm 50 = .ok (.getfield 315, 3) := by decide +kernel
theorem dX10_harm_53 : decode cX10_harm 53 = .ok (.new 27, 3) := by decide +kernel
theorem dX10_harm_56 : decode cX10_harm 56 = .ok (.dup, 1) := by decide +kernel
theorem dX10_harm_57 : decode cX10_harm 57 = .ok (.new 9, 3) := by decide +kernel
theorem dX10_harm_60 : decode cX10_harm 60 = .ok (.dup, 1) := by decide +kernel
theorem dX10_harm_61 : decode cX10_harm 61 = .ok (.iload_n 1, 1) := by decide +kernel
theorem dX10_harm_62 : decode cX10_harm 62 = .ok (.iload_n 2, 1) := by decide +kernel
theorem dX10_harm_63 : decode cX10_harm 63 = .ok (.invokespecial 82, 3) := by decide +kernel
theorem dX10_harm_66 : decode cX10_harm 66 = .ok (.iload_n 3, 1) := by decide +kernel
theorem dX10_harm_67 : decode cX10_harm 67 = .ok (.iload 4, 2) := by decide +kernel
theorem dX10_harm_69 : decode cX10_harm 69 = .ok (.invokespecial 318, 3) := by decide +kernel
theorem dX10_harm_72 : decode cX10_harm 72 = .ok (.aastore, 1) := by decide +kernel
theorem dX10_harm_73 : decode cX10_harm 73 = .ok (.aload_n 0, 1) := by decide +kernel
theorem dX10_harm_74 : decode cX10_harm 74 = .ok (.dup, 1) := by decide +kernel
theorem dX10_harm_75 : decode cX10_harm 75 = .ok (.getfield 315, 3) := by decide +kernel
theorem dX10_harm_78 : decode cX10_harm 78 = .ok (.dup_x1, 1) := by decide +kernel
theorem dX10_harm_79 : decode cX10_harm 79 = .ok (.iconst 1, 1) := by decide +kernel
theorem dX10_harm_80 : decode cX10_harm 80 = .ok (.iadd, 1) := by decide +kernel
theorem dX10_harm_81 : decode cX10_harm 81 = .ok (.putfield 315, 3) := by decide +kernel
theorem dX10_harm_84 : decode cX10_harm 84 = .ok (.ireturn, 1) := by decide +kernel
theorem dX10_whose_0 : decode cX10_whose 0 = .ok (.aload_n 0, 1) := by decide +kernel
theorem dX10_whose_1 : decode cX10_whose 1 = .ok (.iload_n 1, 1) := by decide +kernel
theorem dX10_whose_2 : decode cX10_whose 2 = .ok (.invokevirtual 321, 3) := by decide +kernel
theorem dX10_whose_5 : decode cX10_whose 5 = .ok (.ifCond .ne 5, 3) := by decide +kernel
theorem dX10_whose_8 : decode cX10_whose 8 = .ok (.iconst (-1), 1) := by decide +kernel
theorem dX10_whose_9 : decode cX10_whose 9 = .ok (.ireturn, 1) := by decide +kernel
theorem dX10_whose_10 : decode cX10_whose 10 = .ok (.iconst 0, 1) := by decide +kernel
theorem dX10_whose_11 : decode cX10_whose 11 = .ok (.istore_n 2, 1) := by decide +kernel
theorem dX10_whose_12 : decode cX10_whose 12 = .ok (.iconst 0, 1) := by decide +kernel
theorem dX10_whose_13 : decode cX10_whose 13 = .ok (.istore_n 3, 1) := by decide +kernel
theorem dX10_whose_14 : decode cX10_whose 14 = .ok (.iload_n 3, 1) := by decide +kernel
theorem dX10_whose_15 : decode cX10_whose 15 = .ok (.aload_n 0, 1) := by decide +kernel
theorem dX10_whose_16 : decode cX10_whose 16 = .ok (.getfield 110, 3) := by decide +kernel
theorem dX10_whose_19 : decode cX10_whose 19 = .ok (.if_icmp .ge 29, 3) := by decide +kernel
theorem dX10_whose_22 : decode cX10_whose 22 = .ok (.aload_n 0, 1) := by decide +kernel
theorem dX10_whose_23 : decode cX10_whose 23 = .ok (.iload_n 3, 1) := by decide +kernel
theorem dX10_whose_24 : decode cX10_whose 24 = .ok (.aload_n 0, 1) := by decide +kernel
theorem dX10_whose_25 : decode cX10_whose 25 = .ok (.getfield 29, 3) := by decide +kernel
theorem dX10_whose_28 : decode cX10_whose 28 = .ok (.iload_n 1, 1) := by decide +kernel
theorem dX10_whose_29 : decode cX10_whose 29 = .ok (.aaload, 1) := by decide +kernel
theorem dX10_whose_30 : decode cX10_whose 30 = .ok (.invokevirtual 324, 3) := by decide +kernel
theorem dX10_whose_33 : decode cX10_whose 33 = .ok (.ifCond .eq 9, 3) := by decide +kernel
theorem dX10_whose_36 : decode cX10_whose 36 = .ok (.iload_n 2, 1) := by decide +kernel
theorem dX10_whose_37 : decode cX10_whose 37 = .ok (.iconst 1, 1) := by decide +kernel
theorem dX10_whose_38 : decode cX10_whose 38 = .ok (.iload_n 3, 1) := by decide +kernel
theorem dX10_whose_39 : decode cX10_whose 39 = .ok (.ishl, 1) := by decide +kernel
theorem dX10_whose_40 : decode cX10_whose 40 = .ok (.ior, 1) := by decide +kernel
theorem dX10_whose_41 : decode cX10_whose 41 = .ok (.istore_n 2, 1) := by decide +kernel
theorem dX10_whose_42 : decode cX10_whose 42 = .ok (.iinc 3 1, 3) := by decide +kernel
theorem dX10_whose_45 : decode cX10_whose 45 = .ok (.goto (-31), 3) := by decide +kernel
theorem dX10_whose_48 : decode cX10_whose 48 = .ok (.iload_n 2, 1) := by decide +kernel
theorem dX10_whose_49 : decode cX10_whose 49 = .ok (.ireturn, 1) := by decide +kernel
theorem dX10_part_0 : decode cX10_part 0 = .ok (.aload_n 0, 1) := by decide +kernel
theorem dX10_part_1 : decode cX10_part 1 = .ok (.iload_n 1, 1) := by decide +kernel
theorem dX10_part_2 : decode cX10_part 2 = .ok (.invokevirtual 321, 3) := by decide +kernel
theorem dX10_part_5 : decode cX10_part 5 = .ok (.ifCond .eq 11, 3) := by decide +kernel
theorem dX10_part_8 : decode cX10_part 8 = .ok (.aload_n 0, 1) := by decide +kernel
theorem dX10_part_9 : decode cX10_part 9 = .ok (.iload_n 2, 1) := by decide +kernel
theorem dX10_part_10 : decode cX10_part 10 = .ok (.invokevirtual 120, 3) := by decide +kernel
theorem dX10_part_13 : decode cX10_part 13 = .ok (.ifCond .ne 5, 3) := by decide +kernel
theorem dX10_part_16 : decode cX10_part 16 = .ok (.iconst (-1), 1) := by decide +kernel
theorem dX10_part_17 : decode cX10_part 17 = .ok (.ireturn, 1) := by decide +kernel
theorem dX10_part_18 : decode cX10_part 18 = .ok (.aload_n 0, 1) := by decide +kernel
theorem dX10_part_19 : decode cX10_part 19 = .ok (.iload_n 2, 1) := by decide +kernel
theorem dX10_part_20 : decode cX10_part 20 = .ok (.aload_n 0, 1) := by decide +kernel
theorem dX10_part_21 : decode cX10_part 21 = .ok (.getfield 29, 3) := by decide +kernel
theorem dX10_part_24 : decode cX10_part 24 = .ok (.iload_n 1, 1) := by decide +kernel
theorem dX10_part_25 : decode cX10_part 25 = .ok (.aaload, 1) := by decide +kernel
theorem dX10_part_26 : decode cX10_part 26 = .ok (.invokevirtual 324, 3) := by decide +kernel
theorem dX10_part_29 : decode cX10_part 29 = .ok (.ifCond .ne 5, 3) := by decide +kernel
theorem dX10_part_32 : decode cX10_part 32 = .ok (.iconst 0, 1) := by decide +kernel
theorem dX10_part_33 : decode cX10_part 33 = .ok (.ireturn, 1) := by decide +kernel
theorem dX10_part_34 : decode cX10_part 34 = .ok (.aload_n 0, 1) := by decide +kernel
theorem dX10_part_35 : decode cX10_part 35 = .ok (.aload_n 0, 1) := by decide +kernel
theorem dX10_part_36 : decode cX10_part 36 = .ok (.getfield 29, 3) := by decide +kernel
theorem dX10_part_39 : decode cX10_part 39 = .ok (.iload_n 1, 1) := by decide +kernel
theorem dX10_part_40 : decode cX10_part 40 = .ok (.aaload, 1) := by decide +kernel
theorem dX10_part_41 : decode cX10_part 41 = .ok (.iload_n 2, 1) := by decide +kernel
theorem dX10_part_42 : decode cX10_part 42 = .ok (.invokevirtual 328, 3) := by decide +kernel
theorem dX10_part_45 : decode cX10_part 45 = .ok (.ireturn, 1) := by decide +kernel
theorem dX10_work_0 : decode cX10_work 0 = .ok (.iload_n 1, 1) := by decide +kernel
theorem dX10_work_1 : decode cX10_work 1 = .ok (.invokestatic 91, 3) := by decide +kernel
theorem dX10_work_4 : decode cX10_work 4 = .ok (.ifCond .ne 5, 3) := by decide +kernel
theorem dX10_work_7 : decode cX10_work 7 = .ok (.iconst (-1), 1) := by decide +kernel
theorem dX10_work_8 : decode cX10_work 8 = .ok (.ireturn, 1) := by decide +kernel
theorem dX10_work_9 : decode cX10_work 9 = .ok (.iload_n 2, 1) := by decide +kernel
theorem dX10_work_10 : decode cX10_work 10 = .ok (.tableswitch 44 0 2 #[26, 32, 38], 26) := by decide +kernel
theorem dX10_work_36 : decode cX10_work 36 = .ok (.aload_n 0, 1) := by decide +kernel
theorem dX10_work_37 : decode cX10_work 37 = .ok (.iload_n 1, 1) := by decide +kernel
theorem dX10_work_38 : decode cX10_work 38 = .ok (.invokevirtual 332, 3) := by decide +kernel
theorem dX10_work_41 : decode cX10_work 41 = .ok (.ireturn, 1) := by decide +kernel
theorem dX10_work_42 : decode cX10_work 42 = .ok (.aload_n 0, 1) := by decide +kernel
theorem dX10_work_43 : decode cX10_work 43 = .ok (.iload_n 1, 1) := by decide +kernel
theorem dX10_work_44 : decode cX10_work 44 = .ok (.invokevirtual 335, 3) := by decide +kernel
theorem dX10_work_47 : decode cX10_work 47 = .ok (.ireturn, 1) := by decide +kernel
theorem dX10_work_48 : decode cX10_work 48 = .ok (.aload_n 0, 1) := by decide +kernel
theorem dX10_work_49 : decode cX10_work 49 = .ok (.iload_n 1, 1) := by decide +kernel
theorem dX10_work_50 : decode cX10_work 50 = .ok (.invokevirtual 338, 3) := by decide +kernel
theorem dX10_work_53 : decode cX10_work 53 = .ok (.ireturn, 1) := by decide +kernel
theorem dX10_work_54 : decode cX10_work 54 = .ok (.bipush (-2), 2) := by decide +kernel
theorem dX10_work_56 : decode cX10_work 56 = .ok (.ireturn, 1) := by decide +kernel
theorem dX10_lone_0 : decode cX10_lone 0 = .ok (.iconst 0, 1) := by decide +kernel
theorem dX10_lone_1 : decode cX10_lone 1 = .ok (.istore_n 1, 1) := by decide +kernel
theorem dX10_lone_2 : decode cX10_lone 2 = .ok (.iconst 0, 1) := by decide +kernel
theorem dX10_lone_3 : decode cX10_lone 3 = .ok (.istore_n 2, 1) := by decide +kernel
theorem dX10_lone_4 : decode cX10_lone 4 = .ok (.iload_n 2, 1) := by decide +kernel
theorem dX10_lone_5 : decode cX10_lone 5 = .ok (.bipush 6, 2) := by decide +kernel
theorem dX10_lone_7 : decode cX10_lone 7 = .ok (.if_icmp .ge 27, 3) := by decide +kernel
theorem dX10_lone_10 : decode cX10_lone 10 = .ok (.aload_n 0, 1) := by decide +kernel
theorem dX10_lone_11 : decode cX10_lone 11 = .ok (.iload_n 2, 1) := by decide +kernel
theorem dX10_lone_12 : decode cX10_lone 12 = .ok (.invokevirtual 338, 3) := by decide +kernel
theorem dX10_lone_15 : decode cX10_lone 15 = .ok (.invokestatic 341, 3) := by decide +kernel
theorem dX10_lone_18 : decode cX10_lone 18 = .ok (.iconst 1, 1) := by decide +kernel
theorem dX10_lone_19 : decode cX10_lone 19 = .ok (.if_icmp .ne 9, 3) := by decide +kernel
theorem dX10_lone_22 : decode cX10_lone 22 = .ok (.iload_n 1, 1) := by decide +kernel
theorem dX10_lone_23 : decode cX10_lone 23 = .ok (.iconst 1, 1) := by decide +kernel
theorem dX10_lone_24 : decode cX10_lone 24 = .ok (.iload_n 2, 1) := by decide +kernel
theorem dX10_lone_25 : decode cX10_lone 25 = .ok (.ishl, 1) := by decide +kernel
theorem dX10_lone_26 : decode cX10_lone 26 = .ok (.ior, 1) := by decide +kernel
theorem dX10_lone_27 : decode cX10_lone 27 = .ok (.istore_n 1, 1) := by decide +kernel
theorem dX10_lone_28 : decode cX10_lone 28 = .ok (.iinc 2 1, 3) := by decide +kernel
theorem dX10_lone_31 : decode cX10_lone 31 = .ok (.goto (-27), 3) := by decide +kernel
theorem dX10_lone_34 : decode cX10_lone 34 = .ok (.iload_n 1, 1) := by decide +kernel
theorem dX10_lone_35 : decode cX10_lone 35 = .ok (.ireturn, 1) := by decide +kernel
theorem dX10_told_0 : decode cX10_told 0 = .ok (.iload_n 1, 1) := by decide +kernel
theorem dX10_told_1 : decode cX10_told 1 = .ok (.bipush 10, 2) := by decide +kernel
theorem dX10_told_3 : decode cX10_told 3 = .ok (.bipush 14, 2) := by decide +kernel
theorem dX10_told_5 : decode cX10_told 5 = .ok (.invokestatic 106, 3) := by decide +kernel
theorem dX10_told_8 : decode cX10_told 8 = .ok (.ifCond .eq 12, 3) := by decide +kernel
theorem dX10_told_11 : decode cX10_told 11 = .ok (.aload_n 0, 1) := by decide +kernel
theorem dX10_told_12 : decode cX10_told 12 = .ok (.iload_n 1, 1) := by decide +kernel
theorem dX10_told_13 : decode cX10_told 13 = .ok (.bipush 10, 2) := by decide +kernel
theorem dX10_told_15 : decode cX10_told 15 = .ok (.isub, 1) := by decide +kernel
theorem dX10_told_16 : decode cX10_told 16 = .ok (.invokevirtual 346, 3) := by decide +kernel
theorem dX10_told_19 : decode cX10_told 19 = .ok (.ireturn, 1) := by decide +kernel
theorem dX10_told_20 : decode cX10_told 20 = .ok (.iload_n 1, 1) := by decide +kernel
theorem dX10_told_21 : decode cX10_told 21 = .ok (.bipush 20, 2) := by decide +kernel
theorem dX10_told_23 : decode cX10_told 23 = .ok (.bipush 19, 2) := by decide +kernel
theorem dX10_told_25 : decode cX10_told 25 = .ok (.aload_n 0, 1) := by decide +kernel
theorem dX10_told_26 : decode cX10_told 26 = .ok (.getfield 37, 3) := by decide +kernel
theorem dX10_told_29 : decode cX10_told 29 = .ok (.arraylength, 1) := by decide +kernel
theorem dX10_told_30 : decode cX10_told 30 = .ok (.iadd, 1) := by decide +kernel
theorem dX10_told_31 : decode cX10_told 31 = .ok (.invokestatic 106, 3) := by decide +kernel
theorem dX10_told_34 : decode cX10_told 34 = .ok (.ifCond .eq 13, 3) := by decide +kernel
theorem dX10_told_37 : decode cX10_told 37 = .ok (.aload_n 0, 1) := by decide +kernel
theorem dX10_told_38 : decode cX10_told 38 = .ok (.getfield 37, 3) := by decide +kernel
theorem dX10_told_41 : decode cX10_told 41 = .ok (.iload_n 1, 1) := by decide +kernel
theorem dX10_told_42 : decode cX10_told 42 = .ok (.bipush 20, 2) := by decide +kernel
theorem dX10_told_44 : decode cX10_told 44 = .ok (.isub, 1) := by decide +kernel
theorem dX10_told_45 : decode cX10_told 45 = .ok (.iaload, 1) := by decide +kernel
theorem dX10_told_46 : decode cX10_told 46 = .ok (.ireturn, 1) := by decide +kernel
theorem dX10_told_47 : decode cX10_told 47 = .ok (.iload_n 1, 1) := by decide +kernel
theorem dX10_told_48 : decode cX10_told 48 = .ok (.tableswitch 112 0 8 #[52, 57, 62, 70, 78, 83, 91, 99, 107], 52) := by decide +kernel
theorem dX10_told_100 : decode cX10_told 100 = .ok (.aload_n 0, 1) := by decide +kernel
theorem dX10_told_101 : decode cX10_told 101 = .ok (.getfield 110, 3) := by decide +kernel
theorem dX10_told_104 : decode cX10_told 104 = .ok (.ireturn, 1) := by decide +kernel
theorem dX10_told_105 : decode cX10_told 105 = .ok (.aload_n 0, 1) := by decide +kernel
theorem dX10_told_106 : decode cX10_told 106 = .ok (.getfield 164, 3) := by decide +kernel
theorem dX10_told_109 : decode cX10_told 109 = .ok (.ireturn, 1) := by decide +kernel
theorem dX10_told_110 : decode cX10_told 110 = .ok (.aload_n 0, 1) := by decide +kernel
theorem dX10_told_111 : decode cX10_told 111 = .ok (.getfield 43, 3) := by decide +kernel
theorem dX10_told_114 : decode cX10_told 114 = .ok (.getfield 209, 3) := by decide +kernel
theorem dX10_told_117 : decode cX10_told 117 = .ok (.ireturn, 1) := by decide +kernel
theorem dX10_told_118 : decode cX10_told 118 = .ok (.aload_n 0, 1) := by decide +kernel
theorem dX10_told_119 : decode cX10_told 119 = .ok (.getfield 68, 3) := by decide +kernel
theorem dX10_told_122 : decode cX10_told 122 = .ok (.getfield 261, 3) := by decide +kernel
theorem dX10_told_125 : decode cX10_told 125 = .ok (.ireturn, 1) := by decide +kernel
theorem dX10_told_126 : decode cX10_told 126 = .ok (.aload_n 0, 1) := by decide +kernel
theorem dX10_told_127 : decode cX10_told 127 = .ok (.getfield 315, 3) := by decide +kernel
theorem dX10_told_130 : decode cX10_told 130 = .ok (.ireturn, 1) := by decide +kernel
theorem dX10_told_131 : decode cX10_told 131 = .ok (.aload_n 0, 1) := by decide +kernel
theorem dX10_told_132 : decode cX10_told 132 = .ok (.getfield 68, 3) := by decide +kernel
theorem dX10_told_135 : decode cX10_told 135 = .ok (.getfield 349, 3) := by decide +kernel
theorem dX10_told_138 : decode cX10_told 138 = .ok (.ireturn, 1) := by decide +kernel
theorem dX10_told_139 : decode cX10_told 139 = .ok (.aload_n 0, 1) := by decide +kernel
theorem dX10_told_140 : decode cX10_told 140 = .ok (.getfield 68, 3) := by decide +kernel
theorem dX10_told_143 : decode cX10_told 143 = .ok (.getfield 352, 3) := by decide +kernel
theorem dX10_told_146 : decode cX10_told 146 = .ok (.ireturn, 1) := by decide +kernel
theorem dX10_told_147 : decode cX10_told 147 = .ok (.aload_n 0, 1) := by decide +kernel
theorem dX10_told_148 : decode cX10_told 148 = .ok (.getfield 68, 3) := by decide +kernel
theorem dX10_told_151 : decode cX10_told 151 = .ok (.getfield 355, 3) := by decide +kernel
theorem dX10_told_154 : decode cX10_told 154 = .ok (.ireturn, 1) := by decide +kernel
theorem dX10_told_155 : decode cX10_told 155 = .ok (.aload_n 0, 1) := by decide +kernel
theorem dX10_told_156 : decode cX10_told 156 = .ok (.invokevirtual 358, 3) := by decide +kernel
theorem dX10_told_159 : decode cX10_told 159 = .ok (.ireturn, 1) := by decide +kernel
theorem dX10_told_160 : decode cX10_told 160 = .ok (.bipush (-2), 2) := by decide +kernel
theorem dX10_told_162 : decode cX10_told 162 = .ok (.ireturn, 1) := by decide +kernel
theorem dX10_isWithin_0 : decode cX10_isWithin 0 = .ok (.iload_n 0, 1) := by decide +kernel
theorem dX10_isWithin_1 : decode cX10_isWithin 1 = .ok (.iload_n 1, 1) := by decide +kernel
theorem dX10_isWithin_2 : decode cX10_isWithin 2 = .ok (.if_icmp .lt 12, 3) := by decide +kernel
theorem dX10_isWithin_5 : decode cX10_isWithin 5 = .ok (.iload_n 0, 1) := by decide +kernel
theorem dX10_isWithin_6 : decode cX10_isWithin 6 = .ok (.iload_n 2, 1) := by decide +kernel
theorem dX10_isWithin_7 : decode cX10_isWithin 7 = .ok (.if_icmp .gt 7, 3) := by decide +kernel
theorem dX10_isWithin_10 : decode cX10_isWithin 10 = .ok (.iconst 1, 1) := by decide +kernel
theorem dX10_isWithin_11 : decode cX10_isWithin 11 = .ok (.goto 4, 3) := by decide +kernel
theorem dX10_isWithin_14 : decode cX10_isWithin 14 = .ok (.iconst 0, 1) := by decide +kernel
theorem dX10_isWithin_15 : decode cX10_isWithin 15 = .ok (.ireturn, 1) := by decide +kernel
theorem dX10_isPlace_0 : decode cX10_isPlace 0 = .ok (.iload_n 0, 1) := by decide +kernel
theorem dX10_isPlace_1 : decode cX10_isPlace 1 = .ok (.iconst 0, 1) := by decide +kernel
theorem dX10_isPlace_2 : decode cX10_isPlace 2 = .ok (.bipush 99, 2) := by decide +kernel
theorem dX10_isPlace_4 : decode cX10_isPlace 4 = .ok (.invokestatic 106, 3) := by decide +kernel
theorem dX10_isPlace_7 : decode cX10_isPlace 7 = .ok (.ifCond .eq 17, 3) := by decide +kernel
theorem dX10_isPlace_10 : decode cX10_isPlace 10 = .ok (.iload_n 1, 1) := by decide +kernel
theorem dX10_isPlace_11 : decode cX10_isPlace 11 = .ok (.iconst 0, 1) := by decide +kernel
theorem dX10_isPlace_12 : decode cX10_isPlace 12 = .ok (.bipush 99, 2) := by decide +kernel
theorem dX10_isPlace_14 : decode cX10_isPlace 14 = .ok (.invokestatic 106, 3) := by decide +kernel
theorem dX10_isPlace_17 : decode cX10_isPlace 17 = .ok (.ifCond .eq 7, 3) := by decide +kernel
theorem dX10_isPlace_20 : decode cX10_isPlace 20 = .ok (.iconst 1, 1) := by decide +kernel
theorem dX10_isPlace_21 : decode cX10_isPlace 21 = .ok (.goto 4, 3) := by decide +kernel
theorem dX10_isPlace_24 : decode cX10_isPlace 24 = .ok (.iconst 0, 1) := by decide +kernel
theorem dX10_isPlace_25 : decode cX10_isPlace 25 = .ok (.ireturn, 1) := by decide +kernel
theorem dX10_isTown_0 : decode cX10_isTown 0 = .ok (.iload_n 0, 1) := by decide +kernel
theorem dX10_isTown_1 : decode cX10_isTown 1 = .ok (.iconst 0, 1) := by decide +kernel
theorem dX10_isTown_2 : decode cX10_isTown 2 = .ok (.iconst 5, 1) := by decide +kernel
theorem dX10_isTown_3 : decode cX10_isTown 3 = .ok (.invokestatic 106, 3) := by decide +kernel
theorem dX10_isTown_6 : decode cX10_isTown 6 = .ok (.ireturn, 1) := by decide +kernel
theorem dX10_isTrade_0 : decode cX10_isTrade 0 = .ok (.iload_n 0, 1) := by decide +kernel
theorem dX10_isTrade_1 : decode cX10_isTrade 1 = .ok (.iconst 0, 1) := by decide +kernel
theorem dX10_isTrade_2 : decode cX10_isTrade 2 = .ok (.iconst 2, 1) := by decide +kernel
theorem dX10_isTrade_3 : decode cX10_isTrade 3 = .ok (.invokestatic 106, 3) := by decide +kernel
theorem dX10_isTrade_6 : decode cX10_isTrade 6 = .ok (.ireturn, 1) := by decide +kernel
theorem dX10_isRule_0 : decode cX10_isRule 0 = .ok (.iload_n 0, 1) := by decide +kernel
theorem dX10_isRule_1 : decode cX10_isRule 1 = .ok (.iconst 0, 1) := by decide +kernel
theorem dX10_isRule_2 : decode cX10_isRule 2 = .ok (.iconst 2, 1) := by decide +kernel
theorem dX10_isRule_3 : decode cX10_isRule 3 = .ok (.invokestatic 106, 3) := by decide +kernel
theorem dX10_isRule_6 : decode cX10_isRule 6 = .ok (.ireturn, 1) := by decide +kernel
theorem dX10_isPit_0 : decode cX10_isPit 0 = .ok (.iload_n 1, 1) := by decide +kernel
theorem dX10_isPit_1 : decode cX10_isPit 1 = .ok (.iconst 0, 1) := by decide +kernel
theorem dX10_isPit_2 : decode cX10_isPit 2 = .ok (.aload_n 0, 1) := by decide +kernel
theorem dX10_isPit_3 : decode cX10_isPit 3 = .ok (.getfield 110, 3) := by decide +kernel
theorem dX10_isPit_6 : decode cX10_isPit 6 = .ok (.iconst 1, 1) := by decide +kernel
theorem dX10_isPit_7 : decode cX10_isPit 7 = .ok (.isub, 1) := by decide +kernel
theorem dX10_isPit_8 : decode cX10_isPit 8 = .ok (.invokestatic 106, 3) := by decide +kernel
theorem dX10_isPit_11 : decode cX10_isPit 11 = .ok (.ireturn, 1) := by decide +kernel
theorem dX10_isMan_0 : decode cX10_isMan 0 = .ok (.iload_n 1, 1) := by decide +kernel
theorem dX10_isMan_1 : decode cX10_isMan 1 = .ok (.iconst 0, 1) := by decide +kernel
theorem dX10_isMan_2 : decode cX10_isMan 2 = .ok (.aload_n 0, 1) := by decide +kernel
theorem dX10_isMan_3 : decode cX10_isMan 3 = .ok (.getfield 164, 3) := by decide +kernel
theorem dX10_isMan_6 : decode cX10_isMan 6 = .ok (.iconst 1, 1) := by decide +kernel
theorem dX10_isMan_7 : decode cX10_isMan 7 = .ok (.isub, 1) := by decide +kernel
theorem dX10_isMan_8 : decode cX10_isMan 8 = .ok (.invokestatic 106, 3) := by decide +kernel
theorem dX10_isMan_11 : decode cX10_isMan 11 = .ok (.ireturn, 1) := by decide +kernel
theorem dX10_isHarm_0 : decode cX10_isHarm 0 = .ok (.iload_n 1, 1) := by decide +kernel
theorem dX10_isHarm_1 : decode cX10_isHarm 1 = .ok (.iconst 0, 1) := by decide +kernel
theorem dX10_isHarm_2 : decode cX10_isHarm 2 = .ok (.aload_n 0, 1) := by decide +kernel
theorem dX10_isHarm_3 : decode cX10_isHarm 3 = .ok (.getfield 315, 3) := by decide +kernel
theorem dX10_isHarm_6 : decode cX10_isHarm 6 = .ok (.iconst 1, 1) := by decide +kernel
theorem dX10_isHarm_7 : decode cX10_isHarm 7 = .ok (.isub, 1) := by decide +kernel
theorem dX10_isHarm_8 : decode cX10_isHarm 8 = .ok (.invokestatic 106, 3) := by decide +kernel
theorem dX10_isHarm_11 : decode cX10_isHarm 11 = .ok (.ireturn, 1) := by decide +kernel
theorem dX10_asOne_0 : decode cX10_asOne 0 = .ok (.iload_n 0, 1) := by decide +kernel
theorem dX10_asOne_1 : decode cX10_asOne 1 = .ok (.ifCond .eq 7, 3) := by decide +kernel
theorem dX10_asOne_4 : decode cX10_asOne 4 = .ok (.iconst 1, 1) := by decide +kernel
theorem dX10_asOne_5 : decode cX10_asOne 5 = .ok (.goto 4, 3) := by decide +kernel
theorem dX10_asOne_8 : decode cX10_asOne 8 = .ok (.iconst 0, 1) := by decide +kernel
theorem dX10_asOne_9 : decode cX10_asOne 9 = .ok (.ireturn, 1) := by decide +kernel
theorem dX10_menAt_0 : decode cX10_menAt 0 = .ok (.iconst 0, 1) := by decide +kernel
theorem dX10_menAt_1 : decode cX10_menAt 1 = .ok (.istore_n 2, 1) := by decide +kernel
theorem dX10_menAt_2 : decode cX10_menAt 2 = .ok (.iconst 0, 1) := by decide +kernel
theorem dX10_menAt_3 : decode cX10_menAt 3 = .ok (.istore_n 3, 1) := by decide +kernel
theorem dX10_menAt_4 : decode cX10_menAt 4 = .ok (.iload_n 3, 1) := by decide +kernel
theorem dX10_menAt_5 : decode cX10_menAt 5 = .ok (.aload_n 0, 1) := by decide +kernel
theorem dX10_menAt_6 : decode cX10_menAt 6 = .ok (.getfield 164, 3) := by decide +kernel
theorem dX10_menAt_9 : decode cX10_menAt 9 = .ok (.if_icmp .ge 25, 3) := by decide +kernel
theorem dX10_menAt_12 : decode cX10_menAt 12 = .ok (.aload_n 0, 1) := by decide +kernel
theorem dX10_menAt_13 : decode cX10_menAt 13 = .ok (.getfield 23, 3) := by decide +kernel
theorem dX10_menAt_16 : decode cX10_menAt 16 = .ok (.iload_n 3, 1) := by decide +kernel
theorem dX10_menAt_17 : decode cX10_menAt 17 = .ok (.aaload, 1) := by decide +kernel
theorem dX10_menAt_18 : decode cX10_menAt 18 = .ok (.getfield 185, 3) := by decide +kernel
theorem dX10_menAt_21 : decode cX10_menAt 21 = .ok (.iload_n 1, 1) := by decide +kernel
theorem dX10_menAt_22 : decode cX10_menAt 22 = .ok (.if_icmp .ne 6, 3) := by decide +kernel
theorem dX10_menAt_25 : decode cX10_menAt 25 = .ok (.iinc 2 1, 3) := by decide +kernel
theorem dX10_menAt_28 : decode cX10_menAt 28 = .ok (.iinc 3 1, 3) := by decide +kernel
theorem dX10_menAt_31 : decode cX10_menAt 31 = .ok (.goto (-27), 3) := by decide +kernel
theorem dX10_menAt_34 : decode cX10_menAt 34 = .ok (.iload_n 2, 1) := by decide +kernel
theorem dX10_menAt_35 : decode cX10_menAt 35 = .ok (.ireturn, 1) := by decide +kernel
theorem dX10_menWhoAre_0 : decode cX10_menWhoAre 0 = .ok (.iconst 0, 1) := by decide +kernel
theorem dX10_menWhoAre_1 : decode cX10_menWhoAre 1 = .ok (.istore_n 2, 1) := by decide +kernel
theorem dX10_menWhoAre_2 : decode cX10_menWhoAre 2 = .ok (.iconst 0, 1) := by decide +kernel
theorem dX10_menWhoAre_3 : decode cX10_menWhoAre 3 = .ok (.istore_n 3, 1) := by decide +kernel
theorem dX10_menWhoAre_4 : decode cX10_menWhoAre 4 = .ok (.iload_n 3, 1) := by decide +kernel
theorem dX10_menWhoAre_5 : decode cX10_menWhoAre 5 = .ok (.aload_n 0, 1) := by decide +kernel
theorem dX10_menWhoAre_6 : decode cX10_menWhoAre 6 = .ok (.getfield 164, 3) := by decide +kernel
theorem dX10_menWhoAre_9 : decode cX10_menWhoAre 9 = .ok (.if_icmp .ge 25, 3) := by decide +kernel
theorem dX10_menWhoAre_12 : decode cX10_menWhoAre 12 = .ok (.aload_n 0, 1) := by decide +kernel
theorem dX10_menWhoAre_13 : decode cX10_menWhoAre 13 = .ok (.getfield 23, 3) := by decide +kernel
theorem dX10_menWhoAre_16 : decode cX10_menWhoAre 16 = .ok (.iload_n 3, 1) := by decide +kernel
theorem dX10_menWhoAre_17 : decode cX10_menWhoAre 17 = .ok (.aaload, 1) := by decide +kernel
theorem dX10_menWhoAre_18 : decode cX10_menWhoAre 18 = .ok (.getfield 191, 3) := by decide +kernel
theorem dX10_menWhoAre_21 : decode cX10_menWhoAre 21 = .ok (.iload_n 1, 1) := by decide +kernel
theorem dX10_menWhoAre_22 : decode cX10_menWhoAre 22 = .ok (.if_icmp .ne 6, 3) := by decide +kernel
theorem dX10_menWhoAre_25 : decode cX10_menWhoAre 25 = .ok (.iinc 2 1, 3) := by decide +kernel
theorem dX10_menWhoAre_28 : decode cX10_menWhoAre 28 = .ok (.iinc 3 1, 3) := by decide +kernel
theorem dX10_menWhoAre_31 : decode cX10_menWhoAre 31 = .ok (.goto (-27), 3) := by decide +kernel
theorem dX10_menWhoAre_34 : decode cX10_menWhoAre 34 = .ok (.iload_n 2, 1) := by decide +kernel
theorem dX10_menWhoAre_35 : decode cX10_menWhoAre 35 = .ok (.ireturn, 1) := by decide +kernel
theorem dX10_openPits_0 : decode cX10_openPits 0 = .ok (.iconst 0, 1) := by decide +kernel
theorem dX10_openPits_1 : decode cX10_openPits 1 = .ok (.istore_n 1, 1) := by decide +kernel
theorem dX10_openPits_2 : decode cX10_openPits 2 = .ok (.iconst 0, 1) := by decide +kernel
theorem dX10_openPits_3 : decode cX10_openPits 3 = .ok (.istore_n 2, 1) := by decide +kernel
theorem dX10_openPits_4 : decode cX10_openPits 4 = .ok (.iload_n 2, 1) := by decide +kernel
theorem dX10_openPits_5 : decode cX10_openPits 5 = .ok (.aload_n 0, 1) := by decide +kernel
theorem dX10_openPits_6 : decode cX10_openPits 6 = .ok (.getfield 110, 3) := by decide +kernel
theorem dX10_openPits_9 : decode cX10_openPits 9 = .ok (.if_icmp .ge 27, 3) := by decide +kernel
theorem dX10_openPits_12 : decode cX10_openPits 12 = .ok (.aload_n 0, 1) := by decide +kernel
theorem dX10_openPits_13 : decode cX10_openPits 13 = .ok (.getfield 17, 3) := by decide +kernel
theorem dX10_openPits_16 : decode cX10_openPits 16 = .ok (.iload_n 2, 1) := by decide +kernel
theorem dX10_openPits_17 : decode cX10_openPits 17 = .ok (.aaload, 1) := by decide +kernel
theorem dX10_openPits_18 : decode cX10_openPits 18 = .ok (.getfield 136, 3) := by decide +kernel
theorem dX10_openPits_21 : decode cX10_openPits 21 = .ok (.ifCond .eq 9, 3) := by decide +kernel
theorem dX10_openPits_24 : decode cX10_openPits 24 = .ok (.iload_n 1, 1) := by decide +kernel
theorem dX10_openPits_25 : decode cX10_openPits 25 = .ok (.iconst 1, 1) := by decide +kernel
theorem dX10_openPits_26 : decode cX10_openPits 26 = .ok (.iload_n 2, 1) := by decide +kernel
theorem dX10_openPits_27 : decode cX10_openPits 27 = .ok (.ishl, 1) := by decide +kernel
theorem dX10_openPits_28 : decode cX10_openPits 28 = .ok (.ior, 1) := by decide +kernel
theorem dX10_openPits_29 : decode cX10_openPits 29 = .ok (.istore_n 1, 1) := by decide +kernel
theorem dX10_openPits_30 : decode cX10_openPits 30 = .ok (.iinc 2 1, 3) := by decide +kernel
theorem dX10_openPits_33 : decode cX10_openPits 33 = .ok (.goto (-29), 3) := by decide +kernel
theorem dX10_openPits_36 : decode cX10_openPits 36 = .ok (.iload_n 1, 1) := by decide +kernel
theorem dX10_openPits_37 : decode cX10_openPits 37 = .ok (.ireturn, 1) := by decide +kernel
theorem dX10_workersOf_0 : decode cX10_workersOf 0 = .ok (.iconst 0, 1) := by decide +kernel
theorem dX10_workersOf_1 : decode cX10_workersOf 1 = .ok (.istore_n 2, 1) := by decide +kernel
theorem dX10_workersOf_2 : decode cX10_workersOf 2 = .ok (.iconst 0, 1) := by decide +kernel
theorem dX10_workersOf_3 : decode cX10_workersOf 3 = .ok (.istore_n 3, 1) := by decide +kernel
theorem dX10_workersOf_4 : decode cX10_workersOf 4 = .ok (.iload_n 3, 1) := by decide +kernel
theorem dX10_workersOf_5 : decode cX10_workersOf 5 = .ok (.aload_n 0, 1) := by decide +kernel
theorem dX10_workersOf_6 : decode cX10_workersOf 6 = .ok (.getfield 164, 3) := by decide +kernel
theorem dX10_workersOf_9 : decode cX10_workersOf 9 = .ok (.if_icmp .ge 37, 3) := by decide +kernel
theorem dX10_workersOf_12 : decode cX10_workersOf 12 = .ok (.aload_n 0, 1) := by decide +kernel
theorem dX10_workersOf_13 : decode cX10_workersOf 13 = .ok (.getfield 23, 3) := by decide +kernel
theorem dX10_workersOf_16 : decode cX10_workersOf 16 = .ok (.iload_n 3, 1) := by decide +kernel
theorem dX10_workersOf_17 : decode cX10_workersOf 17 = .ok (.aaload, 1) := by decide +kernel
theorem dX10_workersOf_18 : decode cX10_workersOf 18 = .ok (.getfield 182, 3) := by decide +kernel
theorem dX10_workersOf_21 : decode cX10_workersOf 21 = .ok (.iload_n 1, 1) := by decide +kernel
theorem dX10_workersOf_22 : decode cX10_workersOf 22 = .ok (.if_icmp .ne 18, 3) := by decide +kernel
theorem dX10_workersOf_25 : decode cX10_workersOf 25 = .ok (.aload_n 0, 1) := by decide +kernel
theorem dX10_workersOf_26 : decode cX10_workersOf 26 = .ok (.getfield 23, 3) := by decide +kernel
theorem dX10_workersOf_29 : decode cX10_workersOf 29 = .ok (.iload_n 3, 1) := by decide +kernel
theorem dX10_workersOf_30 : decode cX10_workersOf 30 = .ok (.aaload, 1) := by decide +kernel
theorem dX10_workersOf_31 : decode cX10_workersOf 31 = .ok (.getfield 191, 3) := by decide +kernel
theorem dX10_workersOf_34 : decode cX10_workersOf 34 = .ok (.ifCond .ne 6, 3) := by decide +kernel
theorem dX10_workersOf_37 : decode cX10_workersOf 37 = .ok (.iinc 2 1, 3) := by decide +kernel
theorem dX10_workersOf_40 : decode cX10_workersOf 40 = .ok (.iinc 3 1, 3) := by decide +kernel
theorem dX10_workersOf_43 : decode cX10_workersOf 43 = .ok (.goto (-39), 3) := by decide +kernel
theorem dX10_workersOf_46 : decode cX10_workersOf 46 = .ok (.iload_n 2, 1) := by decide +kernel
theorem dX10_workersOf_47 : decode cX10_workersOf 47 = .ok (.ireturn, 1) := by decide +kernel
theorem dX10_dwellersOf_0 : decode cX10_dwellersOf 0 = .ok (.iconst 0, 1) := by decide +kernel
theorem dX10_dwellersOf_1 : decode cX10_dwellersOf 1 = .ok (.istore_n 2, 1) := by decide +kernel
theorem dX10_dwellersOf_2 : decode cX10_dwellersOf 2 = .ok (.iconst 0, 1) := by decide +kernel
theorem dX10_dwellersOf_3 : decode cX10_dwellersOf 3 = .ok (.istore_n 3, 1) := by decide +kernel
theorem dX10_dwellersOf_4 : decode cX10_dwellersOf 4 = .ok (.iload_n 3, 1) := by decide +kernel
theorem dX10_dwellersOf_5 : decode cX10_dwellersOf 5 = .ok (.aload_n 0, 1) := by decide +kernel
theorem dX10_dwellersOf_6 : decode cX10_dwellersOf 6 = .ok (.getfield 164, 3) := by decide +kernel
theorem dX10_dwellersOf_9 : decode cX10_dwellersOf 9 = .ok (.if_icmp .ge 38, 3) := by decide +kernel
theorem dX10_dwellersOf_12 : decode cX10_dwellersOf 12 = .ok (.aload_n 0, 1) := by decide +kernel
theorem dX10_dwellersOf_13 : decode cX10_dwellersOf 13 = .ok (.getfield 23, 3) := by decide +kernel
theorem dX10_dwellersOf_16 : decode cX10_dwellersOf 16 = .ok (.iload_n 3, 1) := by decide +kernel
theorem dX10_dwellersOf_17 : decode cX10_dwellersOf 17 = .ok (.aaload, 1) := by decide +kernel
theorem dX10_dwellersOf_18 : decode cX10_dwellersOf 18 = .ok (.getfield 182, 3) := by decide +kernel
theorem dX10_dwellersOf_21 : decode cX10_dwellersOf 21 = .ok (.iload_n 1, 1) := by decide +kernel
theorem dX10_dwellersOf_22 : decode cX10_dwellersOf 22 = .ok (.if_icmp .ne 19, 3) := by decide +kernel
theorem dX10_dwellersOf_25 : decode cX10_dwellersOf 25 = .ok (.aload_n 0, 1) := by decide +kernel
theorem dX10_dwellersOf_26 : decode cX10_dwellersOf 26 = .ok (.getfield 23, 3) := by decide +kernel
theorem dX10_dwellersOf_29 : decode cX10_dwellersOf 29 = .ok (.iload_n 3, 1) := by decide +kernel
theorem dX10_dwellersOf_30 : decode cX10_dwellersOf 30 = .ok (.aaload, 1) := by decide +kernel
theorem dX10_dwellersOf_31 : decode cX10_dwellersOf 31 = .ok (.getfield 191, 3) := by decide +kernel
theorem dX10_dwellersOf_34 : decode cX10_dwellersOf 34 = .ok (.iconst 4, 1) := by decide +kernel
theorem dX10_dwellersOf_35 : decode cX10_dwellersOf 35 = .ok (.if_icmp .eq 6, 3) := by decide +kernel
theorem dX10_dwellersOf_38 : decode cX10_dwellersOf 38 = .ok (.iinc 2 1, 3) := by decide +kernel
theorem dX10_dwellersOf_41 : decode cX10_dwellersOf 41 = .ok (.iinc 3 1, 3) := by decide +kernel
theorem dX10_dwellersOf_44 : decode cX10_dwellersOf 44 = .ok (.goto (-40), 3) := by decide +kernel
theorem dX10_dwellersOf_47 : decode cX10_dwellersOf 47 = .ok (.iload_n 2, 1) := by decide +kernel
theorem dX10_dwellersOf_48 : decode cX10_dwellersOf 48 = .ok (.ireturn, 1) := by decide +kernel
theorem dX10_pitsOf_0 : decode cX10_pitsOf 0 = .ok (.iconst 0, 1) := by decide +kernel
theorem dX10_pitsOf_1 : decode cX10_pitsOf 1 = .ok (.istore_n 2, 1) := by decide +kernel
theorem dX10_pitsOf_2 : decode cX10_pitsOf 2 = .ok (.iconst 0, 1) := by decide +kernel
theorem dX10_pitsOf_3 : decode cX10_pitsOf 3 = .ok (.istore_n 3, 1) := by decide +kernel
theorem dX10_pitsOf_4 : decode cX10_pitsOf 4 = .ok (.iload_n 3, 1) := by decide +kernel
theorem dX10_pitsOf_5 : decode cX10_pitsOf 5 = .ok (.aload_n 0, 1) := by decide +kernel
theorem dX10_pitsOf_6 : decode cX10_pitsOf 6 = .ok (.getfield 164, 3) := by decide +kernel
theorem dX10_pitsOf_9 : decode cX10_pitsOf 9 = .ok (.if_icmp .ge 52, 3) := by decide +kernel
theorem dX10_pitsOf_12 : decode cX10_pitsOf 12 = .ok (.aload_n 0, 1) := by decide +kernel
theorem dX10_pitsOf_13 : decode cX10_pitsOf 13 = .ok (.getfield 23, 3) := by decide +kernel
theorem dX10_pitsOf_16 : decode cX10_pitsOf 16 = .ok (.iload_n 3, 1) := by decide +kernel
theorem dX10_pitsOf_17 : decode cX10_pitsOf 17 = .ok (.aaload, 1) := by decide +kernel
theorem dX10_pitsOf_18 : decode cX10_pitsOf 18 = .ok (.getfield 182, 3) := by decide +kernel
theorem dX10_pitsOf_21 : decode cX10_pitsOf 21 = .ok (.iload_n 1, 1) := by decide +kernel
theorem dX10_pitsOf_22 : decode cX10_pitsOf 22 = .ok (.if_icmp .ne 33, 3) := by decide +kernel
theorem dX10_pitsOf_25 : decode cX10_pitsOf 25 = .ok (.aload_n 0, 1) := by decide +kernel
theorem dX10_pitsOf_26 : decode cX10_pitsOf 26 = .ok (.aload_n 0, 1) := by decide +kernel
theorem dX10_pitsOf_27 : decode cX10_pitsOf 27 = .ok (.getfield 23, 3) := by decide +kernel
theorem dX10_pitsOf_30 : decode cX10_pitsOf 30 = .ok (.iload_n 3, 1) := by decide +kernel
theorem dX10_pitsOf_31 : decode cX10_pitsOf 31 = .ok (.aaload, 1) := by decide +kernel
theorem dX10_pitsOf_32 : decode cX10_pitsOf 32 = .ok (.getfield 185, 3) := by decide +kernel
theorem dX10_pitsOf_35 : decode cX10_pitsOf 35 = .ok (.invokevirtual 120, 3) := by decide +kernel
theorem dX10_pitsOf_38 : decode cX10_pitsOf 38 = .ok (.ifCond .eq 17, 3) := by decide +kernel
theorem dX10_pitsOf_41 : decode cX10_pitsOf 41 = .ok (.iload_n 2, 1) := by decide +kernel
theorem dX10_pitsOf_42 : decode cX10_pitsOf 42 = .ok (.iconst 1, 1) := by decide +kernel
theorem dX10_pitsOf_43 : decode cX10_pitsOf 43 = .ok (.aload_n 0, 1) := by decide +kernel
theorem dX10_pitsOf_44 : decode cX10_pitsOf 44 = .ok (.getfield 23, 3) := by decide +kernel
theorem dX10_pitsOf_47 : decode cX10_pitsOf 47 = .ok (.iload_n 3, 1) := by decide +kernel
theorem dX10_pitsOf_48 : decode cX10_pitsOf 48 = .ok (.aaload, 1) := by decide +kernel
theorem dX10_pitsOf_49 : decode cX10_pitsOf 49 = .ok (.getfield 185, 3) := by decide +kernel
theorem dX10_pitsOf_52 : decode cX10_pitsOf 52 = .ok (.ishl, 1) := by decide +kernel
theorem dX10_pitsOf_53 : decode cX10_pitsOf 53 = .ok (.ior, 1) := by decide +kernel
theorem dX10_pitsOf_54 : decode cX10_pitsOf 54 = .ok (.istore_n 2, 1) := by decide +kernel
theorem dX10_pitsOf_55 : decode cX10_pitsOf 55 = .ok (.iinc 3 1, 3) := by decide +kernel
theorem dX10_pitsOf_58 : decode cX10_pitsOf 58 = .ok (.goto (-54), 3) := by decide +kernel
theorem dX10_pitsOf_61 : decode cX10_pitsOf 61 = .ok (.iload_n 2, 1) := by decide +kernel
theorem dX10_pitsOf_62 : decode cX10_pitsOf 62 = .ok (.ireturn, 1) := by decide +kernel
theorem dX10_isTrue_0 : decode cX10_isTrue 0 = .ok (.aload_n 0, 1) := by decide +kernel
theorem dX10_isTrue_1 : decode cX10_isTrue 1 = .ok (.getfield 47, 3) := by decide +kernel
theorem dX10_isTrue_4 : decode cX10_isTrue 4 = .ok (.iload_n 1, 1) := by decide +kernel
theorem dX10_isTrue_5 : decode cX10_isTrue 5 = .ok (.aaload, 1) := by decide +kernel
theorem dX10_isTrue_6 : decode cX10_isTrue 6 = .ok (.getfield 209, 3) := by decide +kernel
theorem dX10_isTrue_9 : decode cX10_isTrue 9 = .ok (.ifCond .le 29, 3) := by decide +kernel
theorem dX10_isTrue_12 : decode cX10_isTrue 12 = .ok (.aload_n 0, 1) := by decide +kernel
theorem dX10_isTrue_13 : decode cX10_isTrue 13 = .ok (.getfield 54, 3) := by decide +kernel
theorem dX10_isTrue_16 : decode cX10_isTrue 16 = .ok (.aload_n 0, 1) := by decide +kernel
theorem dX10_isTrue_17 : decode cX10_isTrue 17 = .ok (.getfield 47, 3) := by decide +kernel
theorem dX10_isTrue_20 : decode cX10_isTrue 20 = .ok (.iload_n 1, 1) := by decide +kernel
theorem dX10_isTrue_21 : decode cX10_isTrue 21 = .ok (.aaload, 1) := by decide +kernel
theorem dX10_isTrue_22 : decode cX10_isTrue 22 = .ok (.aload_n 2, 1) := by decide +kernel
theorem dX10_isTrue_23 : decode cX10_isTrue 23 = .ok (.aload_n 0, 1) := by decide +kernel
theorem dX10_isTrue_24 : decode cX10_isTrue 24 = .ok (.aload_n 2, 1) := by decide +kernel
theorem dX10_isTrue_25 : decode cX10_isTrue 25 = .ok (.invokevirtual 226, 3) := by decide +kernel
theorem dX10_isTrue_28 : decode cX10_isTrue 28 = .ok (.invokevirtual 230, 3) := by decide +kernel
theorem dX10_isTrue_31 : decode cX10_isTrue 31 = .ok (.ifCond .eq 7, 3) := by decide +kernel
theorem dX10_isTrue_34 : decode cX10_isTrue 34 = .ok (.iconst 1, 1) := by decide +kernel
theorem dX10_isTrue_35 : decode cX10_isTrue 35 = .ok (.goto 4, 3) := by decide +kernel
theorem dX10_isTrue_38 : decode cX10_isTrue 38 = .ok (.iconst 0, 1) := by decide +kernel
theorem dX10_isTrue_39 : decode cX10_isTrue 39 = .ok (.ireturn, 1) := by decide +kernel
theorem dX10_wayToWork_0 : decode cX10_wayToWork 0 = .ok (.aload_n 0, 1) := by decide +kernel
theorem dX10_wayToWork_1 : decode cX10_wayToWork 1 = .ok (.aload_n 1, 1) := by decide +kernel
theorem dX10_wayToWork_2 : decode cX10_wayToWork 2 = .ok (.getfield 185, 3) := by decide +kernel
theorem dX10_wayToWork_5 : decode cX10_wayToWork 5 = .ok (.invokevirtual 120, 3) := by decide +kernel
theorem dX10_wayToWork_8 : decode cX10_wayToWork 8 = .ok (.ifCond .eq 15, 3) := by decide +kernel
theorem dX10_wayToWork_11 : decode cX10_wayToWork 11 = .ok (.aload_n 0, 1) := by decide +kernel
theorem dX10_wayToWork_12 : decode cX10_wayToWork 12 = .ok (.aload_n 1, 1) := by decide +kernel
theorem dX10_wayToWork_13 : decode cX10_wayToWork 13 = .ok (.getfield 185, 3) := by decide +kernel
theorem dX10_wayToWork_16 : decode cX10_wayToWork 16 = .ok (.aload_n 1, 1) := by decide +kernel
theorem dX10_wayToWork_17 : decode cX10_wayToWork 17 = .ok (.invokevirtual 361, 3) := by decide +kernel
theorem dX10_wayToWork_20 : decode cX10_wayToWork 20 = .ok (.goto 4, 3) := by decide +kernel
theorem dX10_wayToWork_23 : decode cX10_wayToWork 23 = .ok (.iconst 0, 1) := by decide +kernel
theorem dX10_wayToWork_24 : decode cX10_wayToWork 24 = .ok (.ireturn, 1) := by decide +kernel
theorem dX10_wayTo_0 : decode cX10_wayTo 0 = .ok (.aload_n 0, 1) := by decide +kernel
theorem dX10_wayTo_1 : decode cX10_wayTo 1 = .ok (.getfield 11, 3) := by decide +kernel
theorem dX10_wayTo_4 : decode cX10_wayTo 4 = .ok (.aload_n 2, 1) := by decide +kernel
theorem dX10_wayTo_5 : decode cX10_wayTo 5 = .ok (.getfield 182, 3) := by decide +kernel
theorem dX10_wayTo_8 : decode cX10_wayTo 8 = .ok (.aaload, 1) := by decide +kernel
theorem dX10_wayTo_9 : decode cX10_wayTo 9 = .ok (.aload_n 0, 1) := by decide +kernel
theorem dX10_wayTo_10 : decode cX10_wayTo 10 = .ok (.getfield 17, 3) := by decide +kernel
theorem dX10_wayTo_13 : decode cX10_wayTo 13 = .ok (.iload_n 1, 1) := by decide +kernel
theorem dX10_wayTo_14 : decode cX10_wayTo 14 = .ok (.aaload, 1) := by decide +kernel
theorem dX10_wayTo_15 : decode cX10_wayTo 15 = .ok (.getfield 123, 3) := by decide +kernel
theorem dX10_wayTo_18 : decode cX10_wayTo 18 = .ok (.invokevirtual 365, 3) := by decide +kernel
theorem dX10_wayTo_21 : decode cX10_wayTo 21 = .ok (.ireturn, 1) := by decide +kernel
theorem dX10_workOutMove_0 : decode cX10_workOutMove 0 = .ok (.aload_n 0, 1) := by decide +kernel
theorem dX10_workOutMove_1 : decode cX10_workOutMove 1 = .ok (.getfield 61, 3) := by decide +kernel
theorem dX10_workOutMove_4 : decode cX10_workOutMove 4 = .ok (.invokevirtual 369, 3) := by decide +kernel
theorem dX10_workOutMove_7 : decode cX10_workOutMove 7 = .ok (.iconst 0, 1) := by decide +kernel
theorem dX10_workOutMove_8 : decode cX10_workOutMove 8 = .ok (.istore_n 2, 1) := by decide +kernel
theorem dX10_workOutMove_9 : decode cX10_workOutMove 9 = .ok (.iload_n 2, 1) := by decide +kernel
theorem dX10_workOutMove_10 : decode cX10_workOutMove 10 = .ok (.aload_n 0, 1) := by decide +kernel
theorem dX10_workOutMove_11 : decode cX10_workOutMove 11 = .ok (.getfield 110, 3) := by decide +kernel
theorem dX10_workOutMove_14 : decode cX10_workOutMove 14 = .ok (.if_icmp .ge 43, 3) := by decide +kernel
theorem dX10_workOutMove_17 : decode cX10_workOutMove 17 = .ok (.iload_n 2, 1) := by decide +kernel
theorem dX10_workOutMove_18 : decode cX10_workOutMove 18 = .ok (.iload_n 1, 1) := by decide +kernel
theorem dX10_workOutMove_19 : decode cX10_workOutMove 19 = .ok (.if_icmp .eq 32, 3) := by decide +kernel
theorem dX10_workOutMove_22 : decode cX10_workOutMove 22 = .ok (.aload_n 0, 1) := by decide +kernel
theorem dX10_workOutMove_23 : decode cX10_workOutMove 23 = .ok (.getfield 17, 3) := by decide +kernel
theorem dX10_workOutMove_26 : decode cX10_workOutMove 26 = .ok (.iload_n 2, 1) := by decide +kernel
theorem dX10_workOutMove_27 : decode cX10_workOutMove 27 = .ok (.aaload, 1) := by decide +kernel
theorem dX10_workOutMove_28 : decode cX10_workOutMove 28 = .ok (.getfield 136, 3) := by decide +kernel
theorem dX10_workOutMove_31 : decode cX10_workOutMove 31 = .ok (.ifCond .eq 20, 3) := by decide +kernel
theorem dX10_workOutMove_34 : decode cX10_workOutMove 34 = .ok (.aload_n 0, 1) := by decide +kernel
theorem dX10_workOutMove_35 : decode cX10_workOutMove 35 = .ok (.getfield 61, 3) := by decide +kernel
theorem dX10_workOutMove_38 : decode cX10_workOutMove 38 = .ok (.iload_n 2, 1) := by decide +kernel
theorem dX10_workOutMove_39 : decode cX10_workOutMove 39 = .ok (.aload_n 0, 1) := by decide +kernel
theorem dX10_workOutMove_40 : decode cX10_workOutMove 40 = .ok (.getfield 17, 3) := by decide +kernel
theorem dX10_workOutMove_43 : decode cX10_workOutMove 43 = .ok (.iload_n 2, 1) := by decide +kernel
theorem dX10_workOutMove_44 : decode cX10_workOutMove 44 = .ok (.aaload, 1) := by decide +kernel
theorem dX10_workOutMove_45 : decode cX10_workOutMove 45 = .ok (.getfield 158, 3) := by decide +kernel
theorem dX10_workOutMove_48 : decode cX10_workOutMove 48 = .ok (.invokevirtual 372, 3) := by decide +kernel
theorem dX10_workOutMove_51 : decode cX10_workOutMove 51 = .ok (.iinc 2 1, 3) := by decide +kernel
theorem dX10_workOutMove_54 : decode cX10_workOutMove 54 = .ok (.goto (-45), 3) := by decide +kernel
theorem dX10_workOutMove_57 : decode cX10_workOutMove 57 = .ok (.iconst 0, 1) := by decide +kernel
theorem dX10_workOutMove_58 : decode cX10_workOutMove 58 = .ok (.istore_n 2, 1) := by decide +kernel
theorem dX10_workOutMove_59 : decode cX10_workOutMove 59 = .ok (.iload_n 2, 1) := by decide +kernel
theorem dX10_workOutMove_60 : decode cX10_workOutMove 60 = .ok (.aload_n 0, 1) := by decide +kernel
theorem dX10_workOutMove_61 : decode cX10_workOutMove 61 = .ok (.getfield 164, 3) := by decide +kernel
theorem dX10_workOutMove_64 : decode cX10_workOutMove 64 = .ok (.if_icmp .ge 65, 3) := by decide +kernel
theorem dX10_workOutMove_67 : decode cX10_workOutMove 67 = .ok (.aload_n 0, 1) := by decide +kernel
theorem dX10_workOutMove_68 : decode cX10_workOutMove 68 = .ok (.getfield 23, 3) := by decide +kernel
theorem dX10_workOutMove_71 : decode cX10_workOutMove 71 = .ok (.iload_n 2, 1) := by decide +kernel
theorem dX10_workOutMove_72 : decode cX10_workOutMove 72 = .ok (.aaload, 1) := by decide +kernel
theorem dX10_workOutMove_73 : decode cX10_workOutMove 73 = .ok (.getfield 185, 3) := by decide +kernel
theorem dX10_workOutMove_76 : decode cX10_workOutMove 76 = .ok (.iload_n 1, 1) := by decide +kernel
theorem dX10_workOutMove_77 : decode cX10_workOutMove 77 = .ok (.if_icmp .ne 46, 3) := by decide +kernel
theorem dX10_workOutMove_80 : decode cX10_workOutMove 80 = .ok (.aload_n 0, 1) := by decide +kernel
theorem dX10_workOutMove_81 : decode cX10_workOutMove 81 = .ok (.iconst 0, 1) := by decide +kernel
theorem dX10_workOutMove_82 : decode cX10_workOutMove 82 = .ok (.aload_n 0, 1) := by decide +kernel
theorem dX10_workOutMove_83 : decode cX10_workOutMove 83 = .ok (.getfield 23, 3) := by decide +kernel
theorem dX10_workOutMove_86 : decode cX10_workOutMove 86 = .ok (.iload_n 2, 1) := by decide +kernel
theorem dX10_workOutMove_87 : decode cX10_workOutMove 87 = .ok (.aaload, 1) := by decide +kernel
theorem dX10_workOutMove_88 : decode cX10_workOutMove 88 = .ok (.invokevirtual 304, 3) := by decide +kernel
theorem dX10_workOutMove_91 : decode cX10_workOutMove 91 = .ok (.ifCond .eq 19, 3) := by decide +kernel
theorem dX10_workOutMove_94 : decode cX10_workOutMove 94 = .ok (.aload_n 0, 1) := by decide +kernel
theorem dX10_workOutMove_95 : decode cX10_workOutMove 95 = .ok (.getfield 61, 3) := by decide +kernel
theorem dX10_workOutMove_98 : decode cX10_workOutMove 98 = .ok (.dup, 1) := by decide +kernel
theorem dX10_workOutMove_99 : decode cX10_workOutMove 99 = .ok (.getfield 246, 3) := by decide +kernel
theorem dX10_workOutMove_102 : decode cX10_workOutMove 102 = .ok (.iconst 1, 1) := by decide +kernel
theorem dX10_workOutMove_103 : decode cX10_workOutMove 103 = .ok (.iadd, 1) := by decide +kernel
theorem dX10_workOutMove_104 : decode cX10_workOutMove 104 = .ok (.putfield 246, 3) := by decide +kernel
theorem dX10_workOutMove_107 : decode cX10_workOutMove 107 = .ok (.goto 16, 3) := by decide +kernel
theorem dX10_workOutMove_110 : decode cX10_workOutMove 110 = .ok (.aload_n 0, 1) := by decide +kernel
theorem dX10_workOutMove_111 : decode cX10_workOutMove 111 = .ok (.getfield 61, 3) := by decide +kernel
theorem dX10_workOutMove_114 : decode cX10_workOutMove 114 = .ok (.iload_n 2, 1) := by decide +kernel
theorem dX10_workOutMove_115 : decode cX10_workOutMove 115 = .ok (.invokevirtual 376, 3) := by decide +kernel
theorem dX10_workOutMove_118 : decode cX10_workOutMove 118 = .ok (.ifCond .ne 5, 3) := by decide +kernel
theorem dX10_workOutMove_121 : decode cX10_workOutMove 121 = .ok (.iconst 0, 1) := by decide +kernel
theorem dX10_workOutMove_122 : decode cX10_workOutMove 122 = .ok (.ireturn, 1) := by decide +kernel
theorem dX10_workOutMove_123 : decode cX10_workOutMove 123 = .ok (.iinc 2 1, 3) := by decide +kernel
theorem dX10_workOutMove_126 : decode cX10_workOutMove 126 = .ok (.goto (-67), 3) := by decide +kernel
theorem dX10_workOutMove_129 : decode cX10_workOutMove 129 = .ok (.iconst 0, 1) := by decide +kernel
theorem dX10_workOutMove_130 : decode cX10_workOutMove 130 = .ok (.istore_n 2, 1) := by decide +kernel
theorem dX10_workOutMove_131 : decode cX10_workOutMove 131 = .ok (.iload_n 2, 1) := by decide +kernel
theorem dX10_workOutMove_132 : decode cX10_workOutMove 132 = .ok (.aload_n 0, 1) := by decide +kernel
theorem dX10_workOutMove_133 : decode cX10_workOutMove 133 = .ok (.getfield 61, 3) := by decide +kernel
theorem dX10_workOutMove_136 : decode cX10_workOutMove 136 = .ok (.getfield 379, 3) := by decide +kernel
theorem dX10_workOutMove_139 : decode cX10_workOutMove 139 = .ok (.if_icmp .ge 28, 3) := by decide +kernel
theorem dX10_workOutMove_142 : decode cX10_workOutMove 142 = .ok (.aload_n 0, 1) := by decide +kernel
theorem dX10_workOutMove_143 : decode cX10_workOutMove 143 = .ok (.iload_n 2, 1) := by decide +kernel
theorem dX10_workOutMove_144 : decode cX10_workOutMove 144 = .ok (.aload_n 0, 1) := by decide +kernel
theorem dX10_workOutMove_145 : decode cX10_workOutMove 145 = .ok (.getfield 23, 3) := by decide +kernel
theorem dX10_workOutMove_148 : decode cX10_workOutMove 148 = .ok (.aload_n 0, 1) := by decide +kernel
theorem dX10_workOutMove_149 : decode cX10_workOutMove 149 = .ok (.getfield 61, 3) := by decide +kernel
theorem dX10_workOutMove_152 : decode cX10_workOutMove 152 = .ok (.getfield 382, 3) := by decide +kernel
theorem dX10_workOutMove_155 : decode cX10_workOutMove 155 = .ok (.iload_n 2, 1) := by decide +kernel
theorem dX10_workOutMove_156 : decode cX10_workOutMove 156 = .ok (.iaload, 1) := by decide +kernel
theorem dX10_workOutMove_157 : decode cX10_workOutMove 157 = .ok (.aaload, 1) := by decide +kernel
theorem dX10_workOutMove_158 : decode cX10_workOutMove 158 = .ok (.invokevirtual 385, 3) := by decide +kernel
theorem dX10_workOutMove_161 : decode cX10_workOutMove 161 = .ok (.iinc 2 1, 3) := by decide +kernel
theorem dX10_workOutMove_164 : decode cX10_workOutMove 164 = .ok (.goto (-33), 3) := by decide +kernel
theorem dX10_workOutMove_167 : decode cX10_workOutMove 167 = .ok (.aload_n 0, 1) := by decide +kernel
theorem dX10_workOutMove_168 : decode cX10_workOutMove 168 = .ok (.getfield 61, 3) := by decide +kernel
theorem dX10_workOutMove_171 : decode cX10_workOutMove 171 = .ok (.invokevirtual 389, 3) := by decide +kernel
theorem dX10_workOutMove_174 : decode cX10_workOutMove 174 = .ok (.iconst 1, 1) := by decide +kernel
theorem dX10_workOutMove_175 : decode cX10_workOutMove 175 = .ok (.ireturn, 1) := by decide +kernel
theorem dX10_offerSlots_0 : decode cX10_offerSlots 0 = .ok (.aload_n 0, 1) := by decide +kernel
theorem dX10_offerSlots_1 : decode cX10_offerSlots 1 = .ok (.iconst 1, 1) := by decide +kernel
theorem dX10_offerSlots_2 : decode cX10_offerSlots 2 = .ok (.aload_n 2, 1) := by decide +kernel
theorem dX10_offerSlots_3 : decode cX10_offerSlots 3 = .ok (.invokevirtual 304, 3) := by decide +kernel
theorem dX10_offerSlots_6 : decode cX10_offerSlots 6 = .ok (.istore_n 3, 1) := by decide +kernel
theorem dX10_offerSlots_7 : decode cX10_offerSlots 7 = .ok (.iconst 0, 1) := by decide +kernel
theorem dX10_offerSlots_8 : decode cX10_offerSlots 8 = .ok (.istore 4, 2) := by decide +kernel
theorem dX10_offerSlots_10 : decode cX10_offerSlots 10 = .ok (.iload 4, 2) := by decide +kernel
theorem dX10_offerSlots_12 : decode cX10_offerSlots 12 = .ok (.aload_n 0, 1) := by decide +kernel
theorem dX10_offerSlots_13 : decode cX10_offerSlots 13 = .ok (.getfield 61, 3) := by decide +kernel
theorem dX10_offerSlots_16 : decode cX10_offerSlots 16 = .ok (.getfield 392, 3) := by decide +kernel
theorem dX10_offerSlots_19 : decode cX10_offerSlots 19 = .ok (.if_icmp .ge 84, 3) := by decide +kernel
theorem dX10_offerSlots_22 : decode cX10_offerSlots 22 = .ok (.aload_n 0, 1) := by decide +kernel
theorem dX10_offerSlots_23 : decode cX10_offerSlots 23 = .ok (.getfield 61, 3) := by decide +kernel
theorem dX10_offerSlots_26 : decode cX10_offerSlots 26 = .ok (.getfield 395, 3) := by decide +kernel
theorem dX10_offerSlots_29 : decode cX10_offerSlots 29 = .ok (.iload 4, 2) := by decide +kernel
theorem dX10_offerSlots_31 : decode cX10_offerSlots 31 = .ok (.iaload, 1) := by decide +kernel
theorem dX10_offerSlots_32 : decode cX10_offerSlots 32 = .ok (.aload_n 2, 1) := by decide +kernel
theorem dX10_offerSlots_33 : decode cX10_offerSlots 33 = .ok (.getfield 176, 3) := by decide +kernel
theorem dX10_offerSlots_36 : decode cX10_offerSlots 36 = .ok (.if_icmp .ne 61, 3) := by decide +kernel
theorem dX10_offerSlots_39 : decode cX10_offerSlots 39 = .ok (.aload_n 0, 1) := by decide +kernel
theorem dX10_offerSlots_40 : decode cX10_offerSlots 40 = .ok (.aload_n 0, 1) := by decide +kernel
theorem dX10_offerSlots_41 : decode cX10_offerSlots 41 = .ok (.getfield 61, 3) := by decide +kernel
theorem dX10_offerSlots_44 : decode cX10_offerSlots 44 = .ok (.getfield 398, 3) := by decide +kernel
theorem dX10_offerSlots_47 : decode cX10_offerSlots 47 = .ok (.iload 4, 2) := by decide +kernel
theorem dX10_offerSlots_49 : decode cX10_offerSlots 49 = .ok (.iaload, 1) := by decide +kernel
theorem dX10_offerSlots_50 : decode cX10_offerSlots 50 = .ok (.aload_n 2, 1) := by decide +kernel
theorem dX10_offerSlots_51 : decode cX10_offerSlots 51 = .ok (.invokevirtual 361, 3) := by decide +kernel
theorem dX10_offerSlots_54 : decode cX10_offerSlots 54 = .ok (.istore 5, 2) := by decide +kernel
theorem dX10_offerSlots_56 : decode cX10_offerSlots 56 = .ok (.iload 5, 2) := by decide +kernel
theorem dX10_offerSlots_58 : decode cX10_offerSlots 58 = .ok (.aload_n 0, 1) := by decide +kernel
theorem dX10_offerSlots_59 : decode cX10_offerSlots 59 = .ok (.getfield 37, 3) := by decide +kernel
theorem dX10_offerSlots_62 : decode cX10_offerSlots 62 = .ok (.iconst 1, 1) := by decide +kernel
theorem dX10_offerSlots_63 : decode cX10_offerSlots 63 = .ok (.iaload, 1) := by decide +kernel
theorem dX10_offerSlots_64 : decode cX10_offerSlots 64 = .ok (.if_icmp .le 7, 3) := by decide +kernel
theorem dX10_offerSlots_67 : decode cX10_offerSlots 67 = .ok (.iconst 1, 1) := by decide +kernel
theorem dX10_offerSlots_68 : decode cX10_offerSlots 68 = .ok (.goto 4, 3) := by decide +kernel
theorem dX10_offerSlots_71 : decode cX10_offerSlots 71 = .ok (.iconst 0, 1) := by decide +kernel
theorem dX10_offerSlots_72 : decode cX10_offerSlots 72 = .ok (.istore 6, 2) := by decide +kernel
theorem dX10_offerSlots_74 : decode cX10_offerSlots 74 = .ok (.iload 6, 2) := by decide +kernel
theorem dX10_offerSlots_76 : decode cX10_offerSlots 76 = .ok (.ifCond .eq 7, 3) := by decide +kernel
theorem dX10_offerSlots_79 : decode cX10_offerSlots 79 = .ok (.iload_n 3, 1) := by decide +kernel
theorem dX10_offerSlots_80 : decode cX10_offerSlots 80 = .ok (.ifCond .ne 17, 3) := by decide +kernel
theorem dX10_offerSlots_83 : decode cX10_offerSlots 83 = .ok (.aload_n 0, 1) := by decide +kernel
theorem dX10_offerSlots_84 : decode cX10_offerSlots 84 = .ok (.getfield 61, 3) := by decide +kernel
theorem dX10_offerSlots_87 : decode cX10_offerSlots 87 = .ok (.iload_n 1, 1) := by decide +kernel
theorem dX10_offerSlots_88 : decode cX10_offerSlots 88 = .ok (.iload 4, 2) := by decide +kernel
theorem dX10_offerSlots_90 : decode cX10_offerSlots 90 = .ok (.iload 5, 2) := by decide +kernel
theorem dX10_offerSlots_92 : decode cX10_offerSlots 92 = .ok (.iload 6, 2) := by decide +kernel
theorem dX10_offerSlots_94 : decode cX10_offerSlots 94 = .ok (.invokevirtual 401, 3) := by decide +kernel
theorem dX10_offerSlots_97 : decode cX10_offerSlots 97 = .ok (.iinc 4 1, 3) := by decide +kernel
theorem dX10_offerSlots_100 : decode cX10_offerSlots 100 = .ok (.goto (-90), 3) := by decide +kernel
theorem dX10_offerSlots_103 : decode cX10_offerSlots 103 = .ok (.return_, 1) := by decide +kernel
theorem dX10_carryOutMove_0 : decode cX10_carryOutMove 0 = .ok (.iconst 0, 1) := by decide +kernel
theorem dX10_carryOutMove_1 : decode cX10_carryOutMove 1 = .ok (.istore_n 2, 1) := by decide +kernel
theorem dX10_carryOutMove_2 : decode cX10_carryOutMove 2 = .ok (.iload_n 2, 1) := by decide +kernel
theorem dX10_carryOutMove_3 : decode cX10_carryOutMove 3 = .ok (.aload_n 0, 1) := by decide +kernel
theorem dX10_carryOutMove_4 : decode cX10_carryOutMove 4 = .ok (.getfield 164, 3) := by decide +kernel
theorem dX10_carryOutMove_7 : decode cX10_carryOutMove 7 = .ok (.if_icmp .ge 45, 3) := by decide +kernel
theorem dX10_carryOutMove_10 : decode cX10_carryOutMove 10 = .ok (.aload_n 0, 1) := by decide +kernel
theorem dX10_carryOutMove_11 : decode cX10_carryOutMove 11 = .ok (.getfield 23, 3) := by decide +kernel
theorem dX10_carryOutMove_14 : decode cX10_carryOutMove 14 = .ok (.iload_n 2, 1) := by decide +kernel
theorem dX10_carryOutMove_15 : decode cX10_carryOutMove 15 = .ok (.aaload, 1) := by decide +kernel
theorem dX10_carryOutMove_16 : decode cX10_carryOutMove 16 = .ok (.getfield 185, 3) := by decide +kernel
theorem dX10_carryOutMove_19 : decode cX10_carryOutMove 19 = .ok (.iload_n 1, 1) := by decide +kernel
theorem dX10_carryOutMove_20 : decode cX10_carryOutMove 20 = .ok (.if_icmp .ne 26, 3) := by decide +kernel
theorem dX10_carryOutMove_23 : decode cX10_carryOutMove 23 = .ok (.aload_n 0, 1) := by decide +kernel
theorem dX10_carryOutMove_24 : decode cX10_carryOutMove 24 = .ok (.getfield 61, 3) := by decide +kernel
theorem dX10_carryOutMove_27 : decode cX10_carryOutMove 27 = .ok (.iload_n 2, 1) := by decide +kernel
theorem dX10_carryOutMove_28 : decode cX10_carryOutMove 28 = .ok (.invokevirtual 405, 3) := by decide +kernel
theorem dX10_carryOutMove_31 : decode cX10_carryOutMove 31 = .ok (.bipush (-6), 2) := by decide +kernel
theorem dX10_carryOutMove_33 : decode cX10_carryOutMove 33 = .ok (.if_icmp .ne 13, 3) := by decide +kernel
theorem dX10_carryOutMove_36 : decode cX10_carryOutMove 36 = .ok (.aload_n 0, 1) := by decide +kernel
theorem dX10_carryOutMove_37 : decode cX10_carryOutMove 37 = .ok (.getfield 23, 3) := by decide +kernel
theorem dX10_carryOutMove_40 : decode cX10_carryOutMove 40 = .ok (.iload_n 2, 1) := by decide +kernel
theorem dX10_carryOutMove_41 : decode cX10_carryOutMove 41 = .ok (.aaload, 1) := by decide +kernel
theorem dX10_carryOutMove_42 : decode cX10_carryOutMove 42 = .ok (.iconst 1, 1) := by decide +kernel
theorem dX10_carryOutMove_43 : decode cX10_carryOutMove 43 = .ok (.invokevirtual 194, 3) := by decide +kernel
theorem dX10_carryOutMove_46 : decode cX10_carryOutMove 46 = .ok (.iinc 2 1, 3) := by decide +kernel
theorem dX10_carryOutMove_49 : decode cX10_carryOutMove 49 = .ok (.goto (-47), 3) := by decide +kernel
theorem dX10_carryOutMove_52 : decode cX10_carryOutMove 52 = .ok (.iconst 0, 1) := by decide +kernel
theorem dX10_carryOutMove_53 : decode cX10_carryOutMove 53 = .ok (.istore_n 2, 1) := by decide +kernel
theorem dX10_carryOutMove_54 : decode cX10_carryOutMove 54 = .ok (.iload_n 2, 1) := by decide +kernel
theorem dX10_carryOutMove_55 : decode cX10_carryOutMove 55 = .ok (.aload_n 0, 1) := by decide +kernel
theorem dX10_carryOutMove_56 : decode cX10_carryOutMove 56 = .ok (.getfield 61, 3) := by decide +kernel
theorem dX10_carryOutMove_59 : decode cX10_carryOutMove 59 = .ok (.getfield 379, 3) := by decide +kernel
theorem dX10_carryOutMove_62 : decode cX10_carryOutMove 62 = .ok (.if_icmp .ge 85, 3) := by decide +kernel
theorem dX10_carryOutMove_65 : decode cX10_carryOutMove 65 = .ok (.aload_n 0, 1) := by decide +kernel
theorem dX10_carryOutMove_66 : decode cX10_carryOutMove 66 = .ok (.getfield 23, 3) := by decide +kernel
theorem dX10_carryOutMove_69 : decode cX10_carryOutMove 69 = .ok (.aload_n 0, 1) := by decide +kernel
theorem dX10_carryOutMove_70 : decode cX10_carryOutMove 70 = .ok (.getfield 61, 3) := by decide +kernel
theorem dX10_carryOutMove_73 : decode cX10_carryOutMove 73 = .ok (.getfield 382, 3) := by decide +kernel
theorem dX10_carryOutMove_76 : decode cX10_carryOutMove 76 = .ok (.iload_n 2, 1) := by decide +kernel
theorem dX10_carryOutMove_77 : decode cX10_carryOutMove 77 = .ok (.iaload, 1) := by decide +kernel
theorem dX10_carryOutMove_78 : decode cX10_carryOutMove 78 = .ok (.aaload, 1) := by decide +kernel
theorem dX10_carryOutMove_79 : decode cX10_carryOutMove 79 = .ok (.astore_n 3, 1) := by decide +kernel
theorem dX10_carryOutMove_80 : decode cX10_carryOutMove 80 = .ok (.aload_n 0, 1) := by decide +kernel
theorem dX10_carryOutMove_81 : decode cX10_carryOutMove 81 = .ok (.getfield 61, 3) := by decide +kernel
theorem dX10_carryOutMove_84 : decode cX10_carryOutMove 84 = .ok (.getfield 408, 3) := by decide +kernel
theorem dX10_carryOutMove_87 : decode cX10_carryOutMove 87 = .ok (.iload_n 2, 1) := by decide +kernel
theorem dX10_carryOutMove_88 : decode cX10_carryOutMove 88 = .ok (.iaload, 1) := by decide +kernel
theorem dX10_carryOutMove_89 : decode cX10_carryOutMove 89 = .ok (.istore 4, 2) := by decide +kernel
theorem dX10_carryOutMove_91 : decode cX10_carryOutMove 91 = .ok (.iload 4, 2) := by decide +kernel
theorem dX10_carryOutMove_93 : decode cX10_carryOutMove 93 = .ok (.bipush (-6), 2) := by decide +kernel
theorem dX10_carryOutMove_95 : decode cX10_carryOutMove 95 = .ok (.if_icmp .ne 11, 3) := by decide +kernel
theorem dX10_carryOutMove_98 : decode cX10_carryOutMove 98 = .ok (.aload_n 3, 1) := by decide +kernel
theorem dX10_carryOutMove_99 : decode cX10_carryOutMove 99 = .ok (.iconst 3, 1) := by decide +kernel
theorem dX10_carryOutMove_100 : decode cX10_carryOutMove 100 = .ok (.invokevirtual 194, 3) := by decide +kernel
theorem dX10_carryOutMove_103 : decode cX10_carryOutMove 103 = .ok (.goto 38, 3) := by decide +kernel
theorem dX10_carryOutMove_106 : decode cX10_carryOutMove 106 = .ok (.aload_n 3, 1) := by decide +kernel
theorem dX10_carryOutMove_107 : decode cX10_carryOutMove 107 = .ok (.aload_n 0, 1) := by decide +kernel
theorem dX10_carryOutMove_108 : decode cX10_carryOutMove 108 = .ok (.getfield 61, 3) := by decide +kernel
theorem dX10_carryOutMove_111 : decode cX10_carryOutMove 111 = .ok (.getfield 398, 3) := by decide +kernel
theorem dX10_carryOutMove_114 : decode cX10_carryOutMove 114 = .ok (.iload 4, 2) := by decide +kernel
theorem dX10_carryOutMove_116 : decode cX10_carryOutMove 116 = .ok (.iaload, 1) := by decide +kernel
theorem dX10_carryOutMove_117 : decode cX10_carryOutMove 117 = .ok (.putfield 185, 3) := by decide +kernel
theorem dX10_carryOutMove_120 : decode cX10_carryOutMove 120 = .ok (.aload_n 0, 1) := by decide +kernel
theorem dX10_carryOutMove_121 : decode cX10_carryOutMove 121 = .ok (.getfield 17, 3) := by decide +kernel
theorem dX10_carryOutMove_124 : decode cX10_carryOutMove 124 = .ok (.aload_n 3, 1) := by decide +kernel
theorem dX10_carryOutMove_125 : decode cX10_carryOutMove 125 = .ok (.getfield 185, 3) := by decide +kernel
theorem dX10_carryOutMove_128 : decode cX10_carryOutMove 128 = .ok (.aaload, 1) := by decide +kernel
theorem dX10_carryOutMove_129 : decode cX10_carryOutMove 129 = .ok (.getfield 158, 3) := by decide +kernel
theorem dX10_carryOutMove_132 : decode cX10_carryOutMove 132 = .ok (.aload_n 3, 1) := by decide +kernel
theorem dX10_carryOutMove_133 : decode cX10_carryOutMove 133 = .ok (.getfield 176, 3) := by decide +kernel
theorem dX10_carryOutMove_136 : decode cX10_carryOutMove 136 = .ok (.dup2, 1) := by decide +kernel
theorem dX10_carryOutMove_137 : decode cX10_carryOutMove 137 = .ok (.iaload, 1) := by decide +kernel
theorem dX10_carryOutMove_138 : decode cX10_carryOutMove 138 = .ok (.iconst 1, 1) := by decide +kernel
theorem dX10_carryOutMove_139 : decode cX10_carryOutMove 139 = .ok (.isub, 1) := by decide +kernel
theorem dX10_carryOutMove_140 : decode cX10_carryOutMove 140 = .ok (.iastore, 1) := by decide +kernel
theorem dX10_carryOutMove_141 : decode cX10_carryOutMove 141 = .ok (.iinc 2 1, 3) := by decide +kernel
theorem dX10_carryOutMove_144 : decode cX10_carryOutMove 144 = .ok (.goto (-90), 3) := by decide +kernel
theorem dX10_carryOutMove_147 : decode cX10_carryOutMove 147 = .ok (.return_, 1) := by decide +kernel
theorem dX10_canBe_0 : decode cX10_canBe 0 = .ok (.aload_n 0, 1) := by decide +kernel
theorem dX10_canBe_1 : decode cX10_canBe 1 = .ok (.getfield 17, 3) := by decide +kernel
theorem dX10_canBe_4 : decode cX10_canBe 4 = .ok (.iload_n 1, 1) := by decide +kernel
theorem dX10_canBe_5 : decode cX10_canBe 5 = .ok (.aaload, 1) := by decide +kernel
theorem dX10_canBe_6 : decode cX10_canBe 6 = .ok (.astore_n 3, 1) := by decide +kernel
theorem dX10_canBe_7 : decode cX10_canBe 7 = .ok (.aload_n 3, 1) := by decide +kernel
theorem dX10_canBe_8 : decode cX10_canBe 8 = .ok (.getfield 123, 3) := by decide +kernel
theorem dX10_canBe_11 : decode cX10_canBe 11 = .ok (.aload_n 2, 1) := by decide +kernel
theorem dX10_canBe_12 : decode cX10_canBe 12 = .ok (.getfield 411, 3) := by decide +kernel
theorem dX10_canBe_15 : decode cX10_canBe 15 = .ok (.invokevirtual 365, 3) := by decide +kernel
theorem dX10_canBe_18 : decode cX10_canBe 18 = .ok (.aload_n 3, 1) := by decide +kernel
theorem dX10_canBe_19 : decode cX10_canBe 19 = .ok (.getfield 133, 3) := by decide +kernel
theorem dX10_canBe_22 : decode cX10_canBe 22 = .ok (.bipush 30, 2) := by decide +kernel
theorem dX10_canBe_24 : decode cX10_canBe 24 = .ok (.idiv, 1) := by decide +kernel
theorem dX10_canBe_25 : decode cX10_canBe 25 = .ok (.if_icmp .gt 7, 3) := by decide +kernel
theorem dX10_canBe_28 : decode cX10_canBe 28 = .ok (.iconst 1, 1) := by decide +kernel
theorem dX10_canBe_29 : decode cX10_canBe 29 = .ok (.goto 4, 3) := by decide +kernel
theorem dX10_canBe_32 : decode cX10_canBe 32 = .ok (.iconst 0, 1) := by decide +kernel
theorem dX10_canBe_33 : decode cX10_canBe 33 = .ok (.istore 4, 2) := by decide +kernel
theorem dX10_canBe_35 : decode cX10_canBe 35 = .ok (.iload 4, 2) := by decide +kernel
theorem dX10_canBe_37 : decode cX10_canBe 37 = .ok (.ifCond .eq 37, 3) := by decide +kernel
theorem dX10_canBe_40 : decode cX10_canBe 40 = .ok (.aload_n 3, 1) := by decide +kernel
theorem dX10_canBe_41 : decode cX10_canBe 41 = .ok (.getfield 308, 3) := by decide +kernel
theorem dX10_canBe_44 : decode cX10_canBe 44 = .ok (.aload_n 2, 1) := by decide +kernel
theorem dX10_canBe_45 : decode cX10_canBe 45 = .ok (.getfield 412, 3) := by decide +kernel
theorem dX10_canBe_48 : decode cX10_canBe 48 = .ok (.if_icmp .gt 26, 3) := by decide +kernel
theorem dX10_canBe_51 : decode cX10_canBe 51 = .ok (.aload_n 3, 1) := by decide +kernel
theorem dX10_canBe_52 : decode cX10_canBe 52 = .ok (.getfield 311, 3) := by decide +kernel
theorem dX10_canBe_55 : decode cX10_canBe 55 = .ok (.aload_n 2, 1) := by decide +kernel
theorem dX10_canBe_56 : decode cX10_canBe 56 = .ok (.getfield 412, 3) := by decide +kernel
theorem dX10_canBe_59 : decode cX10_canBe 59 = .ok (.aload_n 0, 1) := by decide +kernel
theorem dX10_canBe_60 : decode cX10_canBe 60 = .ok (.getfield 37, 3) := by decide +kernel
theorem dX10_canBe_63 : decode cX10_canBe 63 = .ok (.bipush 6, 2) := by decide +kernel
theorem dX10_canBe_65 : decode cX10_canBe 65 = .ok (.iaload, 1) := by decide +kernel
theorem dX10_canBe_66 : decode cX10_canBe 66 = .ok (.isub, 1) := by decide +kernel
theorem dX10_canBe_67 : decode cX10_canBe 67 = .ok (.if_icmp .lt 7, 3) := by decide +kernel
theorem dX10_canBe_70 : decode cX10_canBe 70 = .ok (.iconst 1, 1) := by decide +kernel
theorem dX10_canBe_71 : decode cX10_canBe 71 = .ok (.goto 4, 3) := by decide +kernel
theorem dX10_canBe_74 : decode cX10_canBe 74 = .ok (.iconst 0, 1) := by decide +kernel
theorem dX10_canBe_75 : decode cX10_canBe 75 = .ok (.ireturn, 1) := by decide +kernel
theorem dX10_partOf_0 : decode cX10_partOf 0 = .ok (.bipush (-6), 2) := by decide +kernel
theorem dX10_partOf_2 : decode cX10_partOf 2 = .ok (.istore_n 3, 1) := by decide +kernel
theorem dX10_partOf_3 : decode cX10_partOf 3 = .ok (.iconst 0, 1) := by decide +kernel
theorem dX10_partOf_4 : decode cX10_partOf 4 = .ok (.istore 4, 2) := by decide +kernel
theorem dX10_partOf_6 : decode cX10_partOf 6 = .ok (.iconst 0, 1) := by decide +kernel
theorem dX10_partOf_7 : decode cX10_partOf 7 = .ok (.istore 5, 2) := by decide +kernel
theorem dX10_partOf_9 : decode cX10_partOf 9 = .ok (.iload 5, 2) := by decide +kernel
theorem dX10_partOf_11 : decode cX10_partOf 11 = .ok (.aload_n 0, 1) := by decide +kernel
theorem dX10_partOf_12 : decode cX10_partOf 12 = .ok (.getfield 110, 3) := by decide +kernel
theorem dX10_partOf_15 : decode cX10_partOf 15 = .ok (.if_icmp .ge 49, 3) := by decide +kernel
theorem dX10_partOf_18 : decode cX10_partOf 18 = .ok (.aload_n 0, 1) := by decide +kernel
theorem dX10_partOf_19 : decode cX10_partOf 19 = .ok (.iload 5, 2) := by decide +kernel
theorem dX10_partOf_21 : decode cX10_partOf 21 = .ok (.aload_n 1, 1) := by decide +kernel
theorem dX10_partOf_22 : decode cX10_partOf 22 = .ok (.invokevirtual 324, 3) := by decide +kernel
theorem dX10_partOf_25 : decode cX10_partOf 25 = .ok (.ifCond .eq 33, 3) := by decide +kernel
theorem dX10_partOf_28 : decode cX10_partOf 28 = .ok (.iload 4, 2) := by decide +kernel
theorem dX10_partOf_30 : decode cX10_partOf 30 = .ok (.aload_n 0, 1) := by decide +kernel
theorem dX10_partOf_31 : decode cX10_partOf 31 = .ok (.getfield 17, 3) := by decide +kernel
theorem dX10_partOf_34 : decode cX10_partOf 34 = .ok (.iload 5, 2) := by decide +kernel
theorem dX10_partOf_36 : decode cX10_partOf 36 = .ok (.aaload, 1) := by decide +kernel
theorem dX10_partOf_37 : decode cX10_partOf 37 = .ok (.getfield 127, 3) := by decide +kernel
theorem dX10_partOf_40 : decode cX10_partOf 40 = .ok (.iconst 1, 1) := by decide +kernel
theorem dX10_partOf_41 : decode cX10_partOf 41 = .ok (.iadd, 1) := by decide +kernel
theorem dX10_partOf_42 : decode cX10_partOf 42 = .ok (.iadd, 1) := by decide +kernel
theorem dX10_partOf_43 : decode cX10_partOf 43 = .ok (.istore 4, 2) := by decide +kernel
theorem dX10_partOf_45 : decode cX10_partOf 45 = .ok (.iload_n 3, 1) := by decide +kernel
theorem dX10_partOf_46 : decode cX10_partOf 46 = .ok (.bipush (-6), 2) := by decide +kernel
theorem dX10_partOf_48 : decode cX10_partOf 48 = .ok (.if_icmp .ne 8, 3) := by decide +kernel
theorem dX10_partOf_51 : decode cX10_partOf 51 = .ok (.iload 5, 2) := by decide +kernel
theorem dX10_partOf_53 : decode cX10_partOf 53 = .ok (.goto 4, 3) := by decide +kernel
theorem dX10_partOf_56 : decode cX10_partOf 56 = .ok (.iload_n 3, 1) := by decide +kernel
theorem dX10_partOf_57 : decode cX10_partOf 57 = .ok (.istore_n 3, 1) := by decide +kernel
theorem dX10_partOf_58 : decode cX10_partOf 58 = .ok (.iinc 5 1, 3) := by decide +kernel
theorem dX10_partOf_61 : decode cX10_partOf 61 = .ok (.goto (-52), 3) := by decide +kernel
theorem dX10_partOf_64 : decode cX10_partOf 64 = .ok (.aload_n 1, 1) := by decide +kernel
theorem dX10_partOf_65 : decode cX10_partOf 65 = .ok (.getfield 415, 3) := by decide +kernel
theorem dX10_partOf_68 : decode cX10_partOf 68 = .ok (.istore 5, 2) := by decide +kernel
theorem dX10_partOf_70 : decode cX10_partOf 70 = .ok (.iconst 0, 1) := by decide +kernel
theorem dX10_partOf_71 : decode cX10_partOf 71 = .ok (.istore 6, 2) := by decide +kernel
theorem dX10_partOf_73 : decode cX10_partOf 73 = .ok (.iload 6, 2) := by decide +kernel
theorem dX10_partOf_75 : decode cX10_partOf 75 = .ok (.aload_n 0, 1) := by decide +kernel
theorem dX10_partOf_76 : decode cX10_partOf 76 = .ok (.getfield 110, 3) := by decide +kernel
theorem dX10_partOf_79 : decode cX10_partOf 79 = .ok (.if_icmp .ge 45, 3) := by decide +kernel
theorem dX10_partOf_82 : decode cX10_partOf 82 = .ok (.aload_n 0, 1) := by decide +kernel
theorem dX10_partOf_83 : decode cX10_partOf 83 = .ok (.iload 6, 2) := by decide +kernel
theorem dX10_partOf_85 : decode cX10_partOf 85 = .ok (.aload_n 1, 1) := by decide +kernel
theorem dX10_partOf_86 : decode cX10_partOf 86 = .ok (.invokevirtual 324, 3) := by decide +kernel
theorem dX10_partOf_89 : decode cX10_partOf 89 = .ok (.ifCond .eq 29, 3) := by decide +kernel
theorem dX10_partOf_92 : decode cX10_partOf 92 = .ok (.iload 5, 2) := by decide +kernel
theorem dX10_partOf_94 : decode cX10_partOf 94 = .ok (.aload_n 1, 1) := by decide +kernel
theorem dX10_partOf_95 : decode cX10_partOf 95 = .ok (.getfield 415, 3) := by decide +kernel
theorem dX10_partOf_98 : decode cX10_partOf 98 = .ok (.aload_n 0, 1) := by decide +kernel
theorem dX10_partOf_99 : decode cX10_partOf 99 = .ok (.getfield 17, 3) := by decide +kernel
theorem dX10_partOf_102 : decode cX10_partOf 102 = .ok (.iload 6, 2) := by decide +kernel
theorem dX10_partOf_104 : decode cX10_partOf 104 = .ok (.aaload, 1) := by decide +kernel
theorem dX10_partOf_105 : decode cX10_partOf 105 = .ok (.getfield 127, 3) := by decide +kernel
theorem dX10_partOf_108 : decode cX10_partOf 108 = .ok (.iconst 1, 1) := by decide +kernel
theorem dX10_partOf_109 : decode cX10_partOf 109 = .ok (.iadd, 1) := by decide +kernel
theorem dX10_partOf_110 : decode cX10_partOf 110 = .ok (.iload 4, 2) := by decide +kernel
theorem dX10_partOf_112 : decode cX10_partOf 112 = .ok (.invokestatic 416, 3) := by decide +kernel
theorem dX10_partOf_115 : decode cX10_partOf 115 = .ok (.isub, 1) := by decide +kernel
theorem dX10_partOf_116 : decode cX10_partOf 116 = .ok (.istore 5, 2) := by decide +kernel
theorem dX10_partOf_118 : decode cX10_partOf 118 = .ok (.iinc 6 1, 3) := by decide +kernel
theorem dX10_partOf_121 : decode cX10_partOf 121 = .ok (.goto (-48), 3) := by decide +kernel
theorem dX10_partOf_124 : decode cX10_partOf 124 = .ok (.aload_n 1, 1) := by decide +kernel
theorem dX10_partOf_125 : decode cX10_partOf 125 = .ok (.getfield 415, 3) := by decide +kernel
theorem dX10_partOf_128 : decode cX10_partOf 128 = .ok (.aload_n 0, 1) := by decide +kernel
theorem dX10_partOf_129 : decode cX10_partOf 129 = .ok (.getfield 17, 3) := by decide +kernel
theorem dX10_partOf_132 : decode cX10_partOf 132 = .ok (.iload_n 2, 1) := by decide +kernel
theorem dX10_partOf_133 : decode cX10_partOf 133 = .ok (.aaload, 1) := by decide +kernel
theorem dX10_partOf_134 : decode cX10_partOf 134 = .ok (.getfield 127, 3) := by decide +kernel
theorem dX10_partOf_137 : decode cX10_partOf 137 = .ok (.iconst 1, 1) := by decide +kernel
theorem dX10_partOf_138 : decode cX10_partOf 138 = .ok (.iadd, 1) := by decide +kernel
theorem dX10_partOf_139 : decode cX10_partOf 139 = .ok (.iload 4, 2) := by decide +kernel
theorem dX10_partOf_141 : decode cX10_partOf 141 = .ok (.invokestatic 416, 3) := by decide +kernel
theorem dX10_partOf_144 : decode cX10_partOf 144 = .ok (.istore 6, 2) := by decide +kernel
theorem dX10_partOf_146 : decode cX10_partOf 146 = .ok (.iload_n 2, 1) := by decide +kernel
theorem dX10_partOf_147 : decode cX10_partOf 147 = .ok (.iload_n 3, 1) := by decide +kernel
theorem dX10_partOf_148 : decode cX10_partOf 148 = .ok (.if_icmp .ne 11, 3) := by decide +kernel
theorem dX10_partOf_151 : decode cX10_partOf 151 = .ok (.iload 6, 2) := by decide +kernel
theorem dX10_partOf_153 : decode cX10_partOf 153 = .ok (.iload 5, 2) := by decide +kernel
theorem dX10_partOf_155 : decode cX10_partOf 155 = .ok (.iadd, 1) := by decide +kernel
theorem dX10_partOf_156 : decode cX10_partOf 156 = .ok (.goto 5, 3) := by decide +kernel
theorem dX10_partOf_159 : decode cX10_partOf 159 = .ok (.iload 6, 2) := by decide +kernel
theorem dX10_partOf_161 : decode cX10_partOf 161 = .ok (.ireturn, 1) := by decide +kernel
theorem dX10_share_0 : decode cX10_share 0 = .ok (.iload_n 2, 1) := by decide +kernel
theorem dX10_share_1 : decode cX10_share 1 = .ok (.ifCond .gt 7, 3) := by decide +kernel
theorem dX10_share_4 : decode cX10_share 4 = .ok (.iconst 0, 1) := by decide +kernel
theorem dX10_share_5 : decode cX10_share 5 = .ok (.goto 8, 3) := by decide +kernel
theorem dX10_share_8 : decode cX10_share 8 = .ok (.iload_n 0, 1) := by decide +kernel
theorem dX10_share_9 : decode cX10_share 9 = .ok (.iload_n 1, 1) := by decide +kernel
theorem dX10_share_10 : decode cX10_share 10 = .ok (.imul, 1) := by decide +kernel
theorem dX10_share_11 : decode cX10_share 11 = .ok (.iload_n 2, 1) := by decide +kernel
theorem dX10_share_12 : decode cX10_share 12 = .ok (.idiv, 1) := by decide +kernel
theorem dX10_share_13 : decode cX10_share 13 = .ok (.ireturn, 1) := by decide +kernel
theorem dX11_init_0 : decode cX11_init 0 = .ok (.aload_n 0, 1) := by decide +kernel
theorem dX11_init_1 : decode cX11_init 1 = .ok (.invokespecial 1, 3) := by decide +kernel
theorem dX11_init_4 : decode cX11_init 4 = .ok (.aload_n 0, 1) := by decide +kernel
theorem dX11_init_5 : decode cX11_init 5 = .ok (.bipush 6, 2) := by decide +kernel
theorem dX11_init_7 : decode cX11_init 7 = .ok (.newarray .int, 2) := by decide +kernel
theorem dX11_init_9 : decode cX11_init 9 = .ok (.putfield 7, 3) := by decide +kernel
theorem dX11_init_12 : decode cX11_init 12 = .ok (.aload_n 0, 1) := by decide +kernel
theorem dX11_init_13 : decode cX11_init 13 = .ok (.bipush 6, 2) := by decide +kernel
theorem dX11_init_15 : decode cX11_init 15 = .ok (.newarray .int, 2) := by decide +kernel
theorem dX11_init_17 : decode cX11_init 17 = .ok (.putfield 13, 3) := by decide +kernel
theorem dX11_init_20 : decode cX11_init 20 = .ok (.aload_n 0, 1) := by decide +kernel
theorem dX11_init_21 : decode cX11_init 21 = .ok (.bipush 8, 2) := by decide +kernel
theorem dX11_init_23 : decode cX11_init 23 = .ok (.newarray .int, 2) := by decide +kernel
theorem dX11_init_25 : decode cX11_init 25 = .ok (.putfield 16, 3) := by decide +kernel
theorem dX11_init_28 : decode cX11_init 28 = .ok (.aload_n 0, 1) := by decide +kernel
theorem dX11_init_29 : decode cX11_init 29 = .ok (.bipush 8, 2) := by decide +kernel
theorem dX11_init_31 : decode cX11_init 31 = .ok (.newarray .int, 2) := by decide +kernel
theorem dX11_init_33 : decode cX11_init 33 = .ok (.putfield 19, 3) := by decide +kernel
theorem dX11_init_36 : decode cX11_init 36 = .ok (.aload_n 0, 1) := by decide +kernel
theorem dX11_init_37 : decode cX11_init 37 = .ok (.bipush 8, 2) := by decide +kernel
theorem dX11_init_39 : decode cX11_init 39 = .ok (.newarray .int, 2) := by decide +kernel
theorem dX11_init_41 : decode cX11_init 41 = .ok (.putfield 22, 3) := by decide +kernel
theorem dX11_init_44 : decode cX11_init 44 = .ok (.aload_n 0, 1) := by decide +kernel
theorem dX11_init_45 : decode cX11_init 45 = .ok (.bipush 8, 2) := by decide +kernel
theorem dX11_init_47 : decode cX11_init 47 = .ok (.newarray .int, 2) := by decide +kernel
theorem dX11_init_49 : decode cX11_init 49 = .ok (.putfield 25, 3) := by decide +kernel
theorem dX11_init_52 : decode cX11_init 52 = .ok (.aload_n 0, 1) := by decide +kernel
theorem dX11_init_53 : decode cX11_init 53 = .ok (.bipush 8, 2) := by decide +kernel
theorem dX11_init_55 : decode cX11_init 55 = .ok (.newarray .int, 2) := by decide +kernel
theorem dX11_init_57 : decode cX11_init 57 = .ok (.putfield 28, 3) := by decide +kernel
theorem dX11_init_60 : decode cX11_init 60 = .ok (.aload_n 0, 1) := by decide +kernel
theorem dX11_init_61 : decode cX11_init 61 = .ok (.bipush 8, 2) := by decide +kernel
theorem dX11_init_63 : decode cX11_init 63 = .ok (.newarray .boolean, 2) := by decide +kernel
theorem dX11_init_65 : decode cX11_init 65 = .ok (.putfield 31, 3) := by decide +kernel
theorem dX11_init_68 : decode cX11_init 68 = .ok (.aload_n 0, 1) := by decide +kernel
theorem dX11_init_69 : decode cX11_init 69 = .ok (.bipush 24, 2) := by decide +kernel
theorem dX11_init_71 : decode cX11_init 71 = .ok (.newarray .int, 2) := by decide +kernel
theorem dX11_init_73 : decode cX11_init 73 = .ok (.putfield 35, 3) := by decide +kernel
theorem dX11_init_76 : decode cX11_init 76 = .ok (.aload_n 0, 1) := by decide +kernel
theorem dX11_init_77 : decode cX11_init 77 = .ok (.bipush 24, 2) := by decide +kernel
theorem dX11_init_79 : decode cX11_init 79 = .ok (.newarray .int, 2) := by decide +kernel
theorem dX11_init_81 : decode cX11_init 81 = .ok (.putfield 38, 3) := by decide +kernel
theorem dX11_init_84 : decode cX11_init 84 = .ok (.aload_n 0, 1) := by decide +kernel
theorem dX11_init_85 : decode cX11_init 85 = .ok (.bipush 24, 2) := by decide +kernel
theorem dX11_init_87 : decode cX11_init 87 = .ok (.newarray .int, 2) := by decide +kernel
theorem dX11_init_89 : decode cX11_init 89 = .ok (.putfield 41, 3) := by decide +kernel
theorem dX11_init_92 : decode cX11_init 92 = .ok (.aload_n 0, 1) := by decide +kernel
theorem dX11_init_93 : decode cX11_init 93 = .ok (.bipush 24, 2) := by decide +kernel
theorem dX11_init_95 : decode cX11_init 95 = .ok (.newarray .int, 2) := by decide +kernel
theorem dX11_init_97 : decode cX11_init 97 = .ok (.putfield 44, 3) := by decide +kernel
theorem dX11_init_100 : decode cX11_init 100 = .ok (.aload_n 0, 1) := by decide +kernel
theorem dX11_init_101 : decode cX11_init 101 = .ok (.bipush 24, 2) := by decide +kernel
theorem dX11_init_103 : decode cX11_init 103 = .ok (.newarray .int, 2) := by decide +kernel
theorem dX11_init_105 : decode cX11_init 105 = .ok (.putfield 47, 3) := by decide +kernel
theorem dX11_init_108 : decode cX11_init 108 = .ok (.aload_n 0, 1) := by decide +kernel
theorem dX11_init_109 : decode cX11_init 109 = .ok (.bipush 24, 2) := by decide +kernel
theorem dX11_init_111 : decode cX11_init 111 = .ok (.newarray .int, 2) := by decide +kernel
theorem dX11_init_113 : decode cX11_init 113 = .ok (.putfield 50, 3) := by decide +kernel
theorem dX11_init_116 : decode cX11_init 116 = .ok (.aload_n 0, 1) := by decide +kernel
theorem dX11_init_117 : decode cX11_init 117 = .ok (.bipush 24, 2) := by decide +kernel
theorem dX11_init_119 : decode cX11_init 119 = .ok (.newarray .boolean, 2) := by decide +kernel
theorem dX11_init_121 : decode cX11_init 121 = .ok (.putfield 53, 3) := by decide +kernel
theorem dX11_init_124 : decode cX11_init 124 = .ok (.aload_n 0, 1) := by decide +kernel
theorem dX11_init_125 : decode cX11_init 125 = .ok (.bipush 24, 2) := by decide +kernel
theorem dX11_init_127 : decode cX11_init 127 = .ok (.newarray .int, 2) := by decide +kernel
theorem dX11_init_129 : decode cX11_init 129 = .ok (.putfield 56, 3) := by decide +kernel
theorem dX11_init_132 : decode cX11_init 132 = .ok (.aload_n 0, 1) := by decide +kernel
theorem dX11_init_133 : decode cX11_init 133 = .ok (.bipush 7, 2) := by decide +kernel
theorem dX11_init_135 : decode cX11_init 135 = .ok (.newarray .int, 2) := by decide +kernel
theorem dX11_init_137 : decode cX11_init 137 = .ok (.putfield 59, 3) := by decide +kernel
theorem dX11_init_140 : decode cX11_init 140 = .ok (.aload_n 0, 1) := by decide +kernel
theorem dX11_init_141 : decode cX11_init 141 = .ok (.sipush 160, 3) := by decide +kernel
theorem dX11_init_144 : decode cX11_init 144 = .ok (.newarray .int, 2) := by decide +kernel
theorem dX11_init_146 : decode cX11_init 146 = .ok (.putfield 62, 3) := by decide +kernel
theorem dX11_init_149 : decode cX11_init 149 = .ok (.aload_n 0, 1) := by decide +kernel
theorem dX11_init_150 : decode cX11_init 150 = .ok (.iconst 4, 1) := by decide +kernel
theorem dX11_init_151 : decode cX11_init 151 = .ok (.newarray .int, 2) := by decide +kernel
theorem dX11_init_153 : decode cX11_init 153 = .ok (.putfield 65, 3) := by decide +kernel
theorem dX11_init_156 : decode cX11_init 156 = .ok (.aload_n 0, 1) := by decide +kernel
theorem dX11_init_157 : decode cX11_init 157 = .ok (.bipush 6, 2) := by decide +kernel
theorem dX11_init_159 : decode cX11_init 159 = .ok (.newarray .int, 2) := by decide +kernel
theorem dX11_init_161 : decode cX11_init 161 = .ok (.putfield 68, 3) := by decide +kernel
theorem dX11_init_164 : decode cX11_init 164 = .ok (.aload_n 0, 1) := by decide +kernel
theorem dX11_init_165 : decode cX11_init 165 = .ok (.bipush 24, 2) := by decide +kernel
theorem dX11_init_167 : decode cX11_init 167 = .ok (.newarray .int, 2) := by decide +kernel
theorem dX11_init_169 : decode cX11_init 169 = .ok (.putfield 71, 3) := by decide +kernel
theorem dX11_init_172 : decode cX11_init 172 = .ok (.aload_n 0, 1) := by decide +kernel
theorem dX11_init_173 : decode cX11_init 173 = .ok (.bipush 12, 2) := by decide +kernel
theorem dX11_init_175 : decode cX11_init 175 = .ok (.newarray .int, 2) := by decide +kernel
theorem dX11_init_177 : decode cX11_init 177 = .ok (.putfield 74, 3) := by decide +kernel
theorem dX11_init_180 : decode cX11_init 180 = .ok (.aload_n 0, 1) := by decide +kernel
theorem dX11_init_181 : decode cX11_init 181 = .ok (.bipush 12, 2) := by decide +kernel
theorem dX11_init_183 : decode cX11_init 183 = .ok (.newarray .int, 2) := by decide +kernel
theorem dX11_init_185 : decode cX11_init 185 = .ok (.putfield 77, 3) := by decide +kernel
theorem dX11_init_188 : decode cX11_init 188 = .ok (.aload_n 0, 1) := by decide +kernel
theorem dX11_init_189 : decode cX11_init 189 = .ok (.ldc 80, 2) := by decide +kernel
theorem dX11_init_191 : decode cX11_init 191 = .ok (.newarray .int, 2) := by decide +kernel
theorem dX11_init_193 : decode cX11_init 193 = .ok (.putfield 81, 3) := by decide +kernel
theorem dX11_init_196 : decode cX11_init 196 = .ok (.aload_n 0, 1) := by decide +kernel
theorem dX11_init_197 : decode cX11_init 197 = .ok (.bipush 9, 2) := by decide +kernel
theorem dX11_init_199 : decode cX11_init 199 = .ok (.newarray .int, 2) := by decide +kernel
theorem dX11_init_201 : decode cX11_init 201 = .ok (.putfield 84, 3) := by decide +kernel
theorem dX11_init_204 : decode cX11_init 204 = .ok (.aload_n 0, 1) := by decide +kernel
theorem dX11_init_205 : decode cX11_init 205 = .ok (.bipush 9, 2) := by decide +kernel
theorem dX11_init_207 : decode cX11_init 207 = .ok (.newarray .boolean, 2) := by decide +kernel
theorem dX11_init_209 : decode cX11_init 209 = .ok (.putfield 87, 3) := by decide +kernel
theorem dX11_init_212 : decode cX11_init 212 = .ok (.aload_n 0, 1) := by decide +kernel
theorem dX11_init_213 : decode cX11_init 213 = .ok (.bipush 8, 2) := by decide +kernel
theorem dX11_init_215 : decode cX11_init 215 = .ok (.newarray .int, 2) := by decide +kernel
theorem dX11_init_217 : decode cX11_init 217 = .ok (.putfield 90, 3) := by decide +kernel
theorem dX11_init_220 : decode cX11_init 220 = .ok (.aload_n 0, 1) := by decide +kernel
theorem dX11_init_221 : decode cX11_init 221 = .ok (.bipush 8, 2) := by decide +kernel
theorem dX11_init_223 : decode cX11_init 223 = .ok (.newarray .int, 2) := by decide +kernel
theorem dX11_init_225 : decode cX11_init 225 = .ok (.putfield 93, 3) := by decide +kernel
theorem dX11_init_228 : decode cX11_init 228 = .ok (.aload_n 0, 1) := by decide +kernel
theorem dX11_init_229 : decode cX11_init 229 = .ok (.bipush 8, 2) := by decide +kernel
theorem dX11_init_231 : decode cX11_init 231 = .ok (.newarray .boolean, 2) := by decide +kernel
theorem dX11_init_233 : decode cX11_init 233 = .ok (.putfield 96, 3) := by decide +kernel
theorem dX11_init_236 : decode cX11_init 236 = .ok (.aload_n 0, 1) := by decide +kernel
theorem dX11_init_237 : decode cX11_init 237 = .ok (.bipush 8, 2) := by decide +kernel
theorem dX11_init_239 : decode cX11_init 239 = .ok (.newarray .int, 2) := by decide +kernel
theorem dX11_init_241 : decode cX11_init 241 = .ok (.putfield 99, 3) := by decide +kernel
theorem dX11_init_244 : decode cX11_init 244 = .ok (.aload_n 0, 1) := by decide +kernel
theorem dX11_init_245 : decode cX11_init 245 = .ok (.bipush 12, 2) := by decide +kernel
theorem dX11_init_247 : decode cX11_init 247 = .ok (.newarray .int, 2) := by decide +kernel
theorem dX11_init_249 : decode cX11_init 249 = .ok (.putfield 102, 3) := by decide +kernel
theorem dX11_init_252 : decode cX11_init 252 = .ok (.aload_n 0, 1) := by decide +kernel
theorem dX11_init_253 : decode cX11_init 253 = .ok (.bipush 12, 2) := by decide +kernel
theorem dX11_init_255 : decode cX11_init 255 = .ok (.newarray .int, 2) := by decide +kernel
theorem dX11_init_257 : decode cX11_init 257 = .ok (.putfield 105, 3) := by decide +kernel
theorem dX11_init_260 : decode cX11_init 260 = .ok (.aload_n 0, 1) := by decide +kernel
theorem dX11_init_261 : decode cX11_init 261 = .ok (.bipush 12, 2) := by decide +kernel
theorem dX11_init_263 : decode cX11_init 263 = .ok (.newarray .int, 2) := by decide +kernel
theorem dX11_init_265 : decode cX11_init 265 = .ok (.putfield 108, 3) := by decide +kernel
theorem dX11_init_268 : decode cX11_init 268 = .ok (.aload_n 0, 1) := by decide +kernel
theorem dX11_init_269 : decode cX11_init 269 = .ok (.bipush 8, 2) := by decide +kernel
theorem dX11_init_271 : decode cX11_init 271 = .ok (.newarray .int, 2) := by decide +kernel
theorem dX11_init_273 : decode cX11_init 273 = .ok (.putfield 111, 3) := by decide +kernel
theorem dX11_init_276 : decode cX11_init 276 = .ok (.aload_n 0, 1) := by decide +kernel
theorem dX11_init_277 : decode cX11_init 277 = .ok (.bipush 15, 2) := by decide +kernel
theorem dX11_init_279 : decode cX11_init 279 = .ok (.newarray .int, 2) := by decide +kernel
theorem dX11_init_281 : decode cX11_init 281 = .ok (.putfield 114, 3) := by decide +kernel
theorem dX11_init_284 : decode cX11_init 284 = .ok (.aload_n 0, 1) := by decide +kernel
theorem dX11_init_285 : decode cX11_init 285 = .ok (.bipush 8, 2) := by decide +kernel
theorem dX11_init_287 : decode cX11_init 287 = .ok (.newarray .int, 2) := by decide +kernel
theorem dX11_init_289 : decode cX11_init 289 = .ok (.putfield 117, 3) := by decide +kernel
theorem dX11_init_292 : decode cX11_init 292 = .ok (.aload_n 0, 1) := by decide +kernel
theorem dX11_init_293 : decode cX11_init 293 = .ok (.bipush 8, 2) := by decide +kernel
theorem dX11_init_295 : decode cX11_init 295 = .ok (.newarray .int, 2) := by decide +kernel
theorem dX11_init_297 : decode cX11_init 297 = .ok (.putfield 120, 3) := by decide +kernel
theorem dX11_init_300 : decode cX11_init 300 = .ok (.aload_n 0, 1) := by decide +kernel
theorem dX11_init_301 : decode cX11_init 301 = .ok (.bipush 8, 2) := by decide +kernel
theorem dX11_init_303 : decode cX11_init 303 = .ok (.newarray .int, 2) := by decide +kernel
theorem dX11_init_305 : decode cX11_init 305 = .ok (.putfield 123, 3) := by decide +kernel
theorem dX11_init_308 : decode cX11_init 308 = .ok (.aload_n 0, 1) := by decide +kernel
theorem dX11_init_309 : decode cX11_init 309 = .ok (.bipush 10, 2) := by decide +kernel
theorem dX11_init_311 : decode cX11_init 311 = .ok (.newarray .int, 2) := by decide +kernel
theorem dX11_init_313 : decode cX11_init 313 = .ok (.putfield 126, 3) := by decide +kernel
theorem dX11_init_316 : decode cX11_init 316 = .ok (.aload_n 0, 1) := by decide +kernel
theorem dX11_init_317 : decode cX11_init 317 = .ok (.bipush 10, 2) := by decide +kernel
theorem dX11_init_319 : decode cX11_init 319 = .ok (.newarray .int, 2) := by decide +kernel
theorem dX11_init_321 : decode cX11_init 321 = .ok (.putfield 129, 3) := by decide +kernel
theorem dX11_init_324 : decode cX11_init 324 = .ok (.aload_n 0, 1) := by decide +kernel
theorem dX11_init_325 : decode cX11_init 325 = .ok (.bipush 10, 2) := by decide +kernel
theorem dX11_init_327 : decode cX11_init 327 = .ok (.newarray .int, 2) := by decide +kernel
theorem dX11_init_329 : decode cX11_init 329 = .ok (.putfield 132, 3) := by decide +kernel
theorem dX11_init_332 : decode cX11_init 332 = .ok (.aload_n 0, 1) := by decide +kernel
theorem dX11_init_333 : decode cX11_init 333 = .ok (.bipush 10, 2) := by decide +kernel
theorem dX11_init_335 : decode cX11_init 335 = .ok (.newarray .int, 2) := by decide +kernel
theorem dX11_init_337 : decode cX11_init 337 = .ok (.putfield 135, 3) := by decide +kernel
theorem dX11_init_340 : decode cX11_init 340 = .ok (.aload_n 0, 1) := by decide +kernel
theorem dX11_init_341 : decode cX11_init 341 = .ok (.getfield 59, 3) := by decide +kernel
theorem dX11_init_344 : decode cX11_init 344 = .ok (.iconst 0, 1) := by decide +kernel
theorem dX11_init_345 : decode cX11_init 345 = .ok (.bipush 60, 2) := by decide +kernel
theorem dX11_init_347 : decode cX11_init 347 = .ok (.iastore, 1) := by decide +kernel
theorem dX11_init_348 : decode cX11_init 348 = .ok (.aload_n 0, 1) := by decide +kernel
theorem dX11_init_349 : decode cX11_init 349 = .ok (.getfield 59, 3) := by decide +kernel
theorem dX11_init_352 : decode cX11_init 352 = .ok (.iconst 1, 1) := by decide +kernel
theorem dX11_init_353 : decode cX11_init 353 = .ok (.bipush 30, 2) := by decide +kernel
theorem dX11_init_355 : decode cX11_init 355 = .ok (.iastore, 1) := by decide +kernel
theorem dX11_init_356 : decode cX11_init 356 = .ok (.aload_n 0, 1) := by decide +kernel
theorem dX11_init_357 : decode cX11_init 357 = .ok (.getfield 59, 3) := by decide +kernel
theorem dX11_init_360 : decode cX11_init 360 = .ok (.iconst 4, 1) := by decide +kernel
theorem dX11_init_361 : decode cX11_init 361 = .ok (.bipush 8, 2) := by decide +kernel
theorem dX11_init_363 : decode cX11_init 363 = .ok (.iastore, 1) := by decide +kernel
theorem dX11_init_364 : decode cX11_init 364 = .ok (.aload_n 0, 1) := by decide +kernel
theorem dX11_init_365 : decode cX11_init 365 = .ok (.getfield 59, 3) := by decide +kernel
theorem dX11_init_368 : decode cX11_init 368 = .ok (.iconst 5, 1) := by decide +kernel
theorem dX11_init_369 : decode cX11_init 369 = .ok (.iconst 3, 1) := by decide +kernel
theorem dX11_init_370 : decode cX11_init 370 = .ok (.iastore, 1) := by decide +kernel
theorem dX11_init_371 : decode cX11_init 371 = .ok (.aload_n 0, 1) := by decide +kernel
theorem dX11_init_372 : decode cX11_init 372 = .ok (.getfield 59, 3) := by decide +kernel
theorem dX11_init_375 : decode cX11_init 375 = .ok (.bipush 6, 2) := by decide +kernel
theorem dX11_init_377 : decode cX11_init 377 = .ok (.bipush 10, 2) := by decide +kernel
theorem dX11_init_379 : decode cX11_init 379 = .ok (.iastore, 1) := by decide +kernel
theorem dX11_init_380 : decode cX11_init 380 = .ok (.iconst 0, 1) := by decide +kernel
theorem dX11_init_381 : decode cX11_init 381 = .ok (.istore_n 1, 1) := by decide +kernel
theorem dX11_init_382 : decode cX11_init 382 = .ok (.iload_n 1, 1) := by decide +kernel
theorem dX11_init_383 : decode cX11_init 383 = .ok (.bipush 15, 2) := by decide +kernel
theorem dX11_init_385 : decode cX11_init 385 = .ok (.if_icmp .ge 17, 3) := by decide +kernel
theorem dX11_init_388 : decode cX11_init 388 = .ok (.aload_n 0, 1) := by decide +kernel
theorem dX11_init_389 : decode cX11_init 389 = .ok (.getfield 114, 3) := by decide +kernel
theorem dX11_init_392 : decode cX11_init 392 = .ok (.iload_n 1, 1) := by decide +kernel
theorem dX11_init_393 : decode cX11_init 393 = .ok (.bipush 100, 2) := by decide +kernel
theorem dX11_init_395 : decode cX11_init 395 = .ok (.iastore, 1) := by decide +kernel
theorem dX11_init_396 : decode cX11_init 396 = .ok (.iinc 1 1, 3) := by decide +kernel
theorem dX11_init_399 : decode cX11_init 399 = .ok (.goto (-17), 3) := by decide +kernel
theorem dX11_init_402 : decode cX11_init 402 = .ok (.iconst 0, 1) := by decide +kernel
theorem dX11_init_403 : decode cX11_init 403 = .ok (.istore_n 1, 1) := by decide +kernel
theorem dX11_init_404 : decode cX11_init 404 = .ok (.iload_n 1, 1) := by decide +kernel
theorem dX11_init_405 : decode cX11_init 405 = .ok (.iconst 3, 1) := by decide +kernel
theorem dX11_init_406 : decode cX11_init 406 = .ok (.if_icmp .ge 17, 3) := by decide +kernel
theorem dX11_init_409 : decode cX11_init 409 = .ok (.aload_n 0, 1) := by decide +kernel
theorem dX11_init_410 : decode cX11_init 410 = .ok (.getfield 65, 3) := by decide +kernel
theorem dX11_init_413 : decode cX11_init 413 = .ok (.iload_n 1, 1) := by decide +kernel
theorem dX11_init_414 : decode cX11_init 414 = .ok (.bipush (-6), 2) := by decide +kernel
theorem dX11_init_416 : decode cX11_init 416 = .ok (.iastore, 1) := by decide +kernel
theorem dX11_init_417 : decode cX11_init 417 = .ok (.iinc 1 1, 3) := by decide +kernel
theorem dX11_init_420 : decode cX11_init 420 = .ok (.goto (-16), 3) := by decide +kernel
theorem dX11_init_423 : decode cX11_init 423 = .ok (.return_, 1) := by decide +kernel
theorem dX11_in_0 : decode cX11_in 0 = .ok (.lload_n 0, 1) := by decide +kernel
theorem dX11_in_1 : decode cX11_in 1 = .ok (.lload_n 2, 1) := by decide +kernel
theorem dX11_in_2 : decode cX11_in 2 = .ok (.lcmp, 1) := by decide +kernel
theorem dX11_in_3 : decode cX11_in 3 = .ok (.ifCond .lt 14, 3) := by decide +kernel
theorem dX11_in_6 : decode cX11_in 6 = .ok (.lload_n 0, 1) := by decide +kernel
theorem dX11_in_7 : decode cX11_in 7 = .ok (.lload 4, 2) := by decide +kernel
theorem dX11_in_9 : decode cX11_in 9 = .ok (.lcmp, 1) := by decide +kernel
theorem dX11_in_10 : decode cX11_in 10 = .ok (.ifCond .gt 7, 3) := by decide +kernel
theorem dX11_in_13 : decode cX11_in 13 = .ok (.iconst 1, 1) := by decide +kernel
theorem dX11_in_14 : decode cX11_in 14 = .ok (.goto 4, 3) := by decide +kernel
theorem dX11_in_17 : decode cX11_in 17 = .ok (.iconst 0, 1) := by decide +kernel
theorem dX11_in_18 : decode cX11_in 18 = .ok (.ireturn, 1) := by decide +kernel
theorem dX11_size_0 : decode cX11_size 0 = .ok (.iload_n 0, 1) := by decide +kernel
theorem dX11_size_1 : decode cX11_size 1 = .ok (.ifCond .ge 8, 3) := by decide +kernel
theorem dX11_size_4 : decode cX11_size 4 = .ok (.iload_n 0, 1) := by decide +kernel
theorem dX11_size_5 : decode cX11_size 5 = .ok (.ineg, 1) := by decide +kernel
theorem dX11_size_6 : decode cX11_size 6 = .ok (.goto 4, 3) := by decide +kernel
theorem dX11_size_9 : decode cX11_size 9 = .ok (.iload_n 0, 1) := by decide +kernel
theorem dX11_size_10 : decode cX11_size 10 = .ok (.ireturn, 1) := by decide +kernel
theorem dX11_ones_0 : decode cX11_ones 0 = .ok (.iconst 0, 1) := by decide +kernel
theorem dX11_ones_1 : decode cX11_ones 1 = .ok (.istore_n 1, 1) := by decide +kernel
theorem dX11_ones_2 : decode cX11_ones 2 = .ok (.iconst 0, 1) := by decide +kernel
theorem dX11_ones_3 : decode cX11_ones 3 = .ok (.istore_n 2, 1) := by decide +kernel
theorem dX11_ones_4 : decode cX11_ones 4 = .ok (.iload_n 2, 1) := by decide +kernel
theorem dX11_ones_5 : decode cX11_ones 5 = .ok (.bipush 12, 2) := by decide +kernel
theorem dX11_ones_7 : decode cX11_ones 7 = .ok (.if_icmp .ge 17, 3) := by decide +kernel
theorem dX11_ones_10 : decode cX11_ones 10 = .ok (.iload_n 1, 1) := by decide +kernel
theorem dX11_ones_11 : decode cX11_ones 11 = .ok (.iload_n 0, 1) := by decide +kernel
theorem dX11_ones_12 : decode cX11_ones 12 = .ok (.iload_n 2, 1) := by decide +kernel
theorem dX11_ones_13 : decode cX11_ones 13 = .ok (.ishr, 1) := by decide +kernel
theorem dX11_ones_14 : decode cX11_ones 14 = .ok (.iconst 1, 1) := by decide +kernel
theorem dX11_ones_15 : decode cX11_ones 15 = .ok (.iand, 1) := by decide +kernel
theorem dX11_ones_16 : decode cX11_ones 16 = .ok (.iadd, 1) := by decide +kernel
theorem dX11_ones_17 : decode cX11_ones 17 = .ok (.istore_n 1, 1) := by decide +kernel
theorem dX11_ones_18 : decode cX11_ones 18 = .ok (.iinc 2 1, 3) := by decide +kernel
theorem dX11_ones_21 : decode cX11_ones 21 = .ok (.goto (-17), 3) := by decide +kernel
theorem dX11_ones_24 : decode cX11_ones 24 = .ok (.iload_n 1, 1) := by decide +kernel
theorem dX11_ones_25 : decode cX11_ones 25 = .ok (.ireturn, 1) := by decide +kernel
theorem dX11_isTown_0 : decode cX11_isTown 0 = .ok (.iload_n 0, 1) := by decide +kernel
theorem dX11_isTown_1 : decode cX11_isTown 1 = .ok (.i2l, 1) := by decide +kernel
theorem dX11_isTown_2 : decode cX11_isTown 2 = .ok (.lconst 0, 1) := by decide +kernel
theorem dX11_isTown_3 : decode cX11_isTown 3 = .ok (.ldc2_w 138, 3) := by decide +kernel
theorem dX11_isTown_6 : decode cX11_isTown 6 = .ok (.invokestatic 140, 3) := by decide +kernel
theorem dX11_isTown_9 : decode cX11_isTown 9 = .ok (.ireturn, 1) := by decide +kernel
theorem dX11_isPit_0 : decode cX11_isPit 0 = .ok (.iload_n 1, 1) := by decide +kernel
theorem dX11_isPit_1 : decode cX11_isPit 1 = .ok (.i2l, 1) := by decide +kernel
theorem dX11_isPit_2 : decode cX11_isPit 2 = .ok (.lconst 0, 1) := by decide +kernel
theorem dX11_isPit_3 : decode cX11_isPit 3 = .ok (.aload_n 0, 1) := by decide +kernel
theorem dX11_isPit_4 : decode cX11_isPit 4 = .ok (.getfield 144, 3) := by decide +kernel
theorem dX11_isPit_7 : decode cX11_isPit 7 = .ok (.iconst 1, 1) := by decide +kernel
theorem dX11_isPit_8 : decode cX11_isPit 8 = .ok (.isub, 1) := by decide +kernel
theorem dX11_isPit_9 : decode cX11_isPit 9 = .ok (.i2l, 1) := by decide +kernel
theorem dX11_isPit_10 : decode cX11_isPit 10 = .ok (.invokestatic 140, 3) := by decide +kernel
theorem dX11_isPit_13 : decode cX11_isPit 13 = .ok (.ireturn, 1) := by decide +kernel
theorem dX11_isPlace_0 : decode cX11_isPlace 0 = .ok (.iload_n 0, 1) := by decide +kernel
theorem dX11_isPlace_1 : decode cX11_isPlace 1 = .ok (.i2l, 1) := by decide +kernel
theorem dX11_isPlace_2 : decode cX11_isPlace 2 = .ok (.lconst 0, 1) := by decide +kernel
theorem dX11_isPlace_3 : decode cX11_isPlace 3 = .ok (.ldc2_w 148, 3) := by decide +kernel
theorem dX11_isPlace_6 : decode cX11_isPlace 6 = .ok (.invokestatic 140, 3) := by decide +kernel
theorem dX11_isPlace_9 : decode cX11_isPlace 9 = .ok (.ifCond .eq 19, 3) := by decide +kernel
theorem dX11_isPlace_12 : decode cX11_isPlace 12 = .ok (.iload_n 1, 1) := by decide +kernel
theorem dX11_isPlace_13 : decode cX11_isPlace 13 = .ok (.i2l, 1) := by decide +kernel
theorem dX11_isPlace_14 : decode cX11_isPlace 14 = .ok (.lconst 0, 1) := by decide +kernel
theorem dX11_isPlace_15 : decode cX11_isPlace 15 = .ok (.ldc2_w 148, 3) := by decide +kernel
theorem dX11_isPlace_18 : decode cX11_isPlace 18 = .ok (.invokestatic 140, 3) := by decide +kernel
theorem dX11_isPlace_21 : decode cX11_isPlace 21 = .ok (.ifCond .eq 7, 3) := by decide +kernel
theorem dX11_isPlace_24 : decode cX11_isPlace 24 = .ok (.iconst 1, 1) := by decide +kernel
theorem dX11_isPlace_25 : decode cX11_isPlace 25 = .ok (.goto 4, 3) := by decide +kernel
theorem dX11_isPlace_28 : decode cX11_isPlace 28 = .ok (.iconst 0, 1) := by decide +kernel
theorem dX11_isPlace_29 : decode cX11_isPlace 29 = .ok (.ireturn, 1) := by decide +kernel
theorem dX11_town_0 : decode cX11_town 0 = .ok (.iload_n 1, 1) := by decide +kernel
theorem dX11_town_1 : decode cX11_town 1 = .ok (.invokestatic 150, 3) := by decide +kernel
theorem dX11_town_4 : decode cX11_town 4 = .ok (.ifCond .ne 5, 3) := by decide +kernel
theorem dX11_town_7 : decode cX11_town 7 = .ok (.iconst (-1), 1) := by decide +kernel
theorem dX11_town_8 : decode cX11_town 8 = .ok (.ireturn, 1) := by decide +kernel
theorem dX11_town_9 : decode cX11_town 9 = .ok (.iload_n 2, 1) := by decide +kernel
theorem dX11_town_10 : decode cX11_town 10 = .ok (.iload_n 3, 1) := by decide +kernel
theorem dX11_town_11 : decode cX11_town 11 = .ok (.invokestatic 154, 3) := by decide +kernel
theorem dX11_town_14 : decode cX11_town 14 = .ok (.ifCond .ne 6, 3) := by decide +kernel
theorem dX11_town_17 : decode cX11_town 17 = .ok (.bipush (-2), 2) := by decide +kernel
theorem dX11_town_19 : decode cX11_town 19 = .ok (.ireturn, 1) := by decide +kernel
theorem dX11_town_20 : decode cX11_town 20 = .ok (.aload_n 0, 1) := by decide +kernel
theorem dX11_town_21 : decode cX11_town 21 = .ok (.getfield 7, 3) := by decide +kernel
theorem dX11_town_24 : decode cX11_town 24 = .ok (.iload_n 1, 1) := by decide +kernel
theorem dX11_town_25 : decode cX11_town 25 = .ok (.iload_n 2, 1) := by decide +kernel
theorem dX11_town_26 : decode cX11_town 26 = .ok (.iastore, 1) := by decide +kernel
theorem dX11_town_27 : decode cX11_town 27 = .ok (.aload_n 0, 1) := by decide +kernel
theorem dX11_town_28 : decode cX11_town 28 = .ok (.getfield 13, 3) := by decide +kernel
theorem dX11_town_31 : decode cX11_town 31 = .ok (.iload_n 1, 1) := by decide +kernel
theorem dX11_town_32 : decode cX11_town 32 = .ok (.iload_n 3, 1) := by decide +kernel
theorem dX11_town_33 : decode cX11_town 33 = .ok (.iastore, 1) := by decide +kernel
theorem dX11_town_34 : decode cX11_town 34 = .ok (.iconst 1, 1) := by decide +kernel
theorem dX11_town_35 : decode cX11_town 35 = .ok (.ireturn, 1) := by decide +kernel
theorem dX11_pit_0 : decode cX11_pit 0 = .ok (.iload_n 1, 1) := by decide +kernel
theorem dX11_pit_1 : decode cX11_pit 1 = .ok (.iload_n 2, 1) := by decide +kernel
theorem dX11_pit_2 : decode cX11_pit 2 = .ok (.invokestatic 154, 3) := by decide +kernel
theorem dX11_pit_5 : decode cX11_pit 5 = .ok (.ifCond .eq 41, 3) := by decide +kernel
theorem dX11_pit_8 : decode cX11_pit 8 = .ok (.iload_n 3, 1) := by decide +kernel
theorem dX11_pit_9 : decode cX11_pit 9 = .ok (.i2l, 1) := by decide +kernel
theorem dX11_pit_10 : decode cX11_pit 10 = .ok (.lconst 0, 1) := by decide +kernel
theorem dX11_pit_11 : decode cX11_pit 11 = .ok (.ldc2_w 158, 3) := by decide +kernel
theorem dX11_pit_14 : decode cX11_pit 14 = .ok (.invokestatic 140, 3) := by decide +kernel
theorem dX11_pit_17 : decode cX11_pit 17 = .ok (.ifCond .eq 29, 3) := by decide +kernel
theorem dX11_pit_20 : decode cX11_pit 20 = .ok (.iload 4, 2) := by decide +kernel
theorem dX11_pit_22 : decode cX11_pit 22 = .ok (.i2l, 1) := by decide +kernel
theorem dX11_pit_23 : decode cX11_pit 23 = .ok (.lconst 0, 1) := by decide +kernel
theorem dX11_pit_24 : decode cX11_pit 24 = .ok (.ldc2_w 160, 3) := by decide +kernel
theorem dX11_pit_27 : decode cX11_pit 27 = .ok (.invokestatic 140, 3) := by decide +kernel
theorem dX11_pit_30 : decode cX11_pit 30 = .ok (.ifCond .eq 16, 3) := by decide +kernel
theorem dX11_pit_33 : decode cX11_pit 33 = .ok (.iload 5, 2) := by decide +kernel
theorem dX11_pit_35 : decode cX11_pit 35 = .ok (.i2l, 1) := by decide +kernel
theorem dX11_pit_36 : decode cX11_pit 36 = .ok (.lconst 1, 1) := by decide +kernel
theorem dX11_pit_37 : decode cX11_pit 37 = .ok (.ldc2_w 158, 3) := by decide +kernel
theorem dX11_pit_40 : decode cX11_pit 40 = .ok (.invokestatic 140, 3) := by decide +kernel
theorem dX11_pit_43 : decode cX11_pit 43 = .ok (.ifCond .ne 6, 3) := by decide +kernel
theorem dX11_pit_46 : decode cX11_pit 46 = .ok (.bipush (-2), 2) := by decide +kernel
theorem dX11_pit_48 : decode cX11_pit 48 = .ok (.ireturn, 1) := by decide +kernel
theorem dX11_pit_49 : decode cX11_pit 49 = .ok (.aload_n 0, 1) := by decide +kernel
theorem dX11_pit_50 : decode cX11_pit 50 = .ok (.getfield 144, 3) := by decide +kernel
theorem dX11_pit_53 : decode cX11_pit 53 = .ok (.bipush 8, 2) := by decide +kernel
theorem dX11_pit_55 : decode cX11_pit 55 = .ok (.if_icmp .ne 6, 3) := by decide +kernel
theorem dX11_pit_58 : decode cX11_pit 58 = .ok (.bipush (-4), 2) := by decide +kernel
theorem dX11_pit_60 : decode cX11_pit 60 = .ok (.ireturn, 1) := by decide +kernel
theorem dX11_pit_61 : decode cX11_pit 61 = .ok (.aload_n 0, 1) := by decide +kernel
theorem dX11_pit_62 : decode cX11_pit 62 = .ok (.getfield 16, 3) := by decide +kernel
theorem dX11_pit_65 : decode cX11_pit 65 = .ok (.aload_n 0, 1) := by decide +kernel
theorem dX11_pit_66 : decode cX11_pit 66 = .ok (.getfield 144, 3) := by decide +kernel
theorem dX11_pit_69 : decode cX11_pit 69 = .ok (.iload_n 1, 1) := by decide +kernel
theorem dX11_pit_70 : decode cX11_pit 70 = .ok (.iastore, 1) := by decide +kernel
theorem dX11_pit_71 : decode cX11_pit 71 = .ok (.aload_n 0, 1) := by decide +kernel
theorem dX11_pit_72 : decode cX11_pit 72 = .ok (.getfield 19, 3) := by decide +kernel
theorem dX11_pit_75 : decode cX11_pit 75 = .ok (.aload_n 0, 1) := by decide +kernel
theorem dX11_pit_76 : decode cX11_pit 76 = .ok (.getfield 144, 3) := by decide +kernel
theorem dX11_pit_79 : decode cX11_pit 79 = .ok (.iload_n 2, 1) := by decide +kernel
theorem dX11_pit_80 : decode cX11_pit 80 = .ok (.iastore, 1) := by decide +kernel
theorem dX11_pit_81 : decode cX11_pit 81 = .ok (.aload_n 0, 1) := by decide +kernel
theorem dX11_pit_82 : decode cX11_pit 82 = .ok (.getfield 22, 3) := by decide +kernel
theorem dX11_pit_85 : decode cX11_pit 85 = .ok (.aload_n 0, 1) := by decide +kernel
theorem dX11_pit_86 : decode cX11_pit 86 = .ok (.getfield 144, 3) := by decide +kernel
theorem dX11_pit_89 : decode cX11_pit 89 = .ok (.iload_n 3, 1) := by decide +kernel
theorem dX11_pit_90 : decode cX11_pit 90 = .ok (.iastore, 1) := by decide +kernel
theorem dX11_pit_91 : decode cX11_pit 91 = .ok (.aload_n 0, 1) := by decide +kernel
theorem dX11_pit_92 : decode cX11_pit 92 = .ok (.getfield 25, 3) := by decide +kernel
theorem dX11_pit_95 : decode cX11_pit 95 = .ok (.aload_n 0, 1) := by decide +kernel
theorem dX11_pit_96 : decode cX11_pit 96 = .ok (.getfield 144, 3) := by decide +kernel
theorem dX11_pit_99 : decode cX11_pit 99 = .ok (.iload 4, 2) := by decide +kernel
theorem dX11_pit_101 : decode cX11_pit 101 = .ok (.iastore, 1) := by decide +kernel
theorem dX11_pit_102 : decode cX11_pit 102 = .ok (.aload_n 0, 1) := by decide +kernel
theorem dX11_pit_103 : decode cX11_pit 103 = .ok (.getfield 28, 3) := by decide +kernel
theorem dX11_pit_106 : decode cX11_pit 106 = .ok (.aload_n 0, 1) := by decide +kernel
theorem dX11_pit_107 : decode cX11_pit 107 = .ok (.getfield 144, 3) := by decide +kernel
theorem dX11_pit_110 : decode cX11_pit 110 = .ok (.iload 5, 2) := by decide +kernel
theorem dX11_pit_112 : decode cX11_pit 112 = .ok (.iastore, 1) := by decide +kernel
theorem dX11_pit_113 : decode cX11_pit 113 = .ok (.aload_n 0, 1) := by decide +kernel
theorem dX11_pit_114 : decode cX11_pit 114 = .ok (.getfield 31, 3) := by decide +kernel
theorem dX11_pit_117 : decode cX11_pit 117 = .ok (.aload_n 0, 1) := by decide +kernel
theorem dX11_pit_118 : decode cX11_pit 118 = .ok (.getfield 144, 3) := by decide +kernel
theorem dX11_pit_121 : decode cX11_pit 121 = .ok (.iconst 1, 1) := by decide +kernel
theorem dX11_pit_122 : decode cX11_pit 122 = .ok (.bastore, 1) := by decide +kernel
theorem dX11_pit_123 : decode cX11_pit 123 = .ok (.aload_n 0, 1) := by decide +kernel
theorem dX11_pit_124 : decode cX11_pit 124 = .ok (.getfield 96, 3) := by decide +kernel
theorem dX11_pit_127 : decode cX11_pit 127 = .ok (.aload_n 0, 1) := by decide +kernel
theorem dX11_pit_128 : decode cX11_pit 128 = .ok (.getfield 144, 3) := by decide +kernel
theorem dX11_pit_131 : decode cX11_pit 131 = .ok (.iconst 1, 1) := by decide +kernel
theorem dX11_pit_132 : decode cX11_pit 132 = .ok (.bastore, 1) := by decide +kernel
theorem dX11_pit_133 : decode cX11_pit 133 = .ok (.aload_n 0, 1) := by decide +kernel
theorem dX11_pit_134 : decode cX11_pit 134 = .ok (.getfield 99, 3) := by decide +kernel
theorem dX11_pit_137 : decode cX11_pit 137 = .ok (.aload_n 0, 1) := by decide +kernel
theorem dX11_pit_138 : decode cX11_pit 138 = .ok (.getfield 144, 3) := by decide +kernel
theorem dX11_pit_141 : decode cX11_pit 141 = .ok (.bipush (-6), 2) := by decide +kernel
theorem dX11_pit_143 : decode cX11_pit 143 = .ok (.iastore, 1) := by decide +kernel
theorem dX11_pit_144 : decode cX11_pit 144 = .ok (.aload_n 0, 1) := by decide +kernel
theorem dX11_pit_145 : decode cX11_pit 145 = .ok (.getfield 123, 3) := by decide +kernel
theorem dX11_pit_148 : decode cX11_pit 148 = .ok (.aload_n 0, 1) := by decide +kernel
theorem dX11_pit_149 : decode cX11_pit 149 = .ok (.getfield 144, 3) := by decide +kernel
theorem dX11_pit_152 : decode cX11_pit 152 = .ok (.bipush 99, 2) := by decide +kernel
theorem dX11_pit_154 : decode cX11_pit 154 = .ok (.iastore, 1) := by decide +kernel
theorem dX11_pit_155 : decode cX11_pit 155 = .ok (.aload_n 0, 1) := by decide +kernel
theorem dX11_pit_156 : decode cX11_pit 156 = .ok (.dup, 1) := by decide +kernel
theorem dX11_pit_157 : decode cX11_pit 157 = .ok (.getfield 144, 3) := by decide +kernel
theorem dX11_pit_160 : decode cX11_pit 160 = .ok (.iconst 1, 1) := by decide +kernel
theorem dX11_pit_161 : decode cX11_pit 161 = .ok (.iadd, 1) := by decide +kernel
theorem dX11_pit_162 : decode cX11_pit 162 = .ok (.putfield 144, 3) := by decide +kernel
theorem dX11_pit_165 : decode cX11_pit 165 = .ok (.aload_n 0, 1) := by decide +kernel
theorem dX11_pit_166 : decode cX11_pit 166 = .ok (.getfield 144, 3) := by decide +kernel
theorem dX11_pit_169 : decode cX11_pit 169 = .ok (.iconst 1, 1) := by decide +kernel
theorem dX11_pit_170 : decode cX11_pit 170 = .ok (.isub, 1) := by decide +kernel
theorem dX11_pit_171 : decode cX11_pit 171 = .ok (.ireturn, 1) := by decide +kernel
theorem dX11_farTo_0 : decode cX11_farTo 0 = .ok (.aload_n 0, 1) := by decide +kernel
theorem dX11_farTo_1 : decode cX11_farTo 1 = .ok (.getfield 7, 3) := by decide +kernel
theorem dX11_farTo_4 : decode cX11_farTo 4 = .ok (.iload_n 1, 1) := by decide +kernel
theorem dX11_farTo_5 : decode cX11_farTo 5 = .ok (.iaload, 1) := by decide +kernel
theorem dX11_farTo_6 : decode cX11_farTo 6 = .ok (.aload_n 0, 1) := by decide +kernel
theorem dX11_farTo_7 : decode cX11_farTo 7 = .ok (.getfield 16, 3) := by decide +kernel
theorem dX11_farTo_10 : decode cX11_farTo 10 = .ok (.iload_n 2, 1) := by decide +kernel
theorem dX11_farTo_11 : decode cX11_farTo 11 = .ok (.iaload, 1) := by decide +kernel
theorem dX11_farTo_12 : decode cX11_farTo 12 = .ok (.isub, 1) := by decide +kernel
theorem dX11_farTo_13 : decode cX11_farTo 13 = .ok (.invokestatic 162, 3) := by decide +kernel
theorem dX11_farTo_16 : decode cX11_farTo 16 = .ok (.aload_n 0, 1) := by decide +kernel
theorem dX11_farTo_17 : decode cX11_farTo 17 = .ok (.getfield 13, 3) := by decide +kernel
theorem dX11_farTo_20 : decode cX11_farTo 20 = .ok (.iload_n 1, 1) := by decide +kernel
theorem dX11_farTo_21 : decode cX11_farTo 21 = .ok (.iaload, 1) := by decide +kernel
theorem dX11_farTo_22 : decode cX11_farTo 22 = .ok (.aload_n 0, 1) := by decide +kernel
theorem dX11_farTo_23 : decode cX11_farTo 23 = .ok (.getfield 19, 3) := by decide +kernel
theorem dX11_farTo_26 : decode cX11_farTo 26 = .ok (.iload_n 2, 1) := by decide +kernel
theorem dX11_farTo_27 : decode cX11_farTo 27 = .ok (.iaload, 1) := by decide +kernel
theorem dX11_farTo_28 : decode cX11_farTo 28 = .ok (.isub, 1) := by decide +kernel
theorem dX11_farTo_29 : decode cX11_farTo 29 = .ok (.invokestatic 162, 3) := by decide +kernel
theorem dX11_farTo_32 : decode cX11_farTo 32 = .ok (.iadd, 1) := by decide +kernel
theorem dX11_farTo_33 : decode cX11_farTo 33 = .ok (.ireturn, 1) := by decide +kernel
theorem dX11_menAt_0 : decode cX11_menAt 0 = .ok (.iconst 0, 1) := by decide +kernel
theorem dX11_menAt_1 : decode cX11_menAt 1 = .ok (.istore_n 2, 1) := by decide +kernel
theorem dX11_menAt_2 : decode cX11_menAt 2 = .ok (.iconst 0, 1) := by decide +kernel
theorem dX11_menAt_3 : decode cX11_menAt 3 = .ok (.istore_n 3, 1) := by decide +kernel
theorem dX11_menAt_4 : decode cX11_menAt 4 = .ok (.iload_n 3, 1) := by decide +kernel
theorem dX11_menAt_5 : decode cX11_menAt 5 = .ok (.aload_n 0, 1) := by decide +kernel
theorem dX11_menAt_6 : decode cX11_menAt 6 = .ok (.getfield 166, 3) := by decide +kernel
theorem dX11_menAt_9 : decode cX11_menAt 9 = .ok (.if_icmp .ge 27, 3) := by decide +kernel
theorem dX11_menAt_12 : decode cX11_menAt 12 = .ok (.iload_n 2, 1) := by decide +kernel
theorem dX11_menAt_13 : decode cX11_menAt 13 = .ok (.aload_n 0, 1) := by decide +kernel
theorem dX11_menAt_14 : decode cX11_menAt 14 = .ok (.getfield 50, 3) := by decide +kernel
theorem dX11_menAt_17 : decode cX11_menAt 17 = .ok (.iload_n 3, 1) := by decide +kernel
theorem dX11_menAt_18 : decode cX11_menAt 18 = .ok (.iaload, 1) := by decide +kernel
theorem dX11_menAt_19 : decode cX11_menAt 19 = .ok (.iload_n 1, 1) := by decide +kernel
theorem dX11_menAt_20 : decode cX11_menAt 20 = .ok (.if_icmp .ne 7, 3) := by decide +kernel
theorem dX11_menAt_23 : decode cX11_menAt 23 = .ok (.iconst 1, 1) := by decide +kernel
theorem dX11_menAt_24 : decode cX11_menAt 24 = .ok (.goto 4, 3) := by decide +kernel
theorem dX11_menAt_27 : decode cX11_menAt 27 = .ok (.iconst 0, 1) := by decide +kernel
theorem dX11_menAt_28 : decode cX11_menAt 28 = .ok (.iadd, 1) := by decide +kernel
theorem dX11_menAt_29 : decode cX11_menAt 29 = .ok (.istore_n 2, 1) := by decide +kernel
theorem dX11_menAt_30 : decode cX11_menAt 30 = .ok (.iinc 3 1, 3) := by decide +kernel
theorem dX11_menAt_33 : decode cX11_menAt 33 = .ok (.goto (-29), 3) := by decide +kernel
theorem dX11_menAt_36 : decode cX11_menAt 36 = .ok (.iload_n 2, 1) := by decide +kernel
theorem dX11_menAt_37 : decode cX11_menAt 37 = .ok (.ireturn, 1) := by decide +kernel
theorem dX11_about_0 : decode cX11_about 0 = .ok (.aload_n 0, 1) := by decide +kernel
theorem dX11_about_1 : decode cX11_about 1 = .ok (.iload_n 1, 1) := by decide +kernel
theorem dX11_about_2 : decode cX11_about 2 = .ok (.invokevirtual 169, 3) := by decide +kernel
theorem dX11_about_5 : decode cX11_about 5 = .ok (.ifCond .ne 5, 3) := by decide +kernel
theorem dX11_about_8 : decode cX11_about 8 = .ok (.iconst (-1), 1) := by decide +kernel
theorem dX11_about_9 : decode cX11_about 9 = .ok (.ireturn, 1) := by decide +kernel
theorem dX11_about_10 : decode cX11_about 10 = .ok (.iload_n 2, 1) := by decide +kernel
theorem dX11_about_11 : decode cX11_about 11 = .ok (.tableswitch 138 0 9 #[53, 60, 67, 74, 81, 88, 103, 109, 116, 123], 53) := by decide +kernel
theorem dX11_about_64 : decode cX11_about 64 = .ok (.aload_n 0, 1) := by decide +kernel
theorem dX11_about_65 : decode cX11_about 65 = .ok (.getfield 16, 3) := by decide +kernel
theorem dX11_about_68 : decode cX11_about 68 = .ok (.iload_n 1, 1) := by decide +kernel
theorem dX11_about_69 : decode cX11_about 69 = .ok (.iaload, 1) := by decide +kernel
theorem dX11_about_70 : decode cX11_about 70 = .ok (.ireturn, 1) := by decide +kernel
theorem dX11_about_71 : decode cX11_about 71 = .ok (.aload_n 0, 1) := by decide +kernel
theorem dX11_about_72 : decode cX11_about 72 = .ok (.getfield 19, 3) := by decide +kernel
theorem dX11_about_75 : decode cX11_about 75 = .ok (.iload_n 1, 1) := by decide +kernel
theorem dX11_about_76 : decode cX11_about 76 = .ok (.iaload, 1) := by decide +kernel
theorem dX11_about_77 : decode cX11_about 77 = .ok (.ireturn, 1) := by decide +kernel
theorem dX11_about_78 : decode cX11_about 78 = .ok (.aload_n 0, 1) := by decide +kernel
theorem dX11_about_79 : decode cX11_about 79 = .ok (.getfield 22, 3) := by decide +kernel
theorem dX11_about_82 : decode cX11_about 82 = .ok (.iload_n 1, 1) := by decide +kernel
theorem dX11_about_83 : decode cX11_about 83 = .ok (.iaload, 1) := by decide +kernel
theorem dX11_about_84 : decode cX11_about 84 = .ok (.ireturn, 1) := by decide +kernel
theorem dX11_about_85 : decode cX11_about 85 = .ok (.aload_n 0, 1) := by decide +kernel
theorem dX11_about_86 : decode cX11_about 86 = .ok (.getfield 25, 3) := by decide +kernel
theorem dX11_about_89 : decode cX11_about 89 = .ok (.iload_n 1, 1) := by decide +kernel
theorem dX11_about_90 : decode cX11_about 90 = .ok (.iaload, 1) := by decide +kernel
theorem dX11_about_91 : decode cX11_about 91 = .ok (.ireturn, 1) := by decide +kernel
theorem dX11_about_92 : decode cX11_about 92 = .ok (.aload_n 0, 1) := by decide +kernel
theorem dX11_about_93 : decode cX11_about 93 = .ok (.getfield 28, 3) := by decide +kernel
theorem dX11_about_96 : decode cX11_about 96 = .ok (.iload_n 1, 1) := by decide +kernel
theorem dX11_about_97 : decode cX11_about 97 = .ok (.iaload, 1) := by decide +kernel
theorem dX11_about_98 : decode cX11_about 98 = .ok (.ireturn, 1) := by decide +kernel
theorem dX11_about_99 : decode cX11_about 99 = .ok (.aload_n 0, 1) := by decide +kernel
theorem dX11_about_100 : decode cX11_about 100 = .ok (.getfield 31, 3) := by decide +kernel
theorem dX11_about_103 : decode cX11_about 103 = .ok (.iload_n 1, 1) := by decide +kernel
theorem dX11_about_104 : decode cX11_about 104 = .ok (.baload, 1) := by decide +kernel
theorem dX11_about_105 : decode cX11_about 105 = .ok (.ifCond .eq 7, 3) := by decide +kernel
theorem dX11_about_108 : decode cX11_about 108 = .ok (.iconst 1, 1) := by decide +kernel
theorem dX11_about_109 : decode cX11_about 109 = .ok (.goto 4, 3) := by decide +kernel
theorem dX11_about_112 : decode cX11_about 112 = .ok (.iconst 0, 1) := by decide +kernel
theorem dX11_about_113 : decode cX11_about 113 = .ok (.ireturn, 1) := by decide +kernel
theorem dX11_about_114 : decode cX11_about 114 = .ok (.aload_n 0, 1) := by decide +kernel
theorem dX11_about_115 : decode cX11_about 115 = .ok (.iload_n 1, 1) := by decide +kernel
theorem dX11_about_116 : decode cX11_about 116 = .ok (.invokevirtual 172, 3) := by decide +kernel
theorem dX11_about_119 : decode cX11_about 119 = .ok (.ireturn, 1) := by decide +kernel
theorem dX11_about_120 : decode cX11_about 120 = .ok (.aload_n 0, 1) := by decide +kernel
theorem dX11_about_121 : decode cX11_about 121 = .ok (.getfield 93, 3) := by decide +kernel
theorem dX11_about_124 : decode cX11_about 124 = .ok (.iload_n 1, 1) := by decide +kernel
theorem dX11_about_125 : decode cX11_about 125 = .ok (.iaload, 1) := by decide +kernel
theorem dX11_about_126 : decode cX11_about 126 = .ok (.ireturn, 1) := by decide +kernel
theorem dX11_about_127 : decode cX11_about 127 = .ok (.aload_n 0, 1) := by decide +kernel
theorem dX11_about_128 : decode cX11_about 128 = .ok (.getfield 99, 3) := by decide +kernel
theorem dX11_about_131 : decode cX11_about 131 = .ok (.iload_n 1, 1) := by decide +kernel
theorem dX11_about_132 : decode cX11_about 132 = .ok (.iaload, 1) := by decide +kernel
theorem dX11_about_133 : decode cX11_about 133 = .ok (.ireturn, 1) := by decide +kernel
theorem dX11_about_134 : decode cX11_about 134 = .ok (.aload_n 0, 1) := by decide +kernel
theorem dX11_about_135 : decode cX11_about 135 = .ok (.getfield 96, 3) := by decide +kernel
theorem dX11_about_138 : decode cX11_about 138 = .ok (.iload_n 1, 1) := by decide +kernel
theorem dX11_about_139 : decode cX11_about 139 = .ok (.baload, 1) := by decide +kernel
theorem dX11_about_140 : decode cX11_about 140 = .ok (.ifCond .eq 7, 3) := by decide +kernel
theorem dX11_about_143 : decode cX11_about 143 = .ok (.iconst 1, 1) := by decide +kernel
theorem dX11_about_144 : decode cX11_about 144 = .ok (.goto 4, 3) := by decide +kernel
theorem dX11_about_147 : decode cX11_about 147 = .ok (.iconst 0, 1) := by decide +kernel
theorem dX11_about_148 : decode cX11_about 148 = .ok (.ireturn, 1) := by decide +kernel
theorem dX11_about_149 : decode cX11_about 149 = .ok (.iload_n 2, 1) := by decide +kernel
theorem dX11_about_150 : decode cX11_about 150 = .ok (.i2l, 1) := by decide +kernel
theorem dX11_about_151 : decode cX11_about 151 = .ok (.ldc2_w 175, 3) := by decide +kernel
theorem dX11_about_154 : decode cX11_about 154 = .ok (.ldc2_w 177, 3) := by decide +kernel
theorem dX11_about_157 : decode cX11_about 157 = .ok (.invokestatic 140, 3) := by decide +kernel
theorem dX11_about_160 : decode cX11_about 160 = .ok (.ifCond .eq 19, 3) := by decide +kernel
theorem dX11_about_163 : decode cX11_about 163 = .ok (.aload_n 0, 1) := by decide +kernel
theorem dX11_about_164 : decode cX11_about 164 = .ok (.getfield 35, 3) := by decide +kernel
theorem dX11_about_167 : decode cX11_about 167 = .ok (.iconst 3, 1) := by decide +kernel
theorem dX11_about_168 : decode cX11_about 168 = .ok (.iload_n 1, 1) := by decide +kernel
theorem dX11_about_169 : decode cX11_about 169 = .ok (.imul, 1) := by decide +kernel
theorem dX11_about_170 : decode cX11_about 170 = .ok (.iload_n 2, 1) := by decide +kernel
theorem dX11_about_171 : decode cX11_about 171 = .ok (.iadd, 1) := by decide +kernel
theorem dX11_about_172 : decode cX11_about 172 = .ok (.bipush 10, 2) := by decide +kernel
theorem dX11_about_174 : decode cX11_about 174 = .ok (.isub, 1) := by decide +kernel
theorem dX11_about_175 : decode cX11_about 175 = .ok (.iaload, 1) := by decide +kernel
theorem dX11_about_176 : decode cX11_about 176 = .ok (.goto 5, 3) := by decide +kernel
theorem dX11_about_179 : decode cX11_about 179 = .ok (.bipush (-2), 2) := by decide +kernel
theorem dX11_about_181 : decode cX11_about 181 = .ok (.ireturn, 1) := by decide +kernel
theorem dX11_man_0 : decode cX11_man 0 = .ok (.iload 4, 2) := by decide +kernel
theorem dX11_man_2 : decode cX11_man 2 = .ok (.invokestatic 150, 3) := by decide +kernel
theorem dX11_man_5 : decode cX11_man 5 = .ok (.ifCond .eq 12, 3) := by decide +kernel
theorem dX11_man_8 : decode cX11_man 8 = .ok (.aload_n 0, 1) := by decide +kernel
theorem dX11_man_9 : decode cX11_man 9 = .ok (.iload 5, 2) := by decide +kernel
theorem dX11_man_11 : decode cX11_man 11 = .ok (.invokevirtual 169, 3) := by decide +kernel
theorem dX11_man_14 : decode cX11_man 14 = .ok (.ifCond .ne 5, 3) := by decide +kernel
theorem dX11_man_17 : decode cX11_man 17 = .ok (.iconst (-1), 1) := by decide +kernel
theorem dX11_man_18 : decode cX11_man 18 = .ok (.ireturn, 1) := by decide +kernel
theorem dX11_man_19 : decode cX11_man 19 = .ok (.iload_n 1, 1) := by decide +kernel
theorem dX11_man_20 : decode cX11_man 20 = .ok (.i2l, 1) := by decide +kernel
theorem dX11_man_21 : decode cX11_man 21 = .ok (.ldc2_w 179, 3) := by decide +kernel
theorem dX11_man_24 : decode cX11_man 24 = .ok (.ldc2_w 181, 3) := by decide +kernel
theorem dX11_man_27 : decode cX11_man 27 = .ok (.invokestatic 140, 3) := by decide +kernel
theorem dX11_man_30 : decode cX11_man 30 = .ok (.ifCond .eq 27, 3) := by decide +kernel
theorem dX11_man_33 : decode cX11_man 33 = .ok (.iload_n 2, 1) := by decide +kernel
theorem dX11_man_34 : decode cX11_man 34 = .ok (.i2l, 1) := by decide +kernel
theorem dX11_man_35 : decode cX11_man 35 = .ok (.lconst 0, 1) := by decide +kernel
theorem dX11_man_36 : decode cX11_man 36 = .ok (.ldc2_w 183, 3) := by decide +kernel
theorem dX11_man_39 : decode cX11_man 39 = .ok (.invokestatic 140, 3) := by decide +kernel
theorem dX11_man_42 : decode cX11_man 42 = .ok (.ifCond .eq 15, 3) := by decide +kernel
theorem dX11_man_45 : decode cX11_man 45 = .ok (.iload_n 3, 1) := by decide +kernel
theorem dX11_man_46 : decode cX11_man 46 = .ok (.i2l, 1) := by decide +kernel
theorem dX11_man_47 : decode cX11_man 47 = .ok (.lconst 0, 1) := by decide +kernel
theorem dX11_man_48 : decode cX11_man 48 = .ok (.ldc2_w 185, 3) := by decide +kernel
theorem dX11_man_51 : decode cX11_man 51 = .ok (.invokestatic 140, 3) := by decide +kernel
theorem dX11_man_54 : decode cX11_man 54 = .ok (.ifCond .ne 6, 3) := by decide +kernel
theorem dX11_man_57 : decode cX11_man 57 = .ok (.bipush (-2), 2) := by decide +kernel
theorem dX11_man_59 : decode cX11_man 59 = .ok (.ireturn, 1) := by decide +kernel
theorem dX11_man_60 : decode cX11_man 60 = .ok (.aload_n 0, 1) := by decide +kernel
theorem dX11_man_61 : decode cX11_man 61 = .ok (.getfield 31, 3) := by decide +kernel
theorem dX11_man_64 : decode cX11_man 64 = .ok (.iload 5, 2) := by decide +kernel
theorem dX11_man_66 : decode cX11_man 66 = .ok (.baload, 1) := by decide +kernel
theorem dX11_man_67 : decode cX11_man 67 = .ok (.ifCond .ne 6, 3) := by decide +kernel
theorem dX11_man_70 : decode cX11_man 70 = .ok (.bipush (-3), 2) := by decide +kernel
theorem dX11_man_72 : decode cX11_man 72 = .ok (.ireturn, 1) := by decide +kernel
theorem dX11_man_73 : decode cX11_man 73 = .ok (.aload_n 0, 1) := by decide +kernel
theorem dX11_man_74 : decode cX11_man 74 = .ok (.getfield 166, 3) := by decide +kernel
theorem dX11_man_77 : decode cX11_man 77 = .ok (.bipush 24, 2) := by decide +kernel
theorem dX11_man_79 : decode cX11_man 79 = .ok (.if_icmp .ne 6, 3) := by decide +kernel
theorem dX11_man_82 : decode cX11_man 82 = .ok (.bipush (-4), 2) := by decide +kernel
theorem dX11_man_84 : decode cX11_man 84 = .ok (.ireturn, 1) := by decide +kernel
theorem dX11_man_85 : decode cX11_man 85 = .ok (.aload_n 0, 1) := by decide +kernel
theorem dX11_man_86 : decode cX11_man 86 = .ok (.getfield 38, 3) := by decide +kernel
theorem dX11_man_89 : decode cX11_man 89 = .ok (.aload_n 0, 1) := by decide +kernel
theorem dX11_man_90 : decode cX11_man 90 = .ok (.getfield 166, 3) := by decide +kernel
theorem dX11_man_93 : decode cX11_man 93 = .ok (.iload_n 1, 1) := by decide +kernel
theorem dX11_man_94 : decode cX11_man 94 = .ok (.iastore, 1) := by decide +kernel
theorem dX11_man_95 : decode cX11_man 95 = .ok (.aload_n 0, 1) := by decide +kernel
theorem dX11_man_96 : decode cX11_man 96 = .ok (.getfield 41, 3) := by decide +kernel
theorem dX11_man_99 : decode cX11_man 99 = .ok (.aload_n 0, 1) := by decide +kernel
theorem dX11_man_100 : decode cX11_man 100 = .ok (.getfield 166, 3) := by decide +kernel
theorem dX11_man_103 : decode cX11_man 103 = .ok (.iload_n 2, 1) := by decide +kernel
theorem dX11_man_104 : decode cX11_man 104 = .ok (.iastore, 1) := by decide +kernel
theorem dX11_man_105 : decode cX11_man 105 = .ok (.aload_n 0, 1) := by decide +kernel
theorem dX11_man_106 : decode cX11_man 106 = .ok (.getfield 44, 3) := by decide +kernel
theorem dX11_man_109 : decode cX11_man 109 = .ok (.aload_n 0, 1) := by decide +kernel
theorem dX11_man_110 : decode cX11_man 110 = .ok (.getfield 166, 3) := by decide +kernel
theorem dX11_man_113 : decode cX11_man 113 = .ok (.iload_n 3, 1) := by decide +kernel
theorem dX11_man_114 : decode cX11_man 114 = .ok (.iastore, 1) := by decide +kernel
theorem dX11_man_115 : decode cX11_man 115 = .ok (.aload_n 0, 1) := by decide +kernel
theorem dX11_man_116 : decode cX11_man 116 = .ok (.getfield 47, 3) := by decide +kernel
theorem dX11_man_119 : decode cX11_man 119 = .ok (.aload_n 0, 1) := by decide +kernel
theorem dX11_man_120 : decode cX11_man 120 = .ok (.getfield 166, 3) := by decide +kernel
theorem dX11_man_123 : decode cX11_man 123 = .ok (.iload 4, 2) := by decide +kernel
theorem dX11_man_125 : decode cX11_man 125 = .ok (.iastore, 1) := by decide +kernel
theorem dX11_man_126 : decode cX11_man 126 = .ok (.aload_n 0, 1) := by decide +kernel
theorem dX11_man_127 : decode cX11_man 127 = .ok (.getfield 50, 3) := by decide +kernel
theorem dX11_man_130 : decode cX11_man 130 = .ok (.aload_n 0, 1) := by decide +kernel
theorem dX11_man_131 : decode cX11_man 131 = .ok (.getfield 166, 3) := by decide +kernel
theorem dX11_man_134 : decode cX11_man 134 = .ok (.iload 5, 2) := by decide +kernel
theorem dX11_man_136 : decode cX11_man 136 = .ok (.iastore, 1) := by decide +kernel
theorem dX11_man_137 : decode cX11_man 137 = .ok (.aload_n 0, 1) := by decide +kernel
theorem dX11_man_138 : decode cX11_man 138 = .ok (.getfield 53, 3) := by decide +kernel
theorem dX11_man_141 : decode cX11_man 141 = .ok (.aload_n 0, 1) := by decide +kernel
theorem dX11_man_142 : decode cX11_man 142 = .ok (.getfield 166, 3) := by decide +kernel
theorem dX11_man_145 : decode cX11_man 145 = .ok (.iload 6, 2) := by decide +kernel
theorem dX11_man_147 : decode cX11_man 147 = .ok (.bastore, 1) := by decide +kernel
theorem dX11_man_148 : decode cX11_man 148 = .ok (.aload_n 0, 1) := by decide +kernel
theorem dX11_man_149 : decode cX11_man 149 = .ok (.getfield 56, 3) := by decide +kernel
theorem dX11_man_152 : decode cX11_man 152 = .ok (.aload_n 0, 1) := by decide +kernel
theorem dX11_man_153 : decode cX11_man 153 = .ok (.getfield 166, 3) := by decide +kernel
theorem dX11_man_156 : decode cX11_man 156 = .ok (.iconst 0, 1) := by decide +kernel
theorem dX11_man_157 : decode cX11_man 157 = .ok (.iastore, 1) := by decide +kernel
theorem dX11_man_158 : decode cX11_man 158 = .ok (.aload_n 0, 1) := by decide +kernel
theorem dX11_man_159 : decode cX11_man 159 = .ok (.dup, 1) := by decide +kernel
theorem dX11_man_160 : decode cX11_man 160 = .ok (.getfield 166, 3) := by decide +kernel
theorem dX11_man_163 : decode cX11_man 163 = .ok (.iconst 1, 1) := by decide +kernel
theorem dX11_man_164 : decode cX11_man 164 = .ok (.iadd, 1) := by decide +kernel
theorem dX11_man_165 : decode cX11_man 165 = .ok (.putfield 166, 3) := by decide +kernel
theorem dX11_man_168 : decode cX11_man 168 = .ok (.aload_n 0, 1) := by decide +kernel
theorem dX11_man_169 : decode cX11_man 169 = .ok (.getfield 166, 3) := by decide +kernel
theorem dX11_man_172 : decode cX11_man 172 = .ok (.iconst 1, 1) := by decide +kernel
theorem dX11_man_173 : decode cX11_man 173 = .ok (.isub, 1) := by decide +kernel
theorem dX11_man_174 : decode cX11_man 174 = .ok (.ireturn, 1) := by decide +kernel
theorem dX11_isMan_0 : decode cX11_isMan 0 = .ok (.iload_n 1, 1) := by decide +kernel
theorem dX11_isMan_1 : decode cX11_isMan 1 = .ok (.i2l, 1) := by decide +kernel
theorem dX11_isMan_2 : decode cX11_isMan 2 = .ok (.lconst 0, 1) := by decide +kernel
theorem dX11_isMan_3 : decode cX11_isMan 3 = .ok (.aload_n 0, 1) := by decide +kernel
theorem dX11_isMan_4 : decode cX11_isMan 4 = .ok (.getfield 166, 3) := by decide +kernel
theorem dX11_isMan_7 : decode cX11_isMan 7 = .ok (.iconst 1, 1) := by decide +kernel
theorem dX11_isMan_8 : decode cX11_isMan 8 = .ok (.isub, 1) := by decide +kernel
theorem dX11_isMan_9 : decode cX11_isMan 9 = .ok (.i2l, 1) := by decide +kernel
theorem dX11_isMan_10 : decode cX11_isMan 10 = .ok (.invokestatic 140, 3) := by decide +kernel
theorem dX11_isMan_13 : decode cX11_isMan 13 = .ok (.ireturn, 1) := by decide +kernel
theorem dX11_ofMan_0 : decode cX11_ofMan 0 = .ok (.aload_n 0, 1) := by decide +kernel
theorem dX11_ofMan_1 : decode cX11_ofMan 1 = .ok (.iload_n 1, 1) := by decide +kernel
theorem dX11_ofMan_2 : decode cX11_ofMan 2 = .ok (.invokevirtual 187, 3) := by decide +kernel
theorem dX11_ofMan_5 : decode cX11_ofMan 5 = .ok (.ifCond .ne 5, 3) := by decide +kernel
theorem dX11_ofMan_8 : decode cX11_ofMan 8 = .ok (.iconst (-1), 1) := by decide +kernel
theorem dX11_ofMan_9 : decode cX11_ofMan 9 = .ok (.ireturn, 1) := by decide +kernel
theorem dX11_ofMan_10 : decode cX11_ofMan 10 = .ok (.iload_n 2, 1) := by decide +kernel
theorem dX11_ofMan_11 : decode cX11_ofMan 11 = .ok (.tableswitch 98 0 6 #[41, 48, 55, 62, 69, 76, 91], 41) := by decide +kernel
theorem dX11_ofMan_52 : decode cX11_ofMan 52 = .ok (.aload_n 0, 1) := by decide +kernel
theorem dX11_ofMan_53 : decode cX11_ofMan 53 = .ok (.getfield 38, 3) := by decide +kernel
theorem dX11_ofMan_56 : decode cX11_ofMan 56 = .ok (.iload_n 1, 1) := by decide +kernel
theorem dX11_ofMan_57 : decode cX11_ofMan 57 = .ok (.iaload, 1) := by decide +kernel
theorem dX11_ofMan_58 : decode cX11_ofMan 58 = .ok (.ireturn, 1) := by decide +kernel
theorem dX11_ofMan_59 : decode cX11_ofMan 59 = .ok (.aload_n 0, 1) := by decide +kernel
theorem dX11_ofMan_60 : decode cX11_ofMan 60 = .ok (.getfield 41, 3) := by decide +kernel
theorem dX11_ofMan_63 : decode cX11_ofMan 63 = .ok (.iload_n 1, 1) := by decide +kernel
theorem dX11_ofMan_64 : decode cX11_ofMan 64 = .ok (.iaload, 1) := by decide +kernel
theorem dX11_ofMan_65 : decode cX11_ofMan 65 = .ok (.ireturn, 1) := by decide +kernel
theorem dX11_ofMan_66 : decode cX11_ofMan 66 = .ok (.aload_n 0, 1) := by decide +kernel
theorem dX11_ofMan_67 : decode cX11_ofMan 67 = .ok (.getfield 44, 3) := by decide +kernel
theorem dX11_ofMan_70 : decode cX11_ofMan 70 = .ok (.iload_n 1, 1) := by decide +kernel
theorem dX11_ofMan_71 : decode cX11_ofMan 71 = .ok (.iaload, 1) := by decide +kernel
theorem dX11_ofMan_72 : decode cX11_ofMan 72 = .ok (.ireturn, 1) := by decide +kernel
theorem dX11_ofMan_73 : decode cX11_ofMan 73 = .ok (.aload_n 0, 1) := by decide +kernel
theorem dX11_ofMan_74 : decode cX11_ofMan 74 = .ok (.getfield 47, 3) := by decide +kernel
theorem dX11_ofMan_77 : decode cX11_ofMan 77 = .ok (.iload_n 1, 1) := by decide +kernel
theorem dX11_ofMan_78 : decode cX11_ofMan 78 = .ok (.iaload, 1) := by decide +kernel
theorem dX11_ofMan_79 : decode cX11_ofMan 79 = .ok (.ireturn, 1) := by decide +kernel
theorem dX11_ofMan_80 : decode cX11_ofMan 80 = .ok (.aload_n 0, 1) := by decide +kernel
theorem dX11_ofMan_81 : decode cX11_ofMan 81 = .ok (.getfield 50, 3) := by decide +kernel
theorem dX11_ofMan_84 : decode cX11_ofMan 84 = .ok (.iload_n 1, 1) := by decide +kernel
theorem dX11_ofMan_85 : decode cX11_ofMan 85 = .ok (.iaload, 1) := by decide +kernel
theorem dX11_ofMan_86 : decode cX11_ofMan 86 = .ok (.ireturn, 1) := by decide +kernel
theorem dX11_ofMan_87 : decode cX11_ofMan 87 = .ok (.aload_n 0, 1) := by decide +kernel
theorem dX11_ofMan_88 : decode cX11_ofMan 88 = .ok (.getfield 53, 3) := by decide +kernel
theorem dX11_ofMan_91 : decode cX11_ofMan 91 = .ok (.iload_n 1, 1) := by decide +kernel
theorem dX11_ofMan_92 : decode cX11_ofMan 92 = .ok (.baload, 1) := by decide +kernel
theorem dX11_ofMan_93 : decode cX11_ofMan 93 = .ok (.ifCond .eq 7, 3) := by decide +kernel
theorem dX11_ofMan_96 : decode cX11_ofMan 96 = .ok (.iconst 1, 1) := by decide +kernel
theorem dX11_ofMan_97 : decode cX11_ofMan 97 = .ok (.goto 4, 3) := by decide +kernel
theorem dX11_ofMan_100 : decode cX11_ofMan 100 = .ok (.iconst 0, 1) := by decide +kernel
theorem dX11_ofMan_101 : decode cX11_ofMan 101 = .ok (.ireturn, 1) := by decide +kernel
theorem dX11_ofMan_102 : decode cX11_ofMan 102 = .ok (.aload_n 0, 1) := by decide +kernel
theorem dX11_ofMan_103 : decode cX11_ofMan 103 = .ok (.getfield 56, 3) := by decide +kernel
theorem dX11_ofMan_106 : decode cX11_ofMan 106 = .ok (.iload_n 1, 1) := by decide +kernel
theorem dX11_ofMan_107 : decode cX11_ofMan 107 = .ok (.iaload, 1) := by decide +kernel
theorem dX11_ofMan_108 : decode cX11_ofMan 108 = .ok (.ireturn, 1) := by decide +kernel
theorem dX11_ofMan_109 : decode cX11_ofMan 109 = .ok (.bipush (-2), 2) := by decide +kernel
theorem dX11_ofMan_111 : decode cX11_ofMan 111 = .ok (.ireturn, 1) := by decide +kernel
theorem dX11_become_0 : decode cX11_become 0 = .ok (.aload_n 0, 1) := by decide +kernel
theorem dX11_become_1 : decode cX11_become 1 = .ok (.getfield 56, 3) := by decide +kernel
theorem dX11_become_4 : decode cX11_become 4 = .ok (.iload_n 1, 1) := by decide +kernel
theorem dX11_become_5 : decode cX11_become 5 = .ok (.iload_n 2, 1) := by decide +kernel
theorem dX11_become_6 : decode cX11_become 6 = .ok (.iastore, 1) := by decide +kernel
theorem dX11_become_7 : decode cX11_become 7 = .ok (.aload_n 0, 1) := by decide +kernel
theorem dX11_become_8 : decode cX11_become 8 = .ok (.getfield 50, 3) := by decide +kernel
theorem dX11_become_11 : decode cX11_become 11 = .ok (.iload_n 1, 1) := by decide +kernel
theorem dX11_become_12 : decode cX11_become 12 = .ok (.bipush (-6), 2) := by decide +kernel
theorem dX11_become_14 : decode cX11_become 14 = .ok (.iastore, 1) := by decide +kernel
theorem dX11_become_15 : decode cX11_become 15 = .ok (.return_, 1) := by decide +kernel
theorem dX11_leave_0 : decode cX11_leave 0 = .ok (.aload_n 0, 1) := by decide +kernel
theorem dX11_leave_1 : decode cX11_leave 1 = .ok (.iload_n 1, 1) := by decide +kernel
theorem dX11_leave_2 : decode cX11_leave 2 = .ok (.invokevirtual 187, 3) := by decide +kernel
theorem dX11_leave_5 : decode cX11_leave 5 = .ok (.ifCond .ne 5, 3) := by decide +kernel
theorem dX11_leave_8 : decode cX11_leave 8 = .ok (.iconst (-1), 1) := by decide +kernel
theorem dX11_leave_9 : decode cX11_leave 9 = .ok (.ireturn, 1) := by decide +kernel
theorem dX11_leave_10 : decode cX11_leave 10 = .ok (.aload_n 0, 1) := by decide +kernel
theorem dX11_leave_11 : decode cX11_leave 11 = .ok (.getfield 56, 3) := by decide +kernel
theorem dX11_leave_14 : decode cX11_leave 14 = .ok (.iload_n 1, 1) := by decide +kernel
theorem dX11_leave_15 : decode cX11_leave 15 = .ok (.iaload, 1) := by decide +kernel
theorem dX11_leave_16 : decode cX11_leave 16 = .ok (.iconst 4, 1) := by decide +kernel
theorem dX11_leave_17 : decode cX11_leave 17 = .ok (.if_icmp .ne 6, 3) := by decide +kernel
theorem dX11_leave_20 : decode cX11_leave 20 = .ok (.bipush (-5), 2) := by decide +kernel
theorem dX11_leave_22 : decode cX11_leave 22 = .ok (.ireturn, 1) := by decide +kernel
theorem dX11_leave_23 : decode cX11_leave 23 = .ok (.aload_n 0, 1) := by decide +kernel
theorem dX11_leave_24 : decode cX11_leave 24 = .ok (.getfield 56, 3) := by decide +kernel
theorem dX11_leave_27 : decode cX11_leave 27 = .ok (.iload_n 1, 1) := by decide +kernel
theorem dX11_leave_28 : decode cX11_leave 28 = .ok (.iaload, 1) := by decide +kernel
theorem dX11_leave_29 : decode cX11_leave 29 = .ok (.istore_n 2, 1) := by decide +kernel
theorem dX11_leave_30 : decode cX11_leave 30 = .ok (.aload_n 0, 1) := by decide +kernel
theorem dX11_leave_31 : decode cX11_leave 31 = .ok (.iload_n 1, 1) := by decide +kernel
theorem dX11_leave_32 : decode cX11_leave 32 = .ok (.iconst 4, 1) := by decide +kernel
theorem dX11_leave_33 : decode cX11_leave 33 = .ok (.invokevirtual 190, 3) := by decide +kernel
theorem dX11_leave_36 : decode cX11_leave 36 = .ok (.iload_n 2, 1) := by decide +kernel
theorem dX11_leave_37 : decode cX11_leave 37 = .ok (.ireturn, 1) := by decide +kernel
theorem dX11_posts_0 : decode cX11_posts 0 = .ok (.aload_n 0, 1) := by decide +kernel
theorem dX11_posts_1 : decode cX11_posts 1 = .ok (.iload_n 1, 1) := by decide +kernel
theorem dX11_posts_2 : decode cX11_posts 2 = .ok (.invokevirtual 169, 3) := by decide +kernel
theorem dX11_posts_5 : decode cX11_posts 5 = .ok (.ifCond .ne 5, 3) := by decide +kernel
theorem dX11_posts_8 : decode cX11_posts 8 = .ok (.iconst (-1), 1) := by decide +kernel
theorem dX11_posts_9 : decode cX11_posts 9 = .ok (.ireturn, 1) := by decide +kernel
theorem dX11_posts_10 : decode cX11_posts 10 = .ok (.iload_n 2, 1) := by decide +kernel
theorem dX11_posts_11 : decode cX11_posts 11 = .ok (.i2l, 1) := by decide +kernel
theorem dX11_posts_12 : decode cX11_posts 12 = .ok (.lconst 0, 1) := by decide +kernel
theorem dX11_posts_13 : decode cX11_posts 13 = .ok (.ldc2_w 183, 3) := by decide +kernel
theorem dX11_posts_16 : decode cX11_posts 16 = .ok (.invokestatic 140, 3) := by decide +kernel
theorem dX11_posts_19 : decode cX11_posts 19 = .ok (.ifCond .eq 15, 3) := by decide +kernel
theorem dX11_posts_22 : decode cX11_posts 22 = .ok (.iload_n 3, 1) := by decide +kernel
theorem dX11_posts_23 : decode cX11_posts 23 = .ok (.i2l, 1) := by decide +kernel
theorem dX11_posts_24 : decode cX11_posts 24 = .ok (.lconst 0, 1) := by decide +kernel
theorem dX11_posts_25 : decode cX11_posts 25 = .ok (.ldc2_w 194, 3) := by decide +kernel
theorem dX11_posts_28 : decode cX11_posts 28 = .ok (.invokestatic 140, 3) := by decide +kernel
theorem dX11_posts_31 : decode cX11_posts 31 = .ok (.ifCond .ne 6, 3) := by decide +kernel
theorem dX11_posts_34 : decode cX11_posts 34 = .ok (.bipush (-2), 2) := by decide +kernel
theorem dX11_posts_36 : decode cX11_posts 36 = .ok (.ireturn, 1) := by decide +kernel
theorem dX11_posts_37 : decode cX11_posts 37 = .ok (.aload_n 0, 1) := by decide +kernel
theorem dX11_posts_38 : decode cX11_posts 38 = .ok (.getfield 31, 3) := by decide +kernel
theorem dX11_posts_41 : decode cX11_posts 41 = .ok (.iload_n 1, 1) := by decide +kernel
theorem dX11_posts_42 : decode cX11_posts 42 = .ok (.baload, 1) := by decide +kernel
theorem dX11_posts_43 : decode cX11_posts 43 = .ok (.ifCond .ne 6, 3) := by decide +kernel
theorem dX11_posts_46 : decode cX11_posts 46 = .ok (.bipush (-3), 2) := by decide +kernel
theorem dX11_posts_48 : decode cX11_posts 48 = .ok (.ireturn, 1) := by decide +kernel
theorem dX11_posts_49 : decode cX11_posts 49 = .ok (.aload_n 0, 1) := by decide +kernel
theorem dX11_posts_50 : decode cX11_posts 50 = .ok (.getfield 35, 3) := by decide +kernel
theorem dX11_posts_53 : decode cX11_posts 53 = .ok (.iconst 3, 1) := by decide +kernel
theorem dX11_posts_54 : decode cX11_posts 54 = .ok (.iload_n 1, 1) := by decide +kernel
theorem dX11_posts_55 : decode cX11_posts 55 = .ok (.imul, 1) := by decide +kernel
theorem dX11_posts_56 : decode cX11_posts 56 = .ok (.iload_n 2, 1) := by decide +kernel
theorem dX11_posts_57 : decode cX11_posts 57 = .ok (.iadd, 1) := by decide +kernel
theorem dX11_posts_58 : decode cX11_posts 58 = .ok (.iaload, 1) := by decide +kernel
theorem dX11_posts_59 : decode cX11_posts 59 = .ok (.istore 4, 2) := by decide +kernel
theorem dX11_posts_61 : decode cX11_posts 61 = .ok (.aload_n 0, 1) := by decide +kernel
theorem dX11_posts_62 : decode cX11_posts 62 = .ok (.getfield 35, 3) := by decide +kernel
theorem dX11_posts_65 : decode cX11_posts 65 = .ok (.iconst 3, 1) := by decide +kernel
theorem dX11_posts_66 : decode cX11_posts 66 = .ok (.iload_n 1, 1) := by decide +kernel
theorem dX11_posts_67 : decode cX11_posts 67 = .ok (.imul, 1) := by decide +kernel
theorem dX11_posts_68 : decode cX11_posts 68 = .ok (.iload_n 2, 1) := by decide +kernel
theorem dX11_posts_69 : decode cX11_posts 69 = .ok (.iadd, 1) := by decide +kernel
theorem dX11_posts_70 : decode cX11_posts 70 = .ok (.iload_n 3, 1) := by decide +kernel
theorem dX11_posts_71 : decode cX11_posts 71 = .ok (.iastore, 1) := by decide +kernel
theorem dX11_posts_72 : decode cX11_posts 72 = .ok (.iload 4, 2) := by decide +kernel
theorem dX11_posts_74 : decode cX11_posts 74 = .ok (.ireturn, 1) := by decide +kernel
theorem dX11_leastOf_0 : decode cX11_leastOf 0 = .ok (.iload_n 0, 1) := by decide +kernel
theorem dX11_leastOf_1 : decode cX11_leastOf 1 = .ok (.ifCond .ne 8, 3) := by decide +kernel
theorem dX11_leastOf_4 : decode cX11_leastOf 4 = .ok (.bipush 50, 2) := by decide +kernel
theorem dX11_leastOf_6 : decode cX11_leastOf 6 = .ok (.goto 18, 3) := by decide +kernel
theorem dX11_leastOf_9 : decode cX11_leastOf 9 = .ok (.iload_n 0, 1) := by decide +kernel
theorem dX11_leastOf_10 : decode cX11_leastOf 10 = .ok (.iconst 4, 1) := by decide +kernel
theorem dX11_leastOf_11 : decode cX11_leastOf 11 = .ok (.if_icmp .eq 8, 3) := by decide +kernel
theorem dX11_leastOf_14 : decode cX11_leastOf 14 = .ok (.iload_n 0, 1) := by decide +kernel
theorem dX11_leastOf_15 : decode cX11_leastOf 15 = .ok (.iconst 5, 1) := by decide +kernel
theorem dX11_leastOf_16 : decode cX11_leastOf 16 = .ok (.if_icmp .ne 7, 3) := by decide +kernel
theorem dX11_leastOf_19 : decode cX11_leastOf 19 = .ok (.iconst 1, 1) := by decide +kernel
theorem dX11_leastOf_20 : decode cX11_leastOf 20 = .ok (.goto 4, 3) := by decide +kernel
theorem dX11_leastOf_23 : decode cX11_leastOf 23 = .ok (.iconst 0, 1) := by decide +kernel
theorem dX11_leastOf_24 : decode cX11_leastOf 24 = .ok (.ireturn, 1) := by decide +kernel
theorem dX11_mostOf_0 : decode cX11_mostOf 0 = .ok (.iload_n 0, 1) := by decide +kernel
theorem dX11_mostOf_1 : decode cX11_mostOf 1 = .ok (.tableswitch 59 0 5 #[39, 42, 46, 50, 54, 57], 39) := by decide +kernel
theorem dX11_mostOf_40 : decode cX11_mostOf 40 = .ok (.bipush 70, 2) := by decide +kernel
theorem dX11_mostOf_42 : decode cX11_mostOf 42 = .ok (.ireturn, 1) := by decide +kernel
theorem dX11_mostOf_43 : decode cX11_mostOf 43 = .ok (.sipush 200, 3) := by decide +kernel
theorem dX11_mostOf_46 : decode cX11_mostOf 46 = .ok (.ireturn, 1) := by decide +kernel
theorem dX11_mostOf_47 : decode cX11_mostOf 47 = .ok (.sipush 10000, 3) := by decide +kernel
theorem dX11_mostOf_50 : decode cX11_mostOf 50 = .ok (.ireturn, 1) := by decide +kernel
theorem dX11_mostOf_51 : decode cX11_mostOf 51 = .ok (.sipush 5000, 3) := by decide +kernel
theorem dX11_mostOf_54 : decode cX11_mostOf 54 = .ok (.ireturn, 1) := by decide +kernel
theorem dX11_mostOf_55 : decode cX11_mostOf 55 = .ok (.bipush 8, 2) := by decide +kernel
theorem dX11_mostOf_57 : decode cX11_mostOf 57 = .ok (.ireturn, 1) := by decide +kernel
theorem dX11_mostOf_58 : decode cX11_mostOf 58 = .ok (.iconst 5, 1) := by decide +kernel
theorem dX11_mostOf_59 : decode cX11_mostOf 59 = .ok (.ireturn, 1) := by decide +kernel
theorem dX11_mostOf_60 : decode cX11_mostOf 60 = .ok (.bipush 50, 2) := by decide +kernel
theorem dX11_mostOf_62 : decode cX11_mostOf 62 = .ok (.ireturn, 1) := by decide +kernel
theorem dX11_set_0 : decode cX11_set 0 = .ok (.iload_n 1, 1) := by decide +kernel
theorem dX11_set_1 : decode cX11_set 1 = .ok (.i2l, 1) := by decide +kernel
theorem dX11_set_2 : decode cX11_set 2 = .ok (.lconst 0, 1) := by decide +kernel
theorem dX11_set_3 : decode cX11_set 3 = .ok (.ldc2_w 196, 3) := by decide +kernel
theorem dX11_set_6 : decode cX11_set 6 = .ok (.invokestatic 140, 3) := by decide +kernel
theorem dX11_set_9 : decode cX11_set 9 = .ok (.ifCond .eq 21, 3) := by decide +kernel
theorem dX11_set_12 : decode cX11_set 12 = .ok (.iload_n 2, 1) := by decide +kernel
theorem dX11_set_13 : decode cX11_set 13 = .ok (.i2l, 1) := by decide +kernel
theorem dX11_set_14 : decode cX11_set 14 = .ok (.iload_n 1, 1) := by decide +kernel
theorem dX11_set_15 : decode cX11_set 15 = .ok (.invokestatic 198, 3) := by decide +kernel
theorem dX11_set_18 : decode cX11_set 18 = .ok (.i2l, 1) := by decide +kernel
theorem dX11_set_19 : decode cX11_set 19 = .ok (.iload_n 1, 1) := by decide +kernel
theorem dX11_set_20 : decode cX11_set 20 = .ok (.invokestatic 201, 3) := by decide +kernel
theorem dX11_set_23 : decode cX11_set 23 = .ok (.i2l, 1) := by decide +kernel
theorem dX11_set_24 : decode cX11_set 24 = .ok (.invokestatic 140, 3) := by decide +kernel
theorem dX11_set_27 : decode cX11_set 27 = .ok (.ifCond .ne 6, 3) := by decide +kernel
theorem dX11_set_30 : decode cX11_set 30 = .ok (.bipush (-2), 2) := by decide +kernel
theorem dX11_set_32 : decode cX11_set 32 = .ok (.ireturn, 1) := by decide +kernel
theorem dX11_set_33 : decode cX11_set 33 = .ok (.aload_n 0, 1) := by decide +kernel
theorem dX11_set_34 : decode cX11_set 34 = .ok (.getfield 59, 3) := by decide +kernel
theorem dX11_set_37 : decode cX11_set 37 = .ok (.iload_n 1, 1) := by decide +kernel
theorem dX11_set_38 : decode cX11_set 38 = .ok (.iaload, 1) := by decide +kernel
theorem dX11_set_39 : decode cX11_set 39 = .ok (.istore_n 3, 1) := by decide +kernel
theorem dX11_set_40 : decode cX11_set 40 = .ok (.aload_n 0, 1) := by decide +kernel
theorem dX11_set_41 : decode cX11_set 41 = .ok (.getfield 59, 3) := by decide +kernel
theorem dX11_set_44 : decode cX11_set 44 = .ok (.iload_n 1, 1) := by decide +kernel
theorem dX11_set_45 : decode cX11_set 45 = .ok (.iload_n 2, 1) := by decide +kernel
theorem dX11_set_46 : decode cX11_set 46 = .ok (.iastore, 1) := by decide +kernel
theorem dX11_set_47 : decode cX11_set 47 = .ok (.iload_n 3, 1) := by decide +kernel
theorem dX11_set_48 : decode cX11_set 48 = .ok (.ireturn, 1) := by decide +kernel
theorem dX11_year_0 : decode cX11_year 0 = .ok (.iconst 0, 1) := by decide +kernel
theorem dX11_year_1 : decode cX11_year 1 = .ok (.istore_n 1, 1) := by decide +kernel
theorem dX11_year_2 : decode cX11_year 2 = .ok (.iconst 0, 1) := by decide +kernel
theorem dX11_year_3 : decode cX11_year 3 = .ok (.istore_n 2, 1) := by decide +kernel
theorem dX11_year_4 : decode cX11_year 4 = .ok (.iload_n 2, 1) := by decide +kernel
theorem dX11_year_5 : decode cX11_year 5 = .ok (.aload_n 0, 1) := by decide +kernel
theorem dX11_year_6 : decode cX11_year 6 = .ok (.getfield 166, 3) := by decide +kernel
theorem dX11_year_9 : decode cX11_year 9 = .ok (.if_icmp .ge 117, 3) := by decide +kernel
theorem dX11_year_12 : decode cX11_year 12 = .ok (.aload_n 0, 1) := by decide +kernel
theorem dX11_year_13 : decode cX11_year 13 = .ok (.getfield 56, 3) := by decide +kernel
theorem dX11_year_16 : decode cX11_year 16 = .ok (.iload_n 2, 1) := by decide +kernel
theorem dX11_year_17 : decode cX11_year 17 = .ok (.iaload, 1) := by decide +kernel
theorem dX11_year_18 : decode cX11_year 18 = .ok (.iconst 4, 1) := by decide +kernel
theorem dX11_year_19 : decode cX11_year 19 = .ok (.if_icmp .eq 101, 3) := by decide +kernel
theorem dX11_year_22 : decode cX11_year 22 = .ok (.aload_n 0, 1) := by decide +kernel
theorem dX11_year_23 : decode cX11_year 23 = .ok (.getfield 38, 3) := by decide +kernel
theorem dX11_year_26 : decode cX11_year 26 = .ok (.iload_n 2, 1) := by decide +kernel
theorem dX11_year_27 : decode cX11_year 27 = .ok (.aload_n 0, 1) := by decide +kernel
theorem dX11_year_28 : decode cX11_year 28 = .ok (.getfield 38, 3) := by decide +kernel
theorem dX11_year_31 : decode cX11_year 31 = .ok (.iload_n 2, 1) := by decide +kernel
theorem dX11_year_32 : decode cX11_year 32 = .ok (.iaload, 1) := by decide +kernel
theorem dX11_year_33 : decode cX11_year 33 = .ok (.bipush 70, 2) := by decide +kernel
theorem dX11_year_35 : decode cX11_year 35 = .ok (.if_icmp .ge 14, 3) := by decide +kernel
theorem dX11_year_38 : decode cX11_year 38 = .ok (.aload_n 0, 1) := by decide +kernel
theorem dX11_year_39 : decode cX11_year 39 = .ok (.getfield 38, 3) := by decide +kernel
theorem dX11_year_42 : decode cX11_year 42 = .ok (.iload_n 2, 1) := by decide +kernel
theorem dX11_year_43 : decode cX11_year 43 = .ok (.iaload, 1) := by decide +kernel
theorem dX11_year_44 : decode cX11_year 44 = .ok (.iconst 1, 1) := by decide +kernel
theorem dX11_year_45 : decode cX11_year 45 = .ok (.iadd, 1) := by decide +kernel
theorem dX11_year_46 : decode cX11_year 46 = .ok (.goto 5, 3) := by decide +kernel
theorem dX11_year_49 : decode cX11_year 49 = .ok (.bipush 70, 2) := by decide +kernel
theorem dX11_year_51 : decode cX11_year 51 = .ok (.iastore, 1) := by decide +kernel
theorem dX11_year_52 : decode cX11_year 52 = .ok (.aload_n 0, 1) := by decide +kernel
theorem dX11_year_53 : decode cX11_year 53 = .ok (.getfield 44, 3) := by decide +kernel
theorem dX11_year_56 : decode cX11_year 56 = .ok (.iload_n 2, 1) := by decide +kernel
theorem dX11_year_57 : decode cX11_year 57 = .ok (.dup2, 1) := by decide +kernel
theorem dX11_year_58 : decode cX11_year 58 = .ok (.iaload, 1) := by decide +kernel
theorem dX11_year_59 : decode cX11_year 59 = .ok (.aload_n 0, 1) := by decide +kernel
theorem dX11_year_60 : decode cX11_year 60 = .ok (.getfield 56, 3) := by decide +kernel
theorem dX11_year_63 : decode cX11_year 63 = .ok (.iload_n 2, 1) := by decide +kernel
theorem dX11_year_64 : decode cX11_year 64 = .ok (.iaload, 1) := by decide +kernel
theorem dX11_year_65 : decode cX11_year 65 = .ok (.ifCond .ne 18, 3) := by decide +kernel
theorem dX11_year_68 : decode cX11_year 68 = .ok (.aload_n 0, 1) := by decide +kernel
theorem dX11_year_69 : decode cX11_year 69 = .ok (.getfield 44, 3) := by decide +kernel
theorem dX11_year_72 : decode cX11_year 72 = .ok (.iload_n 2, 1) := by decide +kernel
theorem dX11_year_73 : decode cX11_year 73 = .ok (.iaload, 1) := by decide +kernel
theorem dX11_year_74 : decode cX11_year 74 = .ok (.bipush 50, 2) := by decide +kernel
theorem dX11_year_76 : decode cX11_year 76 = .ok (.if_icmp .ge 7, 3) := by decide +kernel
theorem dX11_year_79 : decode cX11_year 79 = .ok (.iconst 1, 1) := by decide +kernel
theorem dX11_year_80 : decode cX11_year 80 = .ok (.goto 4, 3) := by decide +kernel
theorem dX11_year_83 : decode cX11_year 83 = .ok (.iconst 0, 1) := by decide +kernel
theorem dX11_year_84 : decode cX11_year 84 = .ok (.iadd, 1) := by decide +kernel
theorem dX11_year_85 : decode cX11_year 85 = .ok (.iastore, 1) := by decide +kernel
theorem dX11_year_86 : decode cX11_year 86 = .ok (.aload_n 0, 1) := by decide +kernel
theorem dX11_year_87 : decode cX11_year 87 = .ok (.getfield 56, 3) := by decide +kernel
theorem dX11_year_90 : decode cX11_year 90 = .ok (.iload_n 2, 1) := by decide +kernel
theorem dX11_year_91 : decode cX11_year 91 = .ok (.iaload, 1) := by decide +kernel
theorem dX11_year_92 : decode cX11_year 92 = .ok (.iconst 2, 1) := by decide +kernel
theorem dX11_year_93 : decode cX11_year 93 = .ok (.if_icmp .eq 27, 3) := by decide +kernel
theorem dX11_year_96 : decode cX11_year 96 = .ok (.aload_n 0, 1) := by decide +kernel
theorem dX11_year_97 : decode cX11_year 97 = .ok (.getfield 38, 3) := by decide +kernel
theorem dX11_year_100 : decode cX11_year 100 = .ok (.iload_n 2, 1) := by decide +kernel
theorem dX11_year_101 : decode cX11_year 101 = .ok (.iaload, 1) := by decide +kernel
theorem dX11_year_102 : decode cX11_year 102 = .ok (.aload_n 0, 1) := by decide +kernel
theorem dX11_year_103 : decode cX11_year 103 = .ok (.getfield 59, 3) := by decide +kernel
theorem dX11_year_106 : decode cX11_year 106 = .ok (.iconst 0, 1) := by decide +kernel
theorem dX11_year_107 : decode cX11_year 107 = .ok (.iaload, 1) := by decide +kernel
theorem dX11_year_108 : decode cX11_year 108 = .ok (.if_icmp .lt 12, 3) := by decide +kernel
theorem dX11_year_111 : decode cX11_year 111 = .ok (.aload_n 0, 1) := by decide +kernel
theorem dX11_year_112 : decode cX11_year 112 = .ok (.iload_n 2, 1) := by decide +kernel
theorem dX11_year_113 : decode cX11_year 113 = .ok (.iconst 2, 1) := by decide +kernel
theorem dX11_year_114 : decode cX11_year 114 = .ok (.invokevirtual 190, 3) := by decide +kernel
theorem dX11_year_117 : decode cX11_year 117 = .ok (.iinc 1 1, 3) := by decide +kernel
theorem dX11_year_120 : decode cX11_year 120 = .ok (.iinc 2 1, 3) := by decide +kernel
theorem dX11_year_123 : decode cX11_year 123 = .ok (.goto (-119), 3) := by decide +kernel
theorem dX11_year_126 : decode cX11_year 126 = .ok (.iload_n 1, 1) := by decide +kernel
theorem dX11_year_127 : decode cX11_year 127 = .ok (.ireturn, 1) := by decide +kernel
theorem dX11_say_0 : decode cX11_say 0 = .ok (.iload_n 1, 1) := by decide +kernel
theorem dX11_say_1 : decode cX11_say 1 = .ok (.i2l, 1) := by decide +kernel
theorem dX11_say_2 : decode cX11_say 2 = .ok (.ldc2_w 204, 3) := by decide +kernel
theorem dX11_say_5 : decode cX11_say 5 = .ok (.ldc2_w 206, 3) := by decide +kernel
theorem dX11_say_8 : decode cX11_say 8 = .ok (.invokestatic 140, 3) := by decide +kernel
theorem dX11_say_11 : decode cX11_say 11 = .ok (.ifCond .ne 6, 3) := by decide +kernel
theorem dX11_say_14 : decode cX11_say 14 = .ok (.bipush (-2), 2) := by decide +kernel
theorem dX11_say_16 : decode cX11_say 16 = .ok (.ireturn, 1) := by decide +kernel
theorem dX11_say_17 : decode cX11_say 17 = .ok (.aload_n 0, 1) := by decide +kernel
theorem dX11_say_18 : decode cX11_say 18 = .ok (.getfield 65, 3) := by decide +kernel
theorem dX11_say_21 : decode cX11_say 21 = .ok (.iconst 3, 1) := by decide +kernel
theorem dX11_say_22 : decode cX11_say 22 = .ok (.iaload, 1) := by decide +kernel
theorem dX11_say_23 : decode cX11_say 23 = .ok (.bipush 40, 2) := by decide +kernel
theorem dX11_say_25 : decode cX11_say 25 = .ok (.if_icmp .ne 6, 3) := by decide +kernel
theorem dX11_say_28 : decode cX11_say 28 = .ok (.bipush (-4), 2) := by decide +kernel
theorem dX11_say_30 : decode cX11_say 30 = .ok (.ireturn, 1) := by decide +kernel
theorem dX11_say_31 : decode cX11_say 31 = .ok (.aload_n 0, 1) := by decide +kernel
theorem dX11_say_32 : decode cX11_say 32 = .ok (.getfield 62, 3) := by decide +kernel
theorem dX11_say_35 : decode cX11_say 35 = .ok (.bipush 120, 2) := by decide +kernel
theorem dX11_say_37 : decode cX11_say 37 = .ok (.aload_n 0, 1) := by decide +kernel
theorem dX11_say_38 : decode cX11_say 38 = .ok (.getfield 65, 3) := by decide +kernel
theorem dX11_say_41 : decode cX11_say 41 = .ok (.iconst 3, 1) := by decide +kernel
theorem dX11_say_42 : decode cX11_say 42 = .ok (.iaload, 1) := by decide +kernel
theorem dX11_say_43 : decode cX11_say 43 = .ok (.iadd, 1) := by decide +kernel
theorem dX11_say_44 : decode cX11_say 44 = .ok (.iload_n 1, 1) := by decide +kernel
theorem dX11_say_45 : decode cX11_say 45 = .ok (.iastore, 1) := by decide +kernel
theorem dX11_say_46 : decode cX11_say 46 = .ok (.aload_n 0, 1) := by decide +kernel
theorem dX11_say_47 : decode cX11_say 47 = .ok (.getfield 65, 3) := by decide +kernel
theorem dX11_say_50 : decode cX11_say 50 = .ok (.iconst 3, 1) := by decide +kernel
theorem dX11_say_51 : decode cX11_say 51 = .ok (.dup2, 1) := by decide +kernel
theorem dX11_say_52 : decode cX11_say 52 = .ok (.iaload, 1) := by decide +kernel
theorem dX11_say_53 : decode cX11_say 53 = .ok (.iconst 1, 1) := by decide +kernel
theorem dX11_say_54 : decode cX11_say 54 = .ok (.iadd, 1) := by decide +kernel
theorem dX11_say_55 : decode cX11_say 55 = .ok (.iastore, 1) := by decide +kernel
theorem dX11_say_56 : decode cX11_say 56 = .ok (.aload_n 0, 1) := by decide +kernel
theorem dX11_say_57 : decode cX11_say 57 = .ok (.getfield 65, 3) := by decide +kernel
theorem dX11_say_60 : decode cX11_say 60 = .ok (.iconst 3, 1) := by decide +kernel
theorem dX11_say_61 : decode cX11_say 61 = .ok (.iaload, 1) := by decide +kernel
theorem dX11_say_62 : decode cX11_say 62 = .ok (.ireturn, 1) := by decide +kernel
theorem dX11_wipe_0 : decode cX11_wipe 0 = .ok (.aload_n 0, 1) := by decide +kernel
theorem dX11_wipe_1 : decode cX11_wipe 1 = .ok (.getfield 65, 3) := by decide +kernel
theorem dX11_wipe_4 : decode cX11_wipe 4 = .ok (.iconst 3, 1) := by decide +kernel
theorem dX11_wipe_5 : decode cX11_wipe 5 = .ok (.iaload, 1) := by decide +kernel
theorem dX11_wipe_6 : decode cX11_wipe 6 = .ok (.istore_n 1, 1) := by decide +kernel
theorem dX11_wipe_7 : decode cX11_wipe 7 = .ok (.aload_n 0, 1) := by decide +kernel
theorem dX11_wipe_8 : decode cX11_wipe 8 = .ok (.getfield 65, 3) := by decide +kernel
theorem dX11_wipe_11 : decode cX11_wipe 11 = .ok (.iconst 3, 1) := by decide +kernel
theorem dX11_wipe_12 : decode cX11_wipe 12 = .ok (.iconst 0, 1) := by decide +kernel
theorem dX11_wipe_13 : decode cX11_wipe 13 = .ok (.iastore, 1) := by decide +kernel
theorem dX11_wipe_14 : decode cX11_wipe 14 = .ok (.iload_n 1, 1) := by decide +kernel
theorem dX11_wipe_15 : decode cX11_wipe 15 = .ok (.ireturn, 1) := by decide +kernel
theorem dX11_isDigit_0 : decode cX11_isDigit 0 = .ok (.iload_n 0, 1) := by decide +kernel
theorem dX11_isDigit_1 : decode cX11_isDigit 1 = .ok (.i2l, 1) := by decide +kernel
theorem dX11_isDigit_2 : decode cX11_isDigit 2 = .ok (.ldc2_w 208, 3) := by decide +kernel
theorem dX11_isDigit_5 : decode cX11_isDigit 5 = .ok (.ldc2_w 210, 3) := by decide +kernel
theorem dX11_isDigit_8 : decode cX11_isDigit 8 = .ok (.invokestatic 140, 3) := by decide +kernel
theorem dX11_isDigit_11 : decode cX11_isDigit 11 = .ok (.ireturn, 1) := by decide +kernel
theorem dX11_isFact_0 : decode cX11_isFact 0 = .ok (.iload_n 0, 1) := by decide +kernel
theorem dX11_isFact_1 : decode cX11_isFact 1 = .ok (.bipush 97, 2) := by decide +kernel
theorem dX11_isFact_3 : decode cX11_isFact 3 = .ok (.if_icmp .eq 27, 3) := by decide +kernel
theorem dX11_isFact_6 : decode cX11_isFact 6 = .ok (.iload_n 0, 1) := by decide +kernel
theorem dX11_isFact_7 : decode cX11_isFact 7 = .ok (.bipush 121, 2) := by decide +kernel
theorem dX11_isFact_9 : decode cX11_isFact 9 = .ok (.if_icmp .eq 21, 3) := by decide +kernel
theorem dX11_isFact_12 : decode cX11_isFact 12 = .ok (.iload_n 0, 1) := by decide +kernel
theorem dX11_isFact_13 : decode cX11_isFact 13 = .ok (.bipush 116, 2) := by decide +kernel
theorem dX11_isFact_15 : decode cX11_isFact 15 = .ok (.if_icmp .eq 15, 3) := by decide +kernel
theorem dX11_isFact_18 : decode cX11_isFact 18 = .ok (.iload_n 0, 1) := by decide +kernel
theorem dX11_isFact_19 : decode cX11_isFact 19 = .ok (.bipush 107, 2) := by decide +kernel
theorem dX11_isFact_21 : decode cX11_isFact 21 = .ok (.if_icmp .eq 9, 3) := by decide +kernel
theorem dX11_isFact_24 : decode cX11_isFact 24 = .ok (.iload_n 0, 1) := by decide +kernel
theorem dX11_isFact_25 : decode cX11_isFact 25 = .ok (.bipush 102, 2) := by decide +kernel
theorem dX11_isFact_27 : decode cX11_isFact 27 = .ok (.if_icmp .ne 7, 3) := by decide +kernel
theorem dX11_isFact_30 : decode cX11_isFact 30 = .ok (.iconst 1, 1) := by decide +kernel
theorem dX11_isFact_31 : decode cX11_isFact 31 = .ok (.goto 4, 3) := by decide +kernel
theorem dX11_isFact_34 : decode cX11_isFact 34 = .ok (.iconst 0, 1) := by decide +kernel
theorem dX11_isFact_35 : decode cX11_isFact 35 = .ok (.ireturn, 1) := by decide +kernel
theorem dX11_isAct_0 : decode cX11_isAct 0 = .ok (.iload_n 0, 1) := by decide +kernel
theorem dX11_isAct_1 : decode cX11_isAct 1 = .ok (.bipush 43, 2) := by decide +kernel
theorem dX11_isAct_3 : decode cX11_isAct 3 = .ok (.if_icmp .eq 45, 3) := by decide +kernel
theorem dX11_isAct_6 : decode cX11_isAct 6 = .ok (.iload_n 0, 1) := by decide +kernel
theorem dX11_isAct_7 : decode cX11_isAct 7 = .ok (.bipush 45, 2) := by decide +kernel
theorem dX11_isAct_9 : decode cX11_isAct 9 = .ok (.if_icmp .eq 39, 3) := by decide +kernel
theorem dX11_isAct_12 : decode cX11_isAct 12 = .ok (.iload_n 0, 1) := by decide +kernel
theorem dX11_isAct_13 : decode cX11_isAct 13 = .ok (.bipush 42, 2) := by decide +kernel
theorem dX11_isAct_15 : decode cX11_isAct 15 = .ok (.if_icmp .eq 33, 3) := by decide +kernel
theorem dX11_isAct_18 : decode cX11_isAct 18 = .ok (.iload_n 0, 1) := by decide +kernel
theorem dX11_isAct_19 : decode cX11_isAct 19 = .ok (.bipush 60, 2) := by decide +kernel
theorem dX11_isAct_21 : decode cX11_isAct 21 = .ok (.if_icmp .eq 27, 3) := by decide +kernel
theorem dX11_isAct_24 : decode cX11_isAct 24 = .ok (.iload_n 0, 1) := by decide +kernel
theorem dX11_isAct_25 : decode cX11_isAct 25 = .ok (.bipush 62, 2) := by decide +kernel
theorem dX11_isAct_27 : decode cX11_isAct 27 = .ok (.if_icmp .eq 21, 3) := by decide +kernel
theorem dX11_isAct_30 : decode cX11_isAct 30 = .ok (.iload_n 0, 1) := by decide +kernel
theorem dX11_isAct_31 : decode cX11_isAct 31 = .ok (.bipush 61, 2) := by decide +kernel
theorem dX11_isAct_33 : decode cX11_isAct 33 = .ok (.if_icmp .eq 15, 3) := by decide +kernel
theorem dX11_isAct_36 : decode cX11_isAct 36 = .ok (.iload_n 0, 1) := by decide +kernel
theorem dX11_isAct_37 : decode cX11_isAct 37 = .ok (.bipush 38, 2) := by decide +kernel
theorem dX11_isAct_39 : decode cX11_isAct 39 = .ok (.if_icmp .eq 9, 3) := by decide +kernel
theorem dX11_isAct_42 : decode cX11_isAct 42 = .ok (.iload_n 0, 1) := by decide +kernel
theorem dX11_isAct_43 : decode cX11_isAct 43 = .ok (.bipush 124, 2) := by decide +kernel
theorem dX11_isAct_45 : decode cX11_isAct 45 = .ok (.if_icmp .ne 7, 3) := by decide +kernel
theorem dX11_isAct_48 : decode cX11_isAct 48 = .ok (.iconst 1, 1) := by decide +kernel
theorem dX11_isAct_49 : decode cX11_isAct 49 = .ok (.goto 4, 3) := by decide +kernel
theorem dX11_isAct_52 : decode cX11_isAct 52 = .ok (.iconst 0, 1) := by decide +kernel
theorem dX11_isAct_53 : decode cX11_isAct 53 = .ok (.ireturn, 1) := by decide +kernel
theorem dX11_fault_0 : decode cX11_fault 0 = .ok (.iconst 0, 1) := by decide +kernel
theorem dX11_fault_1 : decode cX11_fault 1 = .ok (.istore_n 1, 1) := by decide +kernel
theorem dX11_fault_2 : decode cX11_fault 2 = .ok (.iconst 0, 1) := by decide +kernel
theorem dX11_fault_3 : decode cX11_fault 3 = .ok (.istore_n 2, 1) := by decide +kernel
theorem dX11_fault_4 : decode cX11_fault 4 = .ok (.iconst 0, 1) := by decide +kernel
theorem dX11_fault_5 : decode cX11_fault 5 = .ok (.istore_n 3, 1) := by decide +kernel
theorem dX11_fault_6 : decode cX11_fault 6 = .ok (.iload_n 3, 1) := by decide +kernel
theorem dX11_fault_7 : decode cX11_fault 7 = .ok (.aload_n 0, 1) := by decide +kernel
theorem dX11_fault_8 : decode cX11_fault 8 = .ok (.getfield 65, 3) := by decide +kernel
theorem dX11_fault_11 : decode cX11_fault 11 = .ok (.iconst 3, 1) := by decide +kernel
theorem dX11_fault_12 : decode cX11_fault 12 = .ok (.iaload, 1) := by decide +kernel
theorem dX11_fault_13 : decode cX11_fault 13 = .ok (.if_icmp .ge 171, 3) := by decide +kernel
theorem dX11_fault_16 : decode cX11_fault 16 = .ok (.aload_n 0, 1) := by decide +kernel
theorem dX11_fault_17 : decode cX11_fault 17 = .ok (.getfield 62, 3) := by decide +kernel
theorem dX11_fault_20 : decode cX11_fault 20 = .ok (.bipush 120, 2) := by decide +kernel
theorem dX11_fault_22 : decode cX11_fault 22 = .ok (.iload_n 3, 1) := by decide +kernel
theorem dX11_fault_23 : decode cX11_fault 23 = .ok (.iadd, 1) := by decide +kernel
theorem dX11_fault_24 : decode cX11_fault 24 = .ok (.iaload, 1) := by decide +kernel
theorem dX11_fault_25 : decode cX11_fault 25 = .ok (.istore 4, 2) := by decide +kernel
theorem dX11_fault_27 : decode cX11_fault 27 = .ok (.iload_n 2, 1) := by decide +kernel
theorem dX11_fault_28 : decode cX11_fault 28 = .ok (.ifCond .le 48, 3) := by decide +kernel
theorem dX11_fault_31 : decode cX11_fault 31 = .ok (.iload 4, 2) := by decide +kernel
theorem dX11_fault_33 : decode cX11_fault 33 = .ok (.bipush 44, 2) := by decide +kernel
theorem dX11_fault_35 : decode cX11_fault 35 = .ok (.if_icmp .eq 16, 3) := by decide +kernel
theorem dX11_fault_38 : decode cX11_fault 38 = .ok (.iload 4, 2) := by decide +kernel
theorem dX11_fault_40 : decode cX11_fault 40 = .ok (.invokestatic 212, 3) := by decide +kernel
theorem dX11_fault_43 : decode cX11_fault 43 = .ok (.ifCond .eq 12, 3) := by decide +kernel
theorem dX11_fault_46 : decode cX11_fault 46 = .ok (.iload_n 2, 1) := by decide +kernel
theorem dX11_fault_47 : decode cX11_fault 47 = .ok (.iconst 4, 1) := by decide +kernel
theorem dX11_fault_48 : decode cX11_fault 48 = .ok (.if_icmp .ge 7, 3) := by decide +kernel
theorem dX11_fault_51 : decode cX11_fault 51 = .ok (.iconst 1, 1) := by decide +kernel
theorem dX11_fault_52 : decode cX11_fault 52 = .ok (.goto 4, 3) := by decide +kernel
theorem dX11_fault_55 : decode cX11_fault 55 = .ok (.iconst 0, 1) := by decide +kernel
theorem dX11_fault_56 : decode cX11_fault 56 = .ok (.istore 5, 2) := by decide +kernel
theorem dX11_fault_58 : decode cX11_fault 58 = .ok (.iload 4, 2) := by decide +kernel
theorem dX11_fault_60 : decode cX11_fault 60 = .ok (.bipush 44, 2) := by decide +kernel
theorem dX11_fault_62 : decode cX11_fault 62 = .ok (.if_icmp .ne 7, 3) := by decide +kernel
theorem dX11_fault_65 : decode cX11_fault 65 = .ok (.iconst 0, 1) := by decide +kernel
theorem dX11_fault_66 : decode cX11_fault 66 = .ok (.goto 6, 3) := by decide +kernel
theorem dX11_fault_69 : decode cX11_fault 69 = .ok (.iload_n 2, 1) := by decide +kernel
theorem dX11_fault_70 : decode cX11_fault 70 = .ok (.iconst 1, 1) := by decide +kernel
theorem dX11_fault_71 : decode cX11_fault 71 = .ok (.iadd, 1) := by decide +kernel
theorem dX11_fault_72 : decode cX11_fault 72 = .ok (.istore_n 2, 1) := by decide +kernel
theorem dX11_fault_73 : decode cX11_fault 73 = .ok (.goto 98, 3) := by decide +kernel
theorem dX11_fault_76 : decode cX11_fault 76 = .ok (.iload 4, 2) := by decide +kernel
theorem dX11_fault_78 : decode cX11_fault 78 = .ok (.invokestatic 212, 3) := by decide +kernel
theorem dX11_fault_81 : decode cX11_fault 81 = .ok (.ifCond .ne 11, 3) := by decide +kernel
theorem dX11_fault_84 : decode cX11_fault 84 = .ok (.iload 4, 2) := by decide +kernel
theorem dX11_fault_86 : decode cX11_fault 86 = .ok (.invokestatic 215, 3) := by decide +kernel
theorem dX11_fault_89 : decode cX11_fault 89 = .ok (.ifCond .eq 35, 3) := by decide +kernel
theorem dX11_fault_92 : decode cX11_fault 92 = .ok (.iload_n 1, 1) := by decide +kernel
theorem dX11_fault_93 : decode cX11_fault 93 = .ok (.iconst 5, 1) := by decide +kernel
theorem dX11_fault_94 : decode cX11_fault 94 = .ok (.if_icmp .ge 7, 3) := by decide +kernel
theorem dX11_fault_97 : decode cX11_fault 97 = .ok (.iconst 1, 1) := by decide +kernel
theorem dX11_fault_98 : decode cX11_fault 98 = .ok (.goto 4, 3) := by decide +kernel
theorem dX11_fault_101 : decode cX11_fault 101 = .ok (.iconst 0, 1) := by decide +kernel
theorem dX11_fault_102 : decode cX11_fault 102 = .ok (.istore 5, 2) := by decide +kernel
theorem dX11_fault_104 : decode cX11_fault 104 = .ok (.iinc 1 1, 3) := by decide +kernel
theorem dX11_fault_107 : decode cX11_fault 107 = .ok (.iload 4, 2) := by decide +kernel
theorem dX11_fault_109 : decode cX11_fault 109 = .ok (.invokestatic 212, 3) := by decide +kernel
theorem dX11_fault_112 : decode cX11_fault 112 = .ok (.ifCond .eq 7, 3) := by decide +kernel
theorem dX11_fault_115 : decode cX11_fault 115 = .ok (.iconst 1, 1) := by decide +kernel
theorem dX11_fault_116 : decode cX11_fault 116 = .ok (.goto 4, 3) := by decide +kernel
theorem dX11_fault_119 : decode cX11_fault 119 = .ok (.iconst 0, 1) := by decide +kernel
theorem dX11_fault_120 : decode cX11_fault 120 = .ok (.istore_n 2, 1) := by decide +kernel
theorem dX11_fault_121 : decode cX11_fault 121 = .ok (.goto 50, 3) := by decide +kernel
theorem dX11_fault_124 : decode cX11_fault 124 = .ok (.iload 4, 2) := by decide +kernel
theorem dX11_fault_126 : decode cX11_fault 126 = .ok (.invokestatic 218, 3) := by decide +kernel
theorem dX11_fault_129 : decode cX11_fault 129 = .ok (.ifCond .eq 8, 3) := by decide +kernel
theorem dX11_fault_132 : decode cX11_fault 132 = .ok (.iload_n 1, 1) := by decide +kernel
theorem dX11_fault_133 : decode cX11_fault 133 = .ok (.iconst 1, 1) := by decide +kernel
theorem dX11_fault_134 : decode cX11_fault 134 = .ok (.if_icmp .gt 14, 3) := by decide +kernel
theorem dX11_fault_137 : decode cX11_fault 137 = .ok (.iload 4, 2) := by decide +kernel
theorem dX11_fault_139 : decode cX11_fault 139 = .ok (.bipush 33, 2) := by decide +kernel
theorem dX11_fault_141 : decode cX11_fault 141 = .ok (.if_icmp .ne 11, 3) := by decide +kernel
theorem dX11_fault_144 : decode cX11_fault 144 = .ok (.iload_n 1, 1) := by decide +kernel
theorem dX11_fault_145 : decode cX11_fault 145 = .ok (.ifCond .le 7, 3) := by decide +kernel
theorem dX11_fault_148 : decode cX11_fault 148 = .ok (.iconst 1, 1) := by decide +kernel
theorem dX11_fault_149 : decode cX11_fault 149 = .ok (.goto 4, 3) := by decide +kernel
theorem dX11_fault_152 : decode cX11_fault 152 = .ok (.iconst 0, 1) := by decide +kernel
theorem dX11_fault_153 : decode cX11_fault 153 = .ok (.istore 5, 2) := by decide +kernel
theorem dX11_fault_155 : decode cX11_fault 155 = .ok (.iload_n 1, 1) := by decide +kernel
theorem dX11_fault_156 : decode cX11_fault 156 = .ok (.iload 4, 2) := by decide +kernel
theorem dX11_fault_158 : decode cX11_fault 158 = .ok (.invokestatic 218, 3) := by decide +kernel
theorem dX11_fault_161 : decode cX11_fault 161 = .ok (.ifCond .eq 7, 3) := by decide +kernel
theorem dX11_fault_164 : decode cX11_fault 164 = .ok (.iconst 1, 1) := by decide +kernel
theorem dX11_fault_165 : decode cX11_fault 165 = .ok (.goto 4, 3) := by decide +kernel
theorem dX11_fault_168 : decode cX11_fault 168 = .ok (.iconst 0, 1) := by decide +kernel
theorem dX11_fault_169 : decode cX11_fault 169 = .ok (.isub, 1) := by decide +kernel
theorem dX11_fault_170 : decode cX11_fault 170 = .ok (.istore_n 1, 1) := by decide +kernel
theorem dX11_fault_171 : decode cX11_fault 171 = .ok (.iload 5, 2) := by decide +kernel
theorem dX11_fault_173 : decode cX11_fault 173 = .ok (.ifCond .ne 5, 3) := by decide +kernel
theorem dX11_fault_176 : decode cX11_fault 176 = .ok (.iload_n 3, 1) := by decide +kernel
theorem dX11_fault_177 : decode cX11_fault 177 = .ok (.ireturn, 1) := by decide +kernel
theorem dX11_fault_178 : decode cX11_fault 178 = .ok (.iinc 3 1, 3) := by decide +kernel
theorem dX11_fault_181 : decode cX11_fault 181 = .ok (.goto (-175), 3) := by decide +kernel
theorem dX11_fault_184 : decode cX11_fault 184 = .ok (.iload_n 1, 1) := by decide +kernel
theorem dX11_fault_185 : decode cX11_fault 185 = .ok (.iconst 1, 1) := by decide +kernel
theorem dX11_fault_186 : decode cX11_fault 186 = .ok (.if_icmp .ne 12, 3) := by decide +kernel
theorem dX11_fault_189 : decode cX11_fault 189 = .ok (.iload_n 2, 1) := by decide +kernel
theorem dX11_fault_190 : decode cX11_fault 190 = .ok (.ifCond .ne 8, 3) := by decide +kernel
theorem dX11_fault_193 : decode cX11_fault 193 = .ok (.bipush (-6), 2) := by decide +kernel
theorem dX11_fault_195 : decode cX11_fault 195 = .ok (.goto 9, 3) := by decide +kernel
theorem dX11_fault_198 : decode cX11_fault 198 = .ok (.aload_n 0, 1) := by decide +kernel
theorem dX11_fault_199 : decode cX11_fault 199 = .ok (.getfield 65, 3) := by decide +kernel
theorem dX11_fault_202 : decode cX11_fault 202 = .ok (.iconst 3, 1) := by decide +kernel
theorem dX11_fault_203 : decode cX11_fault 203 = .ok (.iaload, 1) := by decide +kernel
theorem dX11_fault_204 : decode cX11_fault 204 = .ok (.ireturn, 1) := by decide +kernel
theorem dX11_rule_0 : decode cX11_rule 0 = .ok (.iload_n 1, 1) := by decide +kernel
theorem dX11_rule_1 : decode cX11_rule 1 = .ok (.i2l, 1) := by decide +kernel
theorem dX11_rule_2 : decode cX11_rule 2 = .ok (.lconst 0, 1) := by decide +kernel
theorem dX11_rule_3 : decode cX11_rule 3 = .ok (.ldc2_w 183, 3) := by decide +kernel
theorem dX11_rule_6 : decode cX11_rule 6 = .ok (.invokestatic 140, 3) := by decide +kernel
theorem dX11_rule_9 : decode cX11_rule 9 = .ok (.ifCond .ne 6, 3) := by decide +kernel
theorem dX11_rule_12 : decode cX11_rule 12 = .ok (.bipush (-2), 2) := by decide +kernel
theorem dX11_rule_14 : decode cX11_rule 14 = .ok (.ireturn, 1) := by decide +kernel
theorem dX11_rule_15 : decode cX11_rule 15 = .ok (.aload_n 0, 1) := by decide +kernel
theorem dX11_rule_16 : decode cX11_rule 16 = .ok (.invokevirtual 221, 3) := by decide +kernel
theorem dX11_rule_19 : decode cX11_rule 19 = .ok (.ifCond .lt 6, 3) := by decide +kernel
theorem dX11_rule_22 : decode cX11_rule 22 = .ok (.bipush (-5), 2) := by decide +kernel
theorem dX11_rule_24 : decode cX11_rule 24 = .ok (.ireturn, 1) := by decide +kernel
theorem dX11_rule_25 : decode cX11_rule 25 = .ok (.aload_n 0, 1) := by decide +kernel
theorem dX11_rule_26 : decode cX11_rule 26 = .ok (.getfield 65, 3) := by decide +kernel
theorem dX11_rule_29 : decode cX11_rule 29 = .ok (.iload_n 1, 1) := by decide +kernel
theorem dX11_rule_30 : decode cX11_rule 30 = .ok (.iaload, 1) := by decide +kernel
theorem dX11_rule_31 : decode cX11_rule 31 = .ok (.ifCond .lt 7, 3) := by decide +kernel
theorem dX11_rule_34 : decode cX11_rule 34 = .ok (.iconst 1, 1) := by decide +kernel
theorem dX11_rule_35 : decode cX11_rule 35 = .ok (.goto 4, 3) := by decide +kernel
theorem dX11_rule_38 : decode cX11_rule 38 = .ok (.iconst 0, 1) := by decide +kernel
theorem dX11_rule_39 : decode cX11_rule 39 = .ok (.istore_n 2, 1) := by decide +kernel
theorem dX11_rule_40 : decode cX11_rule 40 = .ok (.iconst 0, 1) := by decide +kernel
theorem dX11_rule_41 : decode cX11_rule 41 = .ok (.istore_n 3, 1) := by decide +kernel
theorem dX11_rule_42 : decode cX11_rule 42 = .ok (.iload_n 3, 1) := by decide +kernel
theorem dX11_rule_43 : decode cX11_rule 43 = .ok (.aload_n 0, 1) := by decide +kernel
theorem dX11_rule_44 : decode cX11_rule 44 = .ok (.getfield 65, 3) := by decide +kernel
theorem dX11_rule_47 : decode cX11_rule 47 = .ok (.iconst 3, 1) := by decide +kernel
theorem dX11_rule_48 : decode cX11_rule 48 = .ok (.iaload, 1) := by decide +kernel
theorem dX11_rule_49 : decode cX11_rule 49 = .ok (.if_icmp .ge 29, 3) := by decide +kernel
theorem dX11_rule_52 : decode cX11_rule 52 = .ok (.aload_n 0, 1) := by decide +kernel
theorem dX11_rule_53 : decode cX11_rule 53 = .ok (.getfield 62, 3) := by decide +kernel
theorem dX11_rule_56 : decode cX11_rule 56 = .ok (.bipush 40, 2) := by decide +kernel
theorem dX11_rule_58 : decode cX11_rule 58 = .ok (.iload_n 1, 1) := by decide +kernel
theorem dX11_rule_59 : decode cX11_rule 59 = .ok (.imul, 1) := by decide +kernel
theorem dX11_rule_60 : decode cX11_rule 60 = .ok (.iload_n 3, 1) := by decide +kernel
theorem dX11_rule_61 : decode cX11_rule 61 = .ok (.iadd, 1) := by decide +kernel
theorem dX11_rule_62 : decode cX11_rule 62 = .ok (.aload_n 0, 1) := by decide +kernel
theorem dX11_rule_63 : decode cX11_rule 63 = .ok (.getfield 62, 3) := by decide +kernel
theorem dX11_rule_66 : decode cX11_rule 66 = .ok (.bipush 120, 2) := by decide +kernel
theorem dX11_rule_68 : decode cX11_rule 68 = .ok (.iload_n 3, 1) := by decide +kernel
theorem dX11_rule_69 : decode cX11_rule 69 = .ok (.iadd, 1) := by decide +kernel
theorem dX11_rule_70 : decode cX11_rule 70 = .ok (.iaload, 1) := by decide +kernel
theorem dX11_rule_71 : decode cX11_rule 71 = .ok (.iastore, 1) := by decide +kernel
theorem dX11_rule_72 : decode cX11_rule 72 = .ok (.iinc 3 1, 3) := by decide +kernel
theorem dX11_rule_75 : decode cX11_rule 75 = .ok (.goto (-33), 3) := by decide +kernel
theorem dX11_rule_78 : decode cX11_rule 78 = .ok (.aload_n 0, 1) := by decide +kernel
theorem dX11_rule_79 : decode cX11_rule 79 = .ok (.getfield 65, 3) := by decide +kernel
theorem dX11_rule_82 : decode cX11_rule 82 = .ok (.iload_n 1, 1) := by decide +kernel
theorem dX11_rule_83 : decode cX11_rule 83 = .ok (.aload_n 0, 1) := by decide +kernel
theorem dX11_rule_84 : decode cX11_rule 84 = .ok (.getfield 65, 3) := by decide +kernel
theorem dX11_rule_87 : decode cX11_rule 87 = .ok (.iconst 3, 1) := by decide +kernel
theorem dX11_rule_88 : decode cX11_rule 88 = .ok (.iaload, 1) := by decide +kernel
theorem dX11_rule_89 : decode cX11_rule 89 = .ok (.iastore, 1) := by decide +kernel
theorem dX11_rule_90 : decode cX11_rule 90 = .ok (.aload_n 0, 1) := by decide +kernel
theorem dX11_rule_91 : decode cX11_rule 91 = .ok (.getfield 65, 3) := by decide +kernel
theorem dX11_rule_94 : decode cX11_rule 94 = .ok (.iconst 3, 1) := by decide +kernel
theorem dX11_rule_95 : decode cX11_rule 95 = .ok (.iconst 0, 1) := by decide +kernel
theorem dX11_rule_96 : decode cX11_rule 96 = .ok (.iastore, 1) := by decide +kernel
theorem dX11_rule_97 : decode cX11_rule 97 = .ok (.iload_n 2, 1) := by decide +kernel
theorem dX11_rule_98 : decode cX11_rule 98 = .ok (.ifCond .eq 7, 3) := by decide +kernel
theorem dX11_rule_101 : decode cX11_rule 101 = .ok (.iconst 0, 1) := by decide +kernel
theorem dX11_rule_102 : decode cX11_rule 102 = .ok (.goto 4, 3) := by decide +kernel
theorem dX11_rule_105 : decode cX11_rule 105 = .ok (.iconst 1, 1) := by decide +kernel
theorem dX11_rule_106 : decode cX11_rule 106 = .ok (.ireturn, 1) := by decide +kernel
theorem dX11_factOf_0 : decode cX11_factOf 0 = .ok (.iload_n 2, 1) := by decide +kernel
theorem dX11_factOf_1 : decode cX11_factOf 1 = .ok (.lookupswitch 79 #[(97, 43), (107, 64), (116, 57), (121, 50)], 43) := by decide +kernel
theorem dX11_factOf_44 : decode cX11_factOf 44 = .ok (.aload_n 0, 1) := by decide +kernel
theorem dX11_factOf_45 : decode cX11_factOf 45 = .ok (.getfield 38, 3) := by decide +kernel
theorem dX11_factOf_48 : decode cX11_factOf 48 = .ok (.iload_n 1, 1) := by decide +kernel
theorem dX11_factOf_49 : decode cX11_factOf 49 = .ok (.iaload, 1) := by decide +kernel
theorem dX11_factOf_50 : decode cX11_factOf 50 = .ok (.ireturn, 1) := by decide +kernel
theorem dX11_factOf_51 : decode cX11_factOf 51 = .ok (.aload_n 0, 1) := by decide +kernel
theorem dX11_factOf_52 : decode cX11_factOf 52 = .ok (.getfield 44, 3) := by decide +kernel
theorem dX11_factOf_55 : decode cX11_factOf 55 = .ok (.iload_n 1, 1) := by decide +kernel
theorem dX11_factOf_56 : decode cX11_factOf 56 = .ok (.iaload, 1) := by decide +kernel
theorem dX11_factOf_57 : decode cX11_factOf 57 = .ok (.ireturn, 1) := by decide +kernel
theorem dX11_factOf_58 : decode cX11_factOf 58 = .ok (.aload_n 0, 1) := by decide +kernel
theorem dX11_factOf_59 : decode cX11_factOf 59 = .ok (.getfield 41, 3) := by decide +kernel
theorem dX11_factOf_62 : decode cX11_factOf 62 = .ok (.iload_n 1, 1) := by decide +kernel
theorem dX11_factOf_63 : decode cX11_factOf 63 = .ok (.iaload, 1) := by decide +kernel
theorem dX11_factOf_64 : decode cX11_factOf 64 = .ok (.ireturn, 1) := by decide +kernel
theorem dX11_factOf_65 : decode cX11_factOf 65 = .ok (.aload_n 0, 1) := by decide +kernel
theorem dX11_factOf_66 : decode cX11_factOf 66 = .ok (.getfield 53, 3) := by decide +kernel
theorem dX11_factOf_69 : decode cX11_factOf 69 = .ok (.iload_n 1, 1) := by decide +kernel
theorem dX11_factOf_70 : decode cX11_factOf 70 = .ok (.baload, 1) := by decide +kernel
theorem dX11_factOf_71 : decode cX11_factOf 71 = .ok (.ifCond .eq 7, 3) := by decide +kernel
theorem dX11_factOf_74 : decode cX11_factOf 74 = .ok (.iconst 1, 1) := by decide +kernel
theorem dX11_factOf_75 : decode cX11_factOf 75 = .ok (.goto 4, 3) := by decide +kernel
theorem dX11_factOf_78 : decode cX11_factOf 78 = .ok (.iconst 0, 1) := by decide +kernel
theorem dX11_factOf_79 : decode cX11_factOf 79 = .ok (.ireturn, 1) := by decide +kernel
theorem dX11_factOf_80 : decode cX11_factOf 80 = .ok (.aload_n 0, 1) := by decide +kernel
theorem dX11_factOf_81 : decode cX11_factOf 81 = .ok (.getfield 50, 3) := by decide +kernel
theorem dX11_factOf_84 : decode cX11_factOf 84 = .ok (.iload_n 1, 1) := by decide +kernel
theorem dX11_factOf_85 : decode cX11_factOf 85 = .ok (.iaload, 1) := by decide +kernel
theorem dX11_factOf_86 : decode cX11_factOf 86 = .ok (.ifCond .ge 7, 3) := by decide +kernel
theorem dX11_factOf_89 : decode cX11_factOf 89 = .ok (.iconst 0, 1) := by decide +kernel
theorem dX11_factOf_90 : decode cX11_factOf 90 = .ok (.goto 19, 3) := by decide +kernel
theorem dX11_factOf_93 : decode cX11_factOf 93 = .ok (.aload_n 0, 1) := by decide +kernel
theorem dX11_factOf_94 : decode cX11_factOf 94 = .ok (.aload_n 0, 1) := by decide +kernel
theorem dX11_factOf_95 : decode cX11_factOf 95 = .ok (.getfield 47, 3) := by decide +kernel
theorem dX11_factOf_98 : decode cX11_factOf 98 = .ok (.iload_n 1, 1) := by decide +kernel
theorem dX11_factOf_99 : decode cX11_factOf 99 = .ok (.iaload, 1) := by decide +kernel
theorem dX11_factOf_100 : decode cX11_factOf 100 = .ok (.aload_n 0, 1) := by decide +kernel
theorem dX11_factOf_101 : decode cX11_factOf 101 = .ok (.getfield 50, 3) := by decide +kernel
theorem dX11_factOf_104 : decode cX11_factOf 104 = .ok (.iload_n 1, 1) := by decide +kernel
theorem dX11_factOf_105 : decode cX11_factOf 105 = .ok (.iaload, 1) := by decide +kernel
theorem dX11_factOf_106 : decode cX11_factOf 106 = .ok (.invokevirtual 225, 3) := by decide +kernel
theorem dX11_factOf_109 : decode cX11_factOf 109 = .ok (.ireturn, 1) := by decide +kernel
theorem dX11_actOn_0 : decode cX11_actOn 0 = .ok (.iload_n 0, 1) := by decide +kernel
theorem dX11_actOn_1 : decode cX11_actOn 1 = .ok (.tableswitch 181 38 62 #[163, 181, 181, 181, 123, 115, 181, 119, 181, 181, 181, 181, 181, 181, 181, 181, 181, 181, 181, 181, 181, 181, 127, 151, 139], 115) := by decide +kernel
theorem dX11_actOn_116 : decode cX11_actOn 116 = .ok (.lload_n 1, 1) := by decide +kernel
theorem dX11_actOn_117 : decode cX11_actOn 117 = .ok (.lload_n 3, 1) := by decide +kernel
theorem dX11_actOn_118 : decode cX11_actOn 118 = .ok (.ladd, 1) := by decide +kernel
theorem dX11_actOn_119 : decode cX11_actOn 119 = .ok (.lreturn, 1) := by decide +kernel
theorem dX11_actOn_120 : decode cX11_actOn 120 = .ok (.lload_n 1, 1) := by decide +kernel
theorem dX11_actOn_121 : decode cX11_actOn 121 = .ok (.lload_n 3, 1) := by decide +kernel
theorem dX11_actOn_122 : decode cX11_actOn 122 = .ok (.lsub, 1) := by decide +kernel
theorem dX11_actOn_123 : decode cX11_actOn 123 = .ok (.lreturn, 1) := by decide +kernel
theorem dX11_actOn_124 : decode cX11_actOn 124 = .ok (.lload_n 1, 1) := by decide +kernel
theorem dX11_actOn_125 : decode cX11_actOn 125 = .ok (.lload_n 3, 1) := by decide +kernel
theorem dX11_actOn_126 : decode cX11_actOn 126 = .ok (.lmul, 1) := by decide +kernel
theorem dX11_actOn_127 : decode cX11_actOn 127 = .ok (.lreturn, 1) := by decide +kernel
theorem dX11_actOn_128 : decode cX11_actOn 128 = .ok (.lload_n 1, 1) := by decide +kernel
theorem dX11_actOn_129 : decode cX11_actOn 129 = .ok (.lload_n 3, 1) := by decide +kernel
theorem dX11_actOn_130 : decode cX11_actOn 130 = .ok (.lcmp, 1) := by decide +kernel
theorem dX11_actOn_131 : decode cX11_actOn 131 = .ok (.ifCond .ge 7, 3) := by decide +kernel
theorem dX11_actOn_134 : decode cX11_actOn 134 = .ok (.lconst 1, 1) := by decide +kernel
theorem dX11_actOn_135 : decode cX11_actOn 135 = .ok (.goto 4, 3) := by decide +kernel
theorem dX11_actOn_138 : decode cX11_actOn 138 = .ok (.lconst 0, 1) := by decide +kernel
theorem dX11_actOn_139 : decode cX11_actOn 139 = .ok (.lreturn, 1) := by decide +kernel
theorem dX11_actOn_140 : decode cX11_actOn 140 = .ok (.lload_n 1, 1) := by decide +kernel
theorem dX11_actOn_141 : decode cX11_actOn 141 = .ok (.lload_n 3, 1) := by decide +kernel
theorem dX11_actOn_142 : decode cX11_actOn 142 = .ok (.lcmp, 1) := by decide +kernel
theorem dX11_actOn_143 : decode cX11_actOn 143 = .ok (.ifCond .le 7, 3) := by decide +kernel
theorem dX11_actOn_146 : decode cX11_actOn 146 = .ok (.lconst 1, 1) := by decide +kernel
theorem dX11_actOn_147 : decode cX11_actOn 147 = .ok (.goto 4, 3) := by decide +kernel
theorem dX11_actOn_150 : decode cX11_actOn 150 = .ok (.lconst 0, 1) := by decide +kernel
theorem dX11_actOn_151 : decode cX11_actOn 151 = .ok (.lreturn, 1) := by decide +kernel
theorem dX11_actOn_152 : decode cX11_actOn 152 = .ok (.lload_n 1, 1) := by decide +kernel
theorem dX11_actOn_153 : decode cX11_actOn 153 = .ok (.lload_n 3, 1) := by decide +kernel
theorem dX11_actOn_154 : decode cX11_actOn 154 = .ok (.lcmp, 1) := by decide +kernel
theorem dX11_actOn_155 : decode cX11_actOn 155 = .ok (.ifCond .ne 7, 3) := by decide +kernel
theorem dX11_actOn_158 : decode cX11_actOn 158 = .ok (.lconst 1, 1) := by decide +kernel
theorem dX11_actOn_159 : decode cX11_actOn 159 = .ok (.goto 4, 3) := by decide +kernel
theorem dX11_actOn_162 : decode cX11_actOn 162 = .ok (.lconst 0, 1) := by decide +kernel
theorem dX11_actOn_163 : decode cX11_actOn 163 = .ok (.lreturn, 1) := by decide +kernel
theorem dX11_actOn_164 : decode cX11_actOn 164 = .ok (.lload_n 1, 1) := by decide +kernel
theorem dX11_actOn_165 : decode cX11_actOn 165 = .ok (.lconst 0, 1) := by decide +kernel
theorem dX11_actOn_166 : decode cX11_actOn 166 = .ok (.lcmp, 1) := by decide +kernel
theorem dX11_actOn_167 : decode cX11_actOn 167 = .ok (.ifCond .eq 13, 3) := by decide +kernel
theorem dX11_actOn_170 : decode cX11_actOn 170 = .ok (.lload_n 3, 1) := by decide +kernel
theorem dX11_actOn_171 : decode cX11_actOn 171 = .ok (.lconst 0, 1) := by decide +kernel
theorem dX11_actOn_172 : decode cX11_actOn 172 = .ok (.lcmp, 1) := by decide +kernel
theorem dX11_actOn_173 : decode cX11_actOn 173 = .ok (.ifCond .eq 7, 3) := by decide +kernel
theorem dX11_actOn_176 : decode cX11_actOn 176 = .ok (.lconst 1, 1) := by decide +kernel
theorem dX11_actOn_177 : decode cX11_actOn 177 = .ok (.goto 4, 3) := by decide +kernel
theorem dX11_actOn_180 : decode cX11_actOn 180 = .ok (.lconst 0, 1) := by decide +kernel
theorem dX11_actOn_181 : decode cX11_actOn 181 = .ok (.lreturn, 1) := by decide +kernel
theorem dX11_actOn_182 : decode cX11_actOn 182 = .ok (.lload_n 1, 1) := by decide +kernel
theorem dX11_actOn_183 : decode cX11_actOn 183 = .ok (.lconst 0, 1) := by decide +kernel
theorem dX11_actOn_184 : decode cX11_actOn 184 = .ok (.lcmp, 1) := by decide +kernel
theorem dX11_actOn_185 : decode cX11_actOn 185 = .ok (.ifCond .ne 9, 3) := by decide +kernel
theorem dX11_actOn_188 : decode cX11_actOn 188 = .ok (.lload_n 3, 1) := by decide +kernel
theorem dX11_actOn_189 : decode cX11_actOn 189 = .ok (.lconst 0, 1) := by decide +kernel
theorem dX11_actOn_190 : decode cX11_actOn 190 = .ok (.lcmp, 1) := by decide +kernel
theorem dX11_actOn_191 : decode cX11_actOn 191 = .ok (.ifCond .eq 7, 3) := by decide +kernel
theorem dX11_actOn_194 : decode cX11_actOn 194 = .ok (.lconst 1, 1) := by decide +kernel
theorem dX11_actOn_195 : decode cX11_actOn 195 = .ok (.goto 4, 3) := by decide +kernel
theorem dX11_actOn_198 : decode cX11_actOn 198 = .ok (.lconst 0, 1) := by decide +kernel
theorem dX11_actOn_199 : decode cX11_actOn 199 = .ok (.lreturn, 1) := by decide +kernel
theorem dX11_lay_0 : decode cX11_lay 0 = .ok (.aload_n 0, 1) := by decide +kernel
theorem dX11_lay_1 : decode cX11_lay 1 = .ok (.getfield 68, 3) := by decide +kernel
theorem dX11_lay_4 : decode cX11_lay 4 = .ok (.aload_n 0, 1) := by decide +kernel
theorem dX11_lay_5 : decode cX11_lay 5 = .ok (.getfield 229, 3) := by decide +kernel
theorem dX11_lay_8 : decode cX11_lay 8 = .ok (.lload_n 1, 1) := by decide +kernel
theorem dX11_lay_9 : decode cX11_lay 9 = .ok (.ldc2_w 232, 3) := by decide +kernel
theorem dX11_lay_12 : decode cX11_lay 12 = .ok (.lcmp, 1) := by decide +kernel
theorem dX11_lay_13 : decode cX11_lay 13 = .ok (.ifCond .le 8, 3) := by decide +kernel
theorem dX11_lay_16 : decode cX11_lay 16 = .ok (.ldc 234, 2) := by decide +kernel
theorem dX11_lay_18 : decode cX11_lay 18 = .ok (.goto 18, 3) := by decide +kernel
theorem dX11_lay_21 : decode cX11_lay 21 = .ok (.lload_n 1, 1) := by decide +kernel
theorem dX11_lay_22 : decode cX11_lay 22 = .ok (.ldc2_w 235, 3) := by decide +kernel
theorem dX11_lay_25 : decode cX11_lay 25 = .ok (.lcmp, 1) := by decide +kernel
theorem dX11_lay_26 : decode cX11_lay 26 = .ok (.ifCond .ge 8, 3) := by decide +kernel
theorem dX11_lay_29 : decode cX11_lay 29 = .ok (.ldc 237, 2) := by decide +kernel
theorem dX11_lay_31 : decode cX11_lay 31 = .ok (.goto 5, 3) := by decide +kernel
theorem dX11_lay_34 : decode cX11_lay 34 = .ok (.lload_n 1, 1) := by decide +kernel
theorem dX11_lay_35 : decode cX11_lay 35 = .ok (.l2i, 1) := by decide +kernel
theorem dX11_lay_36 : decode cX11_lay 36 = .ok (.iastore, 1) := by decide +kernel
theorem dX11_lay_37 : decode cX11_lay 37 = .ok (.aload_n 0, 1) := by decide +kernel
theorem dX11_lay_38 : decode cX11_lay 38 = .ok (.dup, 1) := by decide +kernel
theorem dX11_lay_39 : decode cX11_lay 39 = .ok (.getfield 229, 3) := by decide +kernel
theorem dX11_lay_42 : decode cX11_lay 42 = .ok (.iconst 1, 1) := by decide +kernel
theorem dX11_lay_43 : decode cX11_lay 43 = .ok (.iadd, 1) := by decide +kernel
theorem dX11_lay_44 : decode cX11_lay 44 = .ok (.putfield 229, 3) := by decide +kernel
theorem dX11_lay_47 : decode cX11_lay 47 = .ok (.return_, 1) := by decide +kernel
theorem dX11_worthOf_0 : decode cX11_worthOf 0 = .ok (.aload_n 0, 1) := by decide +kernel
theorem dX11_worthOf_1 : decode cX11_worthOf 1 = .ok (.iconst 0, 1) := by decide +kernel
theorem dX11_worthOf_2 : decode cX11_worthOf 2 = .ok (.putfield 229, 3) := by decide +kernel
theorem dX11_worthOf_5 : decode cX11_worthOf 5 = .ok (.iconst 0, 1) := by decide +kernel
theorem dX11_worthOf_6 : decode cX11_worthOf 6 = .ok (.istore_n 3, 1) := by decide +kernel
theorem dX11_worthOf_7 : decode cX11_worthOf 7 = .ok (.bipush 40, 2) := by decide +kernel
theorem dX11_worthOf_9 : decode cX11_worthOf 9 = .ok (.iload_n 1, 1) := by decide +kernel
theorem dX11_worthOf_10 : decode cX11_worthOf 10 = .ok (.imul, 1) := by decide +kernel
theorem dX11_worthOf_11 : decode cX11_worthOf 11 = .ok (.istore 4, 2) := by decide +kernel
theorem dX11_worthOf_13 : decode cX11_worthOf 13 = .ok (.iload 4, 2) := by decide +kernel
theorem dX11_worthOf_15 : decode cX11_worthOf 15 = .ok (.bipush 40, 2) := by decide +kernel
theorem dX11_worthOf_17 : decode cX11_worthOf 17 = .ok (.iload_n 1, 1) := by decide +kernel
theorem dX11_worthOf_18 : decode cX11_worthOf 18 = .ok (.imul, 1) := by decide +kernel
theorem dX11_worthOf_19 : decode cX11_worthOf 19 = .ok (.aload_n 0, 1) := by decide +kernel
theorem dX11_worthOf_20 : decode cX11_worthOf 20 = .ok (.getfield 65, 3) := by decide +kernel
theorem dX11_worthOf_23 : decode cX11_worthOf 23 = .ok (.iload_n 1, 1) := by decide +kernel
theorem dX11_worthOf_24 : decode cX11_worthOf 24 = .ok (.iaload, 1) := by decide +kernel
theorem dX11_worthOf_25 : decode cX11_worthOf 25 = .ok (.iadd, 1) := by decide +kernel
theorem dX11_worthOf_26 : decode cX11_worthOf 26 = .ok (.if_icmp .ge 163, 3) := by decide +kernel
theorem dX11_worthOf_29 : decode cX11_worthOf 29 = .ok (.aload_n 0, 1) := by decide +kernel
theorem dX11_worthOf_30 : decode cX11_worthOf 30 = .ok (.getfield 62, 3) := by decide +kernel
theorem dX11_worthOf_33 : decode cX11_worthOf 33 = .ok (.iload 4, 2) := by decide +kernel
theorem dX11_worthOf_35 : decode cX11_worthOf 35 = .ok (.iaload, 1) := by decide +kernel
theorem dX11_worthOf_36 : decode cX11_worthOf 36 = .ok (.istore 5, 2) := by decide +kernel
theorem dX11_worthOf_38 : decode cX11_worthOf 38 = .ok (.iload 5, 2) := by decide +kernel
theorem dX11_worthOf_40 : decode cX11_worthOf 40 = .ok (.invokestatic 212, 3) := by decide +kernel
theorem dX11_worthOf_43 : decode cX11_worthOf 43 = .ok (.ifCond .eq 17, 3) := by decide +kernel
theorem dX11_worthOf_46 : decode cX11_worthOf 46 = .ok (.bipush 10, 2) := by decide +kernel
theorem dX11_worthOf_48 : decode cX11_worthOf 48 = .ok (.iload_n 3, 1) := by decide +kernel
theorem dX11_worthOf_49 : decode cX11_worthOf 49 = .ok (.imul, 1) := by decide +kernel
theorem dX11_worthOf_50 : decode cX11_worthOf 50 = .ok (.iload 5, 2) := by decide +kernel
theorem dX11_worthOf_52 : decode cX11_worthOf 52 = .ok (.iadd, 1) := by decide +kernel
theorem dX11_worthOf_53 : decode cX11_worthOf 53 = .ok (.bipush 48, 2) := by decide +kernel
theorem dX11_worthOf_55 : decode cX11_worthOf 55 = .ok (.isub, 1) := by decide +kernel
theorem dX11_worthOf_56 : decode cX11_worthOf 56 = .ok (.istore_n 3, 1) := by decide +kernel
theorem dX11_worthOf_57 : decode cX11_worthOf 57 = .ok (.goto 126, 3) := by decide +kernel
theorem dX11_worthOf_60 : decode cX11_worthOf 60 = .ok (.iload 5, 2) := by decide +kernel
theorem dX11_worthOf_62 : decode cX11_worthOf 62 = .ok (.bipush 44, 2) := by decide +kernel
theorem dX11_worthOf_64 : decode cX11_worthOf 64 = .ok (.if_icmp .ne 14, 3) := by decide +kernel
theorem dX11_worthOf_67 : decode cX11_worthOf 67 = .ok (.aload_n 0, 1) := by decide +kernel
theorem dX11_worthOf_68 : decode cX11_worthOf 68 = .ok (.iload_n 3, 1) := by decide +kernel
theorem dX11_worthOf_69 : decode cX11_worthOf 69 = .ok (.i2l, 1) := by decide +kernel
theorem dX11_worthOf_70 : decode cX11_worthOf 70 = .ok (.invokevirtual 238, 3) := by decide +kernel
theorem dX11_worthOf_73 : decode cX11_worthOf 73 = .ok (.iconst 0, 1) := by decide +kernel
theorem dX11_worthOf_74 : decode cX11_worthOf 74 = .ok (.istore_n 3, 1) := by decide +kernel
theorem dX11_worthOf_75 : decode cX11_worthOf 75 = .ok (.goto 108, 3) := by decide +kernel
theorem dX11_worthOf_78 : decode cX11_worthOf 78 = .ok (.iload 5, 2) := by decide +kernel
theorem dX11_worthOf_80 : decode cX11_worthOf 80 = .ok (.invokestatic 215, 3) := by decide +kernel
theorem dX11_worthOf_83 : decode cX11_worthOf 83 = .ok (.ifCond .eq 18, 3) := by decide +kernel
theorem dX11_worthOf_86 : decode cX11_worthOf 86 = .ok (.aload_n 0, 1) := by decide +kernel
theorem dX11_worthOf_87 : decode cX11_worthOf 87 = .ok (.aload_n 0, 1) := by decide +kernel
theorem dX11_worthOf_88 : decode cX11_worthOf 88 = .ok (.iload_n 2, 1) := by decide +kernel
theorem dX11_worthOf_89 : decode cX11_worthOf 89 = .ok (.iload 5, 2) := by decide +kernel
theorem dX11_worthOf_91 : decode cX11_worthOf 91 = .ok (.invokevirtual 242, 3) := by decide +kernel
theorem dX11_worthOf_94 : decode cX11_worthOf 94 = .ok (.i2l, 1) := by decide +kernel
theorem dX11_worthOf_95 : decode cX11_worthOf 95 = .ok (.invokevirtual 238, 3) := by decide +kernel
theorem dX11_worthOf_98 : decode cX11_worthOf 98 = .ok (.goto 85, 3) := by decide +kernel
theorem dX11_worthOf_101 : decode cX11_worthOf 101 = .ok (.iload 5, 2) := by decide +kernel
theorem dX11_worthOf_103 : decode cX11_worthOf 103 = .ok (.bipush 33, 2) := by decide +kernel
theorem dX11_worthOf_105 : decode cX11_worthOf 105 = .ok (.if_icmp .ne 37, 3) := by decide +kernel
theorem dX11_worthOf_108 : decode cX11_worthOf 108 = .ok (.aload_n 0, 1) := by decide +kernel
theorem dX11_worthOf_109 : decode cX11_worthOf 109 = .ok (.dup, 1) := by decide +kernel
theorem dX11_worthOf_110 : decode cX11_worthOf 110 = .ok (.getfield 229, 3) := by decide +kernel
theorem dX11_worthOf_113 : decode cX11_worthOf 113 = .ok (.iconst 1, 1) := by decide +kernel
theorem dX11_worthOf_114 : decode cX11_worthOf 114 = .ok (.isub, 1) := by decide +kernel
theorem dX11_worthOf_115 : decode cX11_worthOf 115 = .ok (.putfield 229, 3) := by decide +kernel
theorem dX11_worthOf_118 : decode cX11_worthOf 118 = .ok (.aload_n 0, 1) := by decide +kernel
theorem dX11_worthOf_119 : decode cX11_worthOf 119 = .ok (.aload_n 0, 1) := by decide +kernel
theorem dX11_worthOf_120 : decode cX11_worthOf 120 = .ok (.getfield 68, 3) := by decide +kernel
theorem dX11_worthOf_123 : decode cX11_worthOf 123 = .ok (.aload_n 0, 1) := by decide +kernel
theorem dX11_worthOf_124 : decode cX11_worthOf 124 = .ok (.getfield 229, 3) := by decide +kernel
theorem dX11_worthOf_127 : decode cX11_worthOf 127 = .ok (.iaload, 1) := by decide +kernel
theorem dX11_worthOf_128 : decode cX11_worthOf 128 = .ok (.ifCond .ne 7, 3) := by decide +kernel
theorem dX11_worthOf_131 : decode cX11_worthOf 131 = .ok (.lconst 1, 1) := by decide +kernel
theorem dX11_worthOf_132 : decode cX11_worthOf 132 = .ok (.goto 4, 3) := by decide +kernel
theorem dX11_worthOf_135 : decode cX11_worthOf 135 = .ok (.lconst 0, 1) := by decide +kernel
theorem dX11_worthOf_136 : decode cX11_worthOf 136 = .ok (.invokevirtual 238, 3) := by decide +kernel
theorem dX11_worthOf_139 : decode cX11_worthOf 139 = .ok (.goto 44, 3) := by decide +kernel
theorem dX11_worthOf_142 : decode cX11_worthOf 142 = .ok (.aload_n 0, 1) := by decide +kernel
theorem dX11_worthOf_143 : decode cX11_worthOf 143 = .ok (.dup, 1) := by decide +kernel
theorem dX11_worthOf_144 : decode cX11_worthOf 144 = .ok (.getfield 229, 3) := by decide +kernel
theorem dX11_worthOf_147 : decode cX11_worthOf 147 = .ok (.iconst 2, 1) := by decide +kernel
theorem dX11_worthOf_148 : decode cX11_worthOf 148 = .ok (.isub, 1) := by decide +kernel
theorem dX11_worthOf_149 : decode cX11_worthOf 149 = .ok (.putfield 229, 3) := by decide +kernel
theorem dX11_worthOf_152 : decode cX11_worthOf 152 = .ok (.aload_n 0, 1) := by decide +kernel
theorem dX11_worthOf_153 : decode cX11_worthOf 153 = .ok (.iload 5, 2) := by decide +kernel
theorem dX11_worthOf_155 : decode cX11_worthOf 155 = .ok (.aload_n 0, 1) := by decide +kernel
theorem dX11_worthOf_156 : decode cX11_worthOf 156 = .ok (.getfield 68, 3) := by decide +kernel
theorem dX11_worthOf_159 : decode cX11_worthOf 159 = .ok (.aload_n 0, 1) := by decide +kernel
theorem dX11_worthOf_160 : decode cX11_worthOf 160 = .ok (.getfield 229, 3) := by decide +kernel
theorem dX11_worthOf_163 : decode cX11_worthOf 163 = .ok (.iaload, 1) := by decide +kernel
theorem dX11_worthOf_164 : decode cX11_worthOf 164 = .ok (.i2l, 1) := by decide +kernel
theorem dX11_worthOf_165 : decode cX11_worthOf 165 = .ok (.aload_n 0, 1) := by decide +kernel
theorem dX11_worthOf_166 : decode cX11_worthOf 166 = .ok (.getfield 68, 3) := by decide +kernel
theorem dX11_worthOf_169 : decode cX11_worthOf 169 = .ok (.aload_n 0, 1) := by decide +kernel
theorem dX11_worthOf_170 : decode cX11_worthOf 170 = .ok (.getfield 229, 3) := by decide +kernel
theorem dX11_worthOf_173 : decode cX11_worthOf 173 = .ok (.iconst 1, 1) := by decide +kernel
theorem dX11_worthOf_174 : decode cX11_worthOf 174 = .ok (.iadd, 1) := by decide +kernel
theorem dX11_worthOf_175 : decode cX11_worthOf 175 = .ok (.iaload, 1) := by decide +kernel
theorem dX11_worthOf_176 : decode cX11_worthOf 176 = .ok (.i2l, 1) := by decide +kernel
theorem dX11_worthOf_177 : decode cX11_worthOf 177 = .ok (.invokestatic 245, 3) := by decide +kernel
theorem dX11_worthOf_180 : decode cX11_worthOf 180 = .ok (.invokevirtual 238, 3) := by decide +kernel
theorem dX11_worthOf_183 : decode cX11_worthOf 183 = .ok (.iinc 4 1, 3) := by decide +kernel
theorem dX11_worthOf_186 : decode cX11_worthOf 186 = .ok (.goto (-173), 3) := by decide +kernel
theorem dX11_worthOf_189 : decode cX11_worthOf 189 = .ok (.aload_n 0, 1) := by decide +kernel
theorem dX11_worthOf_190 : decode cX11_worthOf 190 = .ok (.getfield 68, 3) := by decide +kernel
theorem dX11_worthOf_193 : decode cX11_worthOf 193 = .ok (.iconst 0, 1) := by decide +kernel
theorem dX11_worthOf_194 : decode cX11_worthOf 194 = .ok (.iaload, 1) := by decide +kernel
theorem dX11_worthOf_195 : decode cX11_worthOf 195 = .ok (.ireturn, 1) := by decide +kernel
theorem dX11_worth_0 : decode cX11_worth 0 = .ok (.aload_n 0, 1) := by decide +kernel
theorem dX11_worth_1 : decode cX11_worth 1 = .ok (.iload_n 2, 1) := by decide +kernel
theorem dX11_worth_2 : decode cX11_worth 2 = .ok (.invokevirtual 187, 3) := by decide +kernel
theorem dX11_worth_5 : decode cX11_worth 5 = .ok (.ifCond .ne 6, 3) := by decide +kernel
theorem dX11_worth_8 : decode cX11_worth 8 = .ok (.ldc 249, 2) := by decide +kernel
theorem dX11_worth_10 : decode cX11_worth 10 = .ok (.ireturn, 1) := by decide +kernel
theorem dX11_worth_11 : decode cX11_worth 11 = .ok (.iload_n 1, 1) := by decide +kernel
theorem dX11_worth_12 : decode cX11_worth 12 = .ok (.i2l, 1) := by decide +kernel
theorem dX11_worth_13 : decode cX11_worth 13 = .ok (.lconst 0, 1) := by decide +kernel
theorem dX11_worth_14 : decode cX11_worth 14 = .ok (.ldc2_w 183, 3) := by decide +kernel
theorem dX11_worth_17 : decode cX11_worth 17 = .ok (.invokestatic 140, 3) := by decide +kernel
theorem dX11_worth_20 : decode cX11_worth 20 = .ok (.ifCond .ne 6, 3) := by decide +kernel
theorem dX11_worth_23 : decode cX11_worth 23 = .ok (.ldc 250, 2) := by decide +kernel
theorem dX11_worth_25 : decode cX11_worth 25 = .ok (.ireturn, 1) := by decide +kernel
theorem dX11_worth_26 : decode cX11_worth 26 = .ok (.aload_n 0, 1) := by decide +kernel
theorem dX11_worth_27 : decode cX11_worth 27 = .ok (.getfield 65, 3) := by decide +kernel
theorem dX11_worth_30 : decode cX11_worth 30 = .ok (.iload_n 1, 1) := by decide +kernel
theorem dX11_worth_31 : decode cX11_worth 31 = .ok (.iaload, 1) := by decide +kernel
theorem dX11_worth_32 : decode cX11_worth 32 = .ok (.ifCond .ge 8, 3) := by decide +kernel
theorem dX11_worth_35 : decode cX11_worth 35 = .ok (.ldc 251, 2) := by decide +kernel
theorem dX11_worth_37 : decode cX11_worth 37 = .ok (.goto 9, 3) := by decide +kernel
theorem dX11_worth_40 : decode cX11_worth 40 = .ok (.aload_n 0, 1) := by decide +kernel
theorem dX11_worth_41 : decode cX11_worth 41 = .ok (.iload_n 1, 1) := by decide +kernel
theorem dX11_worth_42 : decode cX11_worth 42 = .ok (.iload_n 2, 1) := by decide +kernel
theorem dX11_worth_43 : decode cX11_worth 43 = .ok (.invokevirtual 252, 3) := by decide +kernel
theorem dX11_worth_46 : decode cX11_worth 46 = .ok (.ireturn, 1) := by decide +kernel
theorem dX11_isSo_0 : decode cX11_isSo 0 = .ok (.aload_n 0, 1) := by decide +kernel
theorem dX11_isSo_1 : decode cX11_isSo 1 = .ok (.getfield 65, 3) := by decide +kernel
theorem dX11_isSo_4 : decode cX11_isSo 4 = .ok (.iload_n 1, 1) := by decide +kernel
theorem dX11_isSo_5 : decode cX11_isSo 5 = .ok (.iaload, 1) := by decide +kernel
theorem dX11_isSo_6 : decode cX11_isSo 6 = .ok (.ifCond .lt 16, 3) := by decide +kernel
theorem dX11_isSo_9 : decode cX11_isSo 9 = .ok (.aload_n 0, 1) := by decide +kernel
theorem dX11_isSo_10 : decode cX11_isSo 10 = .ok (.iload_n 1, 1) := by decide +kernel
theorem dX11_isSo_11 : decode cX11_isSo 11 = .ok (.iload_n 2, 1) := by decide +kernel
theorem dX11_isSo_12 : decode cX11_isSo 12 = .ok (.invokevirtual 252, 3) := by decide +kernel
theorem dX11_isSo_15 : decode cX11_isSo 15 = .ok (.ifCond .eq 7, 3) := by decide +kernel
theorem dX11_isSo_18 : decode cX11_isSo 18 = .ok (.iconst 1, 1) := by decide +kernel
theorem dX11_isSo_19 : decode cX11_isSo 19 = .ok (.goto 4, 3) := by decide +kernel
theorem dX11_isSo_22 : decode cX11_isSo 22 = .ok (.iconst 0, 1) := by decide +kernel
theorem dX11_isSo_23 : decode cX11_isSo 23 = .ok (.ireturn, 1) := by decide +kernel
theorem dX11_findMovers_0 : decode cX11_findMovers 0 = .ok (.aload_n 0, 1) := by decide +kernel
theorem dX11_findMovers_1 : decode cX11_findMovers 1 = .ok (.iconst 0, 1) := by decide +kernel
theorem dX11_findMovers_2 : decode cX11_findMovers 2 = .ok (.putfield 255, 3) := by decide +kernel
theorem dX11_findMovers_5 : decode cX11_findMovers 5 = .ok (.aload_n 0, 1) := by decide +kernel
theorem dX11_findMovers_6 : decode cX11_findMovers 6 = .ok (.iconst 0, 1) := by decide +kernel
theorem dX11_findMovers_7 : decode cX11_findMovers 7 = .ok (.putfield 258, 3) := by decide +kernel
theorem dX11_findMovers_10 : decode cX11_findMovers 10 = .ok (.iconst 0, 1) := by decide +kernel
theorem dX11_findMovers_11 : decode cX11_findMovers 11 = .ok (.istore_n 2, 1) := by decide +kernel
theorem dX11_findMovers_12 : decode cX11_findMovers 12 = .ok (.iload_n 2, 1) := by decide +kernel
theorem dX11_findMovers_13 : decode cX11_findMovers 13 = .ok (.aload_n 0, 1) := by decide +kernel
theorem dX11_findMovers_14 : decode cX11_findMovers 14 = .ok (.getfield 166, 3) := by decide +kernel
theorem dX11_findMovers_17 : decode cX11_findMovers 17 = .ok (.if_icmp .ge 61, 3) := by decide +kernel
theorem dX11_findMovers_20 : decode cX11_findMovers 20 = .ok (.aload_n 0, 1) := by decide +kernel
theorem dX11_findMovers_21 : decode cX11_findMovers 21 = .ok (.getfield 50, 3) := by decide +kernel
theorem dX11_findMovers_24 : decode cX11_findMovers 24 = .ok (.iload_n 2, 1) := by decide +kernel
theorem dX11_findMovers_25 : decode cX11_findMovers 25 = .ok (.iaload, 1) := by decide +kernel
theorem dX11_findMovers_26 : decode cX11_findMovers 26 = .ok (.iload_n 1, 1) := by decide +kernel
theorem dX11_findMovers_27 : decode cX11_findMovers 27 = .ok (.if_icmp .ne 45, 3) := by decide +kernel
theorem dX11_findMovers_30 : decode cX11_findMovers 30 = .ok (.aload_n 0, 1) := by decide +kernel
theorem dX11_findMovers_31 : decode cX11_findMovers 31 = .ok (.iconst 0, 1) := by decide +kernel
theorem dX11_findMovers_32 : decode cX11_findMovers 32 = .ok (.iload_n 2, 1) := by decide +kernel
theorem dX11_findMovers_33 : decode cX11_findMovers 33 = .ok (.invokevirtual 261, 3) := by decide +kernel
theorem dX11_findMovers_36 : decode cX11_findMovers 36 = .ok (.ifCond .eq 16, 3) := by decide +kernel
theorem dX11_findMovers_39 : decode cX11_findMovers 39 = .ok (.aload_n 0, 1) := by decide +kernel
theorem dX11_findMovers_40 : decode cX11_findMovers 40 = .ok (.dup, 1) := by decide +kernel
theorem dX11_findMovers_41 : decode cX11_findMovers 41 = .ok (.getfield 258, 3) := by decide +kernel
theorem dX11_findMovers_44 : decode cX11_findMovers 44 = .ok (.iconst 1, 1) := by decide +kernel
theorem dX11_findMovers_45 : decode cX11_findMovers 45 = .ok (.iadd, 1) := by decide +kernel
theorem dX11_findMovers_46 : decode cX11_findMovers 46 = .ok (.putfield 258, 3) := by decide +kernel
theorem dX11_findMovers_49 : decode cX11_findMovers 49 = .ok (.goto 23, 3) := by decide +kernel
theorem dX11_findMovers_52 : decode cX11_findMovers 52 = .ok (.aload_n 0, 1) := by decide +kernel
theorem dX11_findMovers_53 : decode cX11_findMovers 53 = .ok (.getfield 71, 3) := by decide +kernel
theorem dX11_findMovers_56 : decode cX11_findMovers 56 = .ok (.aload_n 0, 1) := by decide +kernel
theorem dX11_findMovers_57 : decode cX11_findMovers 57 = .ok (.getfield 255, 3) := by decide +kernel
theorem dX11_findMovers_60 : decode cX11_findMovers 60 = .ok (.iload_n 2, 1) := by decide +kernel
theorem dX11_findMovers_61 : decode cX11_findMovers 61 = .ok (.iastore, 1) := by decide +kernel
theorem dX11_findMovers_62 : decode cX11_findMovers 62 = .ok (.aload_n 0, 1) := by decide +kernel
theorem dX11_findMovers_63 : decode cX11_findMovers 63 = .ok (.dup, 1) := by decide +kernel
theorem dX11_findMovers_64 : decode cX11_findMovers 64 = .ok (.getfield 255, 3) := by decide +kernel
theorem dX11_findMovers_67 : decode cX11_findMovers 67 = .ok (.iconst 1, 1) := by decide +kernel
theorem dX11_findMovers_68 : decode cX11_findMovers 68 = .ok (.iadd, 1) := by decide +kernel
theorem dX11_findMovers_69 : decode cX11_findMovers 69 = .ok (.putfield 255, 3) := by decide +kernel
theorem dX11_findMovers_72 : decode cX11_findMovers 72 = .ok (.iinc 2 1, 3) := by decide +kernel
theorem dX11_findMovers_75 : decode cX11_findMovers 75 = .ok (.goto (-63), 3) := by decide +kernel
theorem dX11_findMovers_78 : decode cX11_findMovers 78 = .ok (.aload_n 0, 1) := by decide +kernel
theorem dX11_findMovers_79 : decode cX11_findMovers 79 = .ok (.iconst 0, 1) := by decide +kernel
theorem dX11_findMovers_80 : decode cX11_findMovers 80 = .ok (.putfield 264, 3) := by decide +kernel
theorem dX11_findMovers_83 : decode cX11_findMovers 83 = .ok (.iconst 0, 1) := by decide +kernel
theorem dX11_findMovers_84 : decode cX11_findMovers 84 = .ok (.istore_n 2, 1) := by decide +kernel
theorem dX11_findMovers_85 : decode cX11_findMovers 85 = .ok (.iload_n 2, 1) := by decide +kernel
theorem dX11_findMovers_86 : decode cX11_findMovers 86 = .ok (.aload_n 0, 1) := by decide +kernel
theorem dX11_findMovers_87 : decode cX11_findMovers 87 = .ok (.getfield 144, 3) := by decide +kernel
theorem dX11_findMovers_90 : decode cX11_findMovers 90 = .ok (.if_icmp .ge 99, 3) := by decide +kernel
theorem dX11_findMovers_93 : decode cX11_findMovers 93 = .ok (.iconst 0, 1) := by decide +kernel
theorem dX11_findMovers_94 : decode cX11_findMovers 94 = .ok (.istore_n 3, 1) := by decide +kernel
theorem dX11_findMovers_95 : decode cX11_findMovers 95 = .ok (.iload_n 3, 1) := by decide +kernel
theorem dX11_findMovers_96 : decode cX11_findMovers 96 = .ok (.iconst 3, 1) := by decide +kernel
theorem dX11_findMovers_97 : decode cX11_findMovers 97 = .ok (.if_icmp .ge 86, 3) := by decide +kernel
theorem dX11_findMovers_100 : decode cX11_findMovers 100 = .ok (.aload_n 0, 1) := by decide +kernel
theorem dX11_findMovers_101 : decode cX11_findMovers 101 = .ok (.getfield 31, 3) := by decide +kernel
theorem dX11_findMovers_104 : decode cX11_findMovers 104 = .ok (.iload_n 2, 1) := by decide +kernel
theorem dX11_findMovers_105 : decode cX11_findMovers 105 = .ok (.baload, 1) := by decide +kernel
theorem dX11_findMovers_106 : decode cX11_findMovers 106 = .ok (.ifCond .eq 77, 3) := by decide +kernel
theorem dX11_findMovers_109 : decode cX11_findMovers 109 = .ok (.iload_n 2, 1) := by decide +kernel
theorem dX11_findMovers_110 : decode cX11_findMovers 110 = .ok (.iload_n 1, 1) := by decide +kernel
theorem dX11_findMovers_111 : decode cX11_findMovers 111 = .ok (.if_icmp .eq 72, 3) := by decide +kernel
theorem dX11_findMovers_114 : decode cX11_findMovers 114 = .ok (.iconst 0, 1) := by decide +kernel
theorem dX11_findMovers_115 : decode cX11_findMovers 115 = .ok (.istore 4, 2) := by decide +kernel
theorem dX11_findMovers_117 : decode cX11_findMovers 117 = .ok (.iload 4, 2) := by decide +kernel
theorem dX11_findMovers_119 : decode cX11_findMovers 119 = .ok (.aload_n 0, 1) := by decide +kernel
theorem dX11_findMovers_120 : decode cX11_findMovers 120 = .ok (.getfield 35, 3) := by decide +kernel
theorem dX11_findMovers_123 : decode cX11_findMovers 123 = .ok (.iconst 3, 1) := by decide +kernel
theorem dX11_findMovers_124 : decode cX11_findMovers 124 = .ok (.iload_n 2, 1) := by decide +kernel
theorem dX11_findMovers_125 : decode cX11_findMovers 125 = .ok (.imul, 1) := by decide +kernel
theorem dX11_findMovers_126 : decode cX11_findMovers 126 = .ok (.iload_n 3, 1) := by decide +kernel
theorem dX11_findMovers_127 : decode cX11_findMovers 127 = .ok (.iadd, 1) := by decide +kernel
theorem dX11_findMovers_128 : decode cX11_findMovers 128 = .ok (.iaload, 1) := by decide +kernel
theorem dX11_findMovers_129 : decode cX11_findMovers 129 = .ok (.if_icmp .ge 48, 3) := by decide +kernel
theorem dX11_findMovers_132 : decode cX11_findMovers 132 = .ok (.aload_n 0, 1) := by decide +kernel
theorem dX11_findMovers_133 : decode cX11_findMovers 133 = .ok (.getfield 264, 3) := by decide +kernel
theorem dX11_findMovers_136 : decode cX11_findMovers 136 = .ok (.bipush 12, 2) := by decide +kernel
theorem dX11_findMovers_138 : decode cX11_findMovers 138 = .ok (.if_icmp .ge 39, 3) := by decide +kernel
theorem dX11_findMovers_141 : decode cX11_findMovers 141 = .ok (.aload_n 0, 1) := by decide +kernel
theorem dX11_findMovers_142 : decode cX11_findMovers 142 = .ok (.getfield 74, 3) := by decide +kernel
theorem dX11_findMovers_145 : decode cX11_findMovers 145 = .ok (.aload_n 0, 1) := by decide +kernel
theorem dX11_findMovers_146 : decode cX11_findMovers 146 = .ok (.getfield 264, 3) := by decide +kernel
theorem dX11_findMovers_149 : decode cX11_findMovers 149 = .ok (.iload_n 2, 1) := by decide +kernel
theorem dX11_findMovers_150 : decode cX11_findMovers 150 = .ok (.iastore, 1) := by decide +kernel
theorem dX11_findMovers_151 : decode cX11_findMovers 151 = .ok (.aload_n 0, 1) := by decide +kernel
theorem dX11_findMovers_152 : decode cX11_findMovers 152 = .ok (.getfield 77, 3) := by decide +kernel
theorem dX11_findMovers_155 : decode cX11_findMovers 155 = .ok (.aload_n 0, 1) := by decide +kernel
theorem dX11_findMovers_156 : decode cX11_findMovers 156 = .ok (.getfield 264, 3) := by decide +kernel
theorem dX11_findMovers_159 : decode cX11_findMovers 159 = .ok (.iload_n 3, 1) := by decide +kernel
theorem dX11_findMovers_160 : decode cX11_findMovers 160 = .ok (.iastore, 1) := by decide +kernel
theorem dX11_findMovers_161 : decode cX11_findMovers 161 = .ok (.aload_n 0, 1) := by decide +kernel
theorem dX11_findMovers_162 : decode cX11_findMovers 162 = .ok (.dup, 1) := by decide +kernel
theorem dX11_findMovers_163 : decode cX11_findMovers 163 = .ok (.getfield 264, 3) := by decide +kernel
theorem dX11_findMovers_166 : decode cX11_findMovers 166 = .ok (.iconst 1, 1) := by decide +kernel
theorem dX11_findMovers_167 : decode cX11_findMovers 167 = .ok (.iadd, 1) := by decide +kernel
theorem dX11_findMovers_168 : decode cX11_findMovers 168 = .ok (.putfield 264, 3) := by decide +kernel
theorem dX11_findMovers_171 : decode cX11_findMovers 171 = .ok (.iinc 4 1, 3) := by decide +kernel
theorem dX11_findMovers_174 : decode cX11_findMovers 174 = .ok (.goto (-57), 3) := by decide +kernel
theorem dX11_findMovers_177 : decode cX11_findMovers 177 = .ok (.iinc 3 1, 3) := by decide +kernel
theorem dX11_findMovers_180 : decode cX11_findMovers 180 = .ok (.goto (-85), 3) := by decide +kernel
theorem dX11_findMovers_183 : decode cX11_findMovers 183 = .ok (.iinc 2 1, 3) := by decide +kernel
theorem dX11_findMovers_186 : decode cX11_findMovers 186 = .ok (.goto (-101), 3) := by decide +kernel
theorem dX11_findMovers_189 : decode cX11_findMovers 189 = .ok (.return_, 1) := by decide +kernel
theorem dX11_byslot_0 : decode cX11_byslot 0 = .ok (.aload_n 0, 1) := by decide +kernel
theorem dX11_byslot_1 : decode cX11_byslot 1 = .ok (.getfield 71, 3) := by decide +kernel
theorem dX11_byslot_4 : decode cX11_byslot 4 = .ok (.iload_n 1, 1) := by decide +kernel
theorem dX11_byslot_5 : decode cX11_byslot 5 = .ok (.iaload, 1) := by decide +kernel
theorem dX11_byslot_6 : decode cX11_byslot 6 = .ok (.istore 4, 2) := by decide +kernel
theorem dX11_byslot_8 : decode cX11_byslot 8 = .ok (.aload_n 0, 1) := by decide +kernel
theorem dX11_byslot_9 : decode cX11_byslot 9 = .ok (.aload_n 0, 1) := by decide +kernel
theorem dX11_byslot_10 : decode cX11_byslot 10 = .ok (.getfield 47, 3) := by decide +kernel
theorem dX11_byslot_13 : decode cX11_byslot 13 = .ok (.iload 4, 2) := by decide +kernel
theorem dX11_byslot_15 : decode cX11_byslot 15 = .ok (.iaload, 1) := by decide +kernel
theorem dX11_byslot_16 : decode cX11_byslot 16 = .ok (.aload_n 0, 1) := by decide +kernel
theorem dX11_byslot_17 : decode cX11_byslot 17 = .ok (.getfield 74, 3) := by decide +kernel
theorem dX11_byslot_20 : decode cX11_byslot 20 = .ok (.iload_n 3, 1) := by decide +kernel
theorem dX11_byslot_21 : decode cX11_byslot 21 = .ok (.iaload, 1) := by decide +kernel
theorem dX11_byslot_22 : decode cX11_byslot 22 = .ok (.invokevirtual 225, 3) := by decide +kernel
theorem dX11_byslot_25 : decode cX11_byslot 25 = .ok (.istore 5, 2) := by decide +kernel
theorem dX11_byslot_27 : decode cX11_byslot 27 = .ok (.iload 5, 2) := by decide +kernel
theorem dX11_byslot_29 : decode cX11_byslot 29 = .ok (.aload_n 0, 1) := by decide +kernel
theorem dX11_byslot_30 : decode cX11_byslot 30 = .ok (.getfield 59, 3) := by decide +kernel
theorem dX11_byslot_33 : decode cX11_byslot 33 = .ok (.iconst 1, 1) := by decide +kernel
theorem dX11_byslot_34 : decode cX11_byslot 34 = .ok (.iaload, 1) := by decide +kernel
theorem dX11_byslot_35 : decode cX11_byslot 35 = .ok (.if_icmp .le 7, 3) := by decide +kernel
theorem dX11_byslot_38 : decode cX11_byslot 38 = .ok (.iconst 1, 1) := by decide +kernel
theorem dX11_byslot_39 : decode cX11_byslot 39 = .ok (.goto 4, 3) := by decide +kernel
theorem dX11_byslot_42 : decode cX11_byslot 42 = .ok (.iconst 0, 1) := by decide +kernel
theorem dX11_byslot_43 : decode cX11_byslot 43 = .ok (.istore 6, 2) := by decide +kernel
theorem dX11_byslot_45 : decode cX11_byslot 45 = .ok (.iload_n 2, 1) := by decide +kernel
theorem dX11_byslot_46 : decode cX11_byslot 46 = .ok (.iload_n 3, 1) := by decide +kernel
theorem dX11_byslot_47 : decode cX11_byslot 47 = .ok (.ishr, 1) := by decide +kernel
theorem dX11_byslot_48 : decode cX11_byslot 48 = .ok (.iconst 1, 1) := by decide +kernel
theorem dX11_byslot_49 : decode cX11_byslot 49 = .ok (.iand, 1) := by decide +kernel
theorem dX11_byslot_50 : decode cX11_byslot 50 = .ok (.iconst 1, 1) := by decide +kernel
theorem dX11_byslot_51 : decode cX11_byslot 51 = .ok (.if_icmp .eq 33, 3) := by decide +kernel
theorem dX11_byslot_54 : decode cX11_byslot 54 = .ok (.aload_n 0, 1) := by decide +kernel
theorem dX11_byslot_55 : decode cX11_byslot 55 = .ok (.getfield 77, 3) := by decide +kernel
theorem dX11_byslot_58 : decode cX11_byslot 58 = .ok (.iload_n 3, 1) := by decide +kernel
theorem dX11_byslot_59 : decode cX11_byslot 59 = .ok (.iaload, 1) := by decide +kernel
theorem dX11_byslot_60 : decode cX11_byslot 60 = .ok (.aload_n 0, 1) := by decide +kernel
theorem dX11_byslot_61 : decode cX11_byslot 61 = .ok (.getfield 41, 3) := by decide +kernel
theorem dX11_byslot_64 : decode cX11_byslot 64 = .ok (.iload 4, 2) := by decide +kernel
theorem dX11_byslot_66 : decode cX11_byslot 66 = .ok (.iaload, 1) := by decide +kernel
theorem dX11_byslot_67 : decode cX11_byslot 67 = .ok (.if_icmp .ne 17, 3) := by decide +kernel
theorem dX11_byslot_70 : decode cX11_byslot 70 = .ok (.iload 6, 2) := by decide +kernel
theorem dX11_byslot_72 : decode cX11_byslot 72 = .ok (.ifCond .eq 16, 3) := by decide +kernel
theorem dX11_byslot_75 : decode cX11_byslot 75 = .ok (.aload_n 0, 1) := by decide +kernel
theorem dX11_byslot_76 : decode cX11_byslot 76 = .ok (.getfield 87, 3) := by decide +kernel
theorem dX11_byslot_79 : decode cX11_byslot 79 = .ok (.iload_n 1, 1) := by decide +kernel
theorem dX11_byslot_80 : decode cX11_byslot 80 = .ok (.baload, 1) := by decide +kernel
theorem dX11_byslot_81 : decode cX11_byslot 81 = .ok (.ifCond .eq 7, 3) := by decide +kernel
theorem dX11_byslot_84 : decode cX11_byslot 84 = .ok (.ldc_w 267, 3) := by decide +kernel
theorem dX11_byslot_87 : decode cX11_byslot 87 = .ok (.ireturn, 1) := by decide +kernel
theorem dX11_byslot_88 : decode cX11_byslot 88 = .ok (.aload_n 0, 1) := by decide +kernel
theorem dX11_byslot_89 : decode cX11_byslot 89 = .ok (.getfield 81, 3) := by decide +kernel
theorem dX11_byslot_92 : decode cX11_byslot 92 = .ok (.sipush 4096, 3) := by decide +kernel
theorem dX11_byslot_95 : decode cX11_byslot 95 = .ok (.iload_n 1, 1) := by decide +kernel
theorem dX11_byslot_96 : decode cX11_byslot 96 = .ok (.iconst 1, 1) := by decide +kernel
theorem dX11_byslot_97 : decode cX11_byslot 97 = .ok (.iadd, 1) := by decide +kernel
theorem dX11_byslot_98 : decode cX11_byslot 98 = .ok (.imul, 1) := by decide +kernel
theorem dX11_byslot_99 : decode cX11_byslot 99 = .ok (.iload_n 2, 1) := by decide +kernel
theorem dX11_byslot_100 : decode cX11_byslot 100 = .ok (.iconst 1, 1) := by decide +kernel
theorem dX11_byslot_101 : decode cX11_byslot 101 = .ok (.iload_n 3, 1) := by decide +kernel
theorem dX11_byslot_102 : decode cX11_byslot 102 = .ok (.ishl, 1) := by decide +kernel
theorem dX11_byslot_103 : decode cX11_byslot 103 = .ok (.ior, 1) := by decide +kernel
theorem dX11_byslot_104 : decode cX11_byslot 104 = .ok (.iadd, 1) := by decide +kernel
theorem dX11_byslot_105 : decode cX11_byslot 105 = .ok (.iaload, 1) := by decide +kernel
theorem dX11_byslot_106 : decode cX11_byslot 106 = .ok (.iload 5, 2) := by decide +kernel
theorem dX11_byslot_108 : decode cX11_byslot 108 = .ok (.iadd, 1) := by decide +kernel
theorem dX11_byslot_109 : decode cX11_byslot 109 = .ok (.iload 6, 2) := by decide +kernel
theorem dX11_byslot_111 : decode cX11_byslot 111 = .ok (.ifCond .eq 9, 3) := by decide +kernel
theorem dX11_byslot_114 : decode cX11_byslot 114 = .ok (.ldc_w 268, 3) := by decide +kernel
theorem dX11_byslot_117 : decode cX11_byslot 117 = .ok (.goto 4, 3) := by decide +kernel
theorem dX11_byslot_120 : decode cX11_byslot 120 = .ok (.iconst 0, 1) := by decide +kernel
theorem dX11_byslot_121 : decode cX11_byslot 121 = .ok (.iadd, 1) := by decide +kernel
theorem dX11_byslot_122 : decode cX11_byslot 122 = .ok (.ireturn, 1) := by decide +kernel
theorem dX11_findMove_0 : decode cX11_findMove 0 = .ok (.aload_n 0, 1) := by decide +kernel
theorem dX11_findMove_1 : decode cX11_findMove 1 = .ok (.iload_n 1, 1) := by decide +kernel
theorem dX11_findMove_2 : decode cX11_findMove 2 = .ok (.invokevirtual 269, 3) := by decide +kernel
theorem dX11_findMove_5 : decode cX11_findMove 5 = .ok (.aload_n 0, 1) := by decide +kernel
theorem dX11_findMove_6 : decode cX11_findMove 6 = .ok (.getfield 255, 3) := by decide +kernel
theorem dX11_findMove_9 : decode cX11_findMove 9 = .ok (.bipush 9, 2) := by decide +kernel
theorem dX11_findMove_11 : decode cX11_findMove 11 = .ok (.if_icmp .le 4, 3) := by decide +kernel
theorem dX11_findMove_14 : decode cX11_findMove 14 = .ok (.return_, 1) := by decide +kernel
theorem dX11_findMove_15 : decode cX11_findMove 15 = .ok (.iconst 0, 1) := by decide +kernel
theorem dX11_findMove_16 : decode cX11_findMove 16 = .ok (.istore_n 2, 1) := by decide +kernel
theorem dX11_findMove_17 : decode cX11_findMove 17 = .ok (.iload_n 2, 1) := by decide +kernel
theorem dX11_findMove_18 : decode cX11_findMove 18 = .ok (.aload_n 0, 1) := by decide +kernel
theorem dX11_findMove_19 : decode cX11_findMove 19 = .ok (.getfield 255, 3) := by decide +kernel
theorem dX11_findMove_22 : decode cX11_findMove 22 = .ok (.if_icmp .ge 26, 3) := by decide +kernel
theorem dX11_findMove_25 : decode cX11_findMove 25 = .ok (.aload_n 0, 1) := by decide +kernel
theorem dX11_findMove_26 : decode cX11_findMove 26 = .ok (.getfield 87, 3) := by decide +kernel
theorem dX11_findMove_29 : decode cX11_findMove 29 = .ok (.iload_n 2, 1) := by decide +kernel
theorem dX11_findMove_30 : decode cX11_findMove 30 = .ok (.aload_n 0, 1) := by decide +kernel
theorem dX11_findMove_31 : decode cX11_findMove 31 = .ok (.iconst 1, 1) := by decide +kernel
theorem dX11_findMove_32 : decode cX11_findMove 32 = .ok (.aload_n 0, 1) := by decide +kernel
theorem dX11_findMove_33 : decode cX11_findMove 33 = .ok (.getfield 71, 3) := by decide +kernel
theorem dX11_findMove_36 : decode cX11_findMove 36 = .ok (.iload_n 2, 1) := by decide +kernel
theorem dX11_findMove_37 : decode cX11_findMove 37 = .ok (.iaload, 1) := by decide +kernel
theorem dX11_findMove_38 : decode cX11_findMove 38 = .ok (.invokevirtual 261, 3) := by decide +kernel
theorem dX11_findMove_41 : decode cX11_findMove 41 = .ok (.bastore, 1) := by decide +kernel
theorem dX11_findMove_42 : decode cX11_findMove 42 = .ok (.iinc 2 1, 3) := by decide +kernel
theorem dX11_findMove_45 : decode cX11_findMove 45 = .ok (.goto (-28), 3) := by decide +kernel
theorem dX11_findMove_48 : decode cX11_findMove 48 = .ok (.iconst 0, 1) := by decide +kernel
theorem dX11_findMove_49 : decode cX11_findMove 49 = .ok (.istore_n 2, 1) := by decide +kernel
theorem dX11_findMove_50 : decode cX11_findMove 50 = .ok (.iload_n 2, 1) := by decide +kernel
theorem dX11_findMove_51 : decode cX11_findMove 51 = .ok (.iconst 1, 1) := by decide +kernel
theorem dX11_findMove_52 : decode cX11_findMove 52 = .ok (.aload_n 0, 1) := by decide +kernel
theorem dX11_findMove_53 : decode cX11_findMove 53 = .ok (.getfield 264, 3) := by decide +kernel
theorem dX11_findMove_56 : decode cX11_findMove 56 = .ok (.ishl, 1) := by decide +kernel
theorem dX11_findMove_57 : decode cX11_findMove 57 = .ok (.if_icmp .ge 25, 3) := by decide +kernel
theorem dX11_findMove_60 : decode cX11_findMove 60 = .ok (.aload_n 0, 1) := by decide +kernel
theorem dX11_findMove_61 : decode cX11_findMove 61 = .ok (.getfield 81, 3) := by decide +kernel
theorem dX11_findMove_64 : decode cX11_findMove 64 = .ok (.sipush 4096, 3) := by decide +kernel
theorem dX11_findMove_67 : decode cX11_findMove 67 = .ok (.aload_n 0, 1) := by decide +kernel
theorem dX11_findMove_68 : decode cX11_findMove 68 = .ok (.getfield 255, 3) := by decide +kernel
theorem dX11_findMove_71 : decode cX11_findMove 71 = .ok (.imul, 1) := by decide +kernel
theorem dX11_findMove_72 : decode cX11_findMove 72 = .ok (.iload_n 2, 1) := by decide +kernel
theorem dX11_findMove_73 : decode cX11_findMove 73 = .ok (.iadd, 1) := by decide +kernel
theorem dX11_findMove_74 : decode cX11_findMove 74 = .ok (.iconst 0, 1) := by decide +kernel
theorem dX11_findMove_75 : decode cX11_findMove 75 = .ok (.iastore, 1) := by decide +kernel
theorem dX11_findMove_76 : decode cX11_findMove 76 = .ok (.iinc 2 1, 3) := by decide +kernel
theorem dX11_findMove_79 : decode cX11_findMove 79 = .ok (.goto (-29), 3) := by decide +kernel
theorem dX11_findMove_82 : decode cX11_findMove 82 = .ok (.aload_n 0, 1) := by decide +kernel
theorem dX11_findMove_83 : decode cX11_findMove 83 = .ok (.getfield 255, 3) := by decide +kernel
theorem dX11_findMove_86 : decode cX11_findMove 86 = .ok (.iconst 1, 1) := by decide +kernel
theorem dX11_findMove_87 : decode cX11_findMove 87 = .ok (.isub, 1) := by decide +kernel
theorem dX11_findMove_88 : decode cX11_findMove 88 = .ok (.istore_n 2, 1) := by decide +kernel
theorem dX11_findMove_89 : decode cX11_findMove 89 = .ok (.iload_n 2, 1) := by decide +kernel
theorem dX11_findMove_90 : decode cX11_findMove 90 = .ok (.ifCond .lt 105, 3) := by decide +kernel
theorem dX11_findMove_93 : decode cX11_findMove 93 = .ok (.iconst 0, 1) := by decide +kernel
theorem dX11_findMove_94 : decode cX11_findMove 94 = .ok (.istore_n 3, 1) := by decide +kernel
theorem dX11_findMove_95 : decode cX11_findMove 95 = .ok (.iload_n 3, 1) := by decide +kernel
theorem dX11_findMove_96 : decode cX11_findMove 96 = .ok (.iconst 1, 1) := by decide +kernel
theorem dX11_findMove_97 : decode cX11_findMove 97 = .ok (.aload_n 0, 1) := by decide +kernel
theorem dX11_findMove_98 : decode cX11_findMove 98 = .ok (.getfield 264, 3) := by decide +kernel
theorem dX11_findMove_101 : decode cX11_findMove 101 = .ok (.ishl, 1) := by decide +kernel
theorem dX11_findMove_102 : decode cX11_findMove 102 = .ok (.if_icmp .ge 87, 3) := by decide +kernel
theorem dX11_findMove_105 : decode cX11_findMove 105 = .ok (.aload_n 0, 1) := by decide +kernel
theorem dX11_findMove_106 : decode cX11_findMove 106 = .ok (.getfield 81, 3) := by decide +kernel
theorem dX11_findMove_109 : decode cX11_findMove 109 = .ok (.sipush 4096, 3) := by decide +kernel
theorem dX11_findMove_112 : decode cX11_findMove 112 = .ok (.iload_n 2, 1) := by decide +kernel
theorem dX11_findMove_113 : decode cX11_findMove 113 = .ok (.iconst 1, 1) := by decide +kernel
theorem dX11_findMove_114 : decode cX11_findMove 114 = .ok (.iadd, 1) := by decide +kernel
theorem dX11_findMove_115 : decode cX11_findMove 115 = .ok (.imul, 1) := by decide +kernel
theorem dX11_findMove_116 : decode cX11_findMove 116 = .ok (.iload_n 3, 1) := by decide +kernel
theorem dX11_findMove_117 : decode cX11_findMove 117 = .ok (.iadd, 1) := by decide +kernel
theorem dX11_findMove_118 : decode cX11_findMove 118 = .ok (.iaload, 1) := by decide +kernel
theorem dX11_findMove_119 : decode cX11_findMove 119 = .ok (.ldc_w 273, 3) := by decide +kernel
theorem dX11_findMove_122 : decode cX11_findMove 122 = .ok (.iadd, 1) := by decide +kernel
theorem dX11_findMove_123 : decode cX11_findMove 123 = .ok (.istore 4, 2) := by decide +kernel
theorem dX11_findMove_125 : decode cX11_findMove 125 = .ok (.iconst 0, 1) := by decide +kernel
theorem dX11_findMove_126 : decode cX11_findMove 126 = .ok (.istore 5, 2) := by decide +kernel
theorem dX11_findMove_128 : decode cX11_findMove 128 = .ok (.iload 5, 2) := by decide +kernel
theorem dX11_findMove_130 : decode cX11_findMove 130 = .ok (.aload_n 0, 1) := by decide +kernel
theorem dX11_findMove_131 : decode cX11_findMove 131 = .ok (.getfield 264, 3) := by decide +kernel
theorem dX11_findMove_134 : decode cX11_findMove 134 = .ok (.if_icmp .ge 35, 3) := by decide +kernel
theorem dX11_findMove_137 : decode cX11_findMove 137 = .ok (.aload_n 0, 1) := by decide +kernel
theorem dX11_findMove_138 : decode cX11_findMove 138 = .ok (.iload_n 2, 1) := by decide +kernel
theorem dX11_findMove_139 : decode cX11_findMove 139 = .ok (.iload_n 3, 1) := by decide +kernel
theorem dX11_findMove_140 : decode cX11_findMove 140 = .ok (.iload 5, 2) := by decide +kernel
theorem dX11_findMove_142 : decode cX11_findMove 142 = .ok (.invokevirtual 274, 3) := by decide +kernel
theorem dX11_findMove_145 : decode cX11_findMove 145 = .ok (.istore 6, 2) := by decide +kernel
theorem dX11_findMove_147 : decode cX11_findMove 147 = .ok (.iload 6, 2) := by decide +kernel
theorem dX11_findMove_149 : decode cX11_findMove 149 = .ok (.iload 4, 2) := by decide +kernel
theorem dX11_findMove_151 : decode cX11_findMove 151 = .ok (.if_icmp .ge 8, 3) := by decide +kernel
theorem dX11_findMove_154 : decode cX11_findMove 154 = .ok (.iload 6, 2) := by decide +kernel
theorem dX11_findMove_156 : decode cX11_findMove 156 = .ok (.goto 5, 3) := by decide +kernel
theorem dX11_findMove_159 : decode cX11_findMove 159 = .ok (.iload 4, 2) := by decide +kernel
theorem dX11_findMove_161 : decode cX11_findMove 161 = .ok (.istore 4, 2) := by decide +kernel
theorem dX11_findMove_163 : decode cX11_findMove 163 = .ok (.iinc 5 1, 3) := by decide +kernel
theorem dX11_findMove_166 : decode cX11_findMove 166 = .ok (.goto (-38), 3) := by decide +kernel
theorem dX11_findMove_169 : decode cX11_findMove 169 = .ok (.aload_n 0, 1) := by decide +kernel
theorem dX11_findMove_170 : decode cX11_findMove 170 = .ok (.getfield 81, 3) := by decide +kernel
theorem dX11_findMove_173 : decode cX11_findMove 173 = .ok (.sipush 4096, 3) := by decide +kernel
theorem dX11_findMove_176 : decode cX11_findMove 176 = .ok (.iload_n 2, 1) := by decide +kernel
theorem dX11_findMove_177 : decode cX11_findMove 177 = .ok (.imul, 1) := by decide +kernel
theorem dX11_findMove_178 : decode cX11_findMove 178 = .ok (.iload_n 3, 1) := by decide +kernel
theorem dX11_findMove_179 : decode cX11_findMove 179 = .ok (.iadd, 1) := by decide +kernel
theorem dX11_findMove_180 : decode cX11_findMove 180 = .ok (.iload 4, 2) := by decide +kernel
theorem dX11_findMove_182 : decode cX11_findMove 182 = .ok (.iastore, 1) := by decide +kernel
theorem dX11_findMove_183 : decode cX11_findMove 183 = .ok (.iinc 3 1, 3) := by decide +kernel
theorem dX11_findMove_186 : decode cX11_findMove 186 = .ok (.goto (-91), 3) := by decide +kernel
theorem dX11_findMove_189 : decode cX11_findMove 189 = .ok (.iinc 2 (-1), 3) := by decide +kernel
theorem dX11_findMove_192 : decode cX11_findMove 192 = .ok (.goto (-103), 3) := by decide +kernel
theorem dX11_findMove_195 : decode cX11_findMove 195 = .ok (.iconst 0, 1) := by decide +kernel
theorem dX11_findMove_196 : decode cX11_findMove 196 = .ok (.istore_n 2, 1) := by decide +kernel
theorem dX11_findMove_197 : decode cX11_findMove 197 = .ok (.iconst 0, 1) := by decide +kernel
theorem dX11_findMove_198 : decode cX11_findMove 198 = .ok (.istore_n 3, 1) := by decide +kernel
theorem dX11_findMove_199 : decode cX11_findMove 199 = .ok (.iload_n 3, 1) := by decide +kernel
theorem dX11_findMove_200 : decode cX11_findMove 200 = .ok (.aload_n 0, 1) := by decide +kernel
theorem dX11_findMove_201 : decode cX11_findMove 201 = .ok (.getfield 255, 3) := by decide +kernel
theorem dX11_findMove_204 : decode cX11_findMove 204 = .ok (.if_icmp .ge 104, 3) := by decide +kernel
theorem dX11_findMove_207 : decode cX11_findMove 207 = .ok (.aload_n 0, 1) := by decide +kernel
theorem dX11_findMove_208 : decode cX11_findMove 208 = .ok (.getfield 84, 3) := by decide +kernel
theorem dX11_findMove_211 : decode cX11_findMove 211 = .ok (.iload_n 3, 1) := by decide +kernel
theorem dX11_findMove_212 : decode cX11_findMove 212 = .ok (.bipush (-6), 2) := by decide +kernel
theorem dX11_findMove_214 : decode cX11_findMove 214 = .ok (.iastore, 1) := by decide +kernel
theorem dX11_findMove_215 : decode cX11_findMove 215 = .ok (.iconst 0, 1) := by decide +kernel
theorem dX11_findMove_216 : decode cX11_findMove 216 = .ok (.istore 4, 2) := by decide +kernel
theorem dX11_findMove_218 : decode cX11_findMove 218 = .ok (.iload 4, 2) := by decide +kernel
theorem dX11_findMove_220 : decode cX11_findMove 220 = .ok (.aload_n 0, 1) := by decide +kernel
theorem dX11_findMove_221 : decode cX11_findMove 221 = .ok (.getfield 264, 3) := by decide +kernel
theorem dX11_findMove_224 : decode cX11_findMove 224 = .ok (.if_icmp .ge 54, 3) := by decide +kernel
theorem dX11_findMove_227 : decode cX11_findMove 227 = .ok (.aload_n 0, 1) := by decide +kernel
theorem dX11_findMove_228 : decode cX11_findMove 228 = .ok (.getfield 84, 3) := by decide +kernel
theorem dX11_findMove_231 : decode cX11_findMove 231 = .ok (.iload_n 3, 1) := by decide +kernel
theorem dX11_findMove_232 : decode cX11_findMove 232 = .ok (.iaload, 1) := by decide +kernel
theorem dX11_findMove_233 : decode cX11_findMove 233 = .ok (.ifCond .ge 45, 3) := by decide +kernel
theorem dX11_findMove_236 : decode cX11_findMove 236 = .ok (.aload_n 0, 1) := by decide +kernel
theorem dX11_findMove_237 : decode cX11_findMove 237 = .ok (.getfield 84, 3) := by decide +kernel
theorem dX11_findMove_240 : decode cX11_findMove 240 = .ok (.iload_n 3, 1) := by decide +kernel
theorem dX11_findMove_241 : decode cX11_findMove 241 = .ok (.aload_n 0, 1) := by decide +kernel
theorem dX11_findMove_242 : decode cX11_findMove 242 = .ok (.iload_n 3, 1) := by decide +kernel
theorem dX11_findMove_243 : decode cX11_findMove 243 = .ok (.iload_n 2, 1) := by decide +kernel
theorem dX11_findMove_244 : decode cX11_findMove 244 = .ok (.iload 4, 2) := by decide +kernel
theorem dX11_findMove_246 : decode cX11_findMove 246 = .ok (.invokevirtual 274, 3) := by decide +kernel
theorem dX11_findMove_249 : decode cX11_findMove 249 = .ok (.aload_n 0, 1) := by decide +kernel
theorem dX11_findMove_250 : decode cX11_findMove 250 = .ok (.getfield 81, 3) := by decide +kernel
theorem dX11_findMove_253 : decode cX11_findMove 253 = .ok (.sipush 4096, 3) := by decide +kernel
theorem dX11_findMove_256 : decode cX11_findMove 256 = .ok (.iload_n 3, 1) := by decide +kernel
theorem dX11_findMove_257 : decode cX11_findMove 257 = .ok (.imul, 1) := by decide +kernel
theorem dX11_findMove_258 : decode cX11_findMove 258 = .ok (.iload_n 2, 1) := by decide +kernel
theorem dX11_findMove_259 : decode cX11_findMove 259 = .ok (.iadd, 1) := by decide +kernel
theorem dX11_findMove_260 : decode cX11_findMove 260 = .ok (.iaload, 1) := by decide +kernel
theorem dX11_findMove_261 : decode cX11_findMove 261 = .ok (.if_icmp .ne 8, 3) := by decide +kernel
theorem dX11_findMove_264 : decode cX11_findMove 264 = .ok (.iload 4, 2) := by decide +kernel
theorem dX11_findMove_266 : decode cX11_findMove 266 = .ok (.goto 5, 3) := by decide +kernel
theorem dX11_findMove_269 : decode cX11_findMove 269 = .ok (.bipush (-6), 2) := by decide +kernel
theorem dX11_findMove_271 : decode cX11_findMove 271 = .ok (.iastore, 1) := by decide +kernel
theorem dX11_findMove_272 : decode cX11_findMove 272 = .ok (.iinc 4 1, 3) := by decide +kernel
theorem dX11_findMove_275 : decode cX11_findMove 275 = .ok (.goto (-57), 3) := by decide +kernel
theorem dX11_findMove_278 : decode cX11_findMove 278 = .ok (.iload_n 2, 1) := by decide +kernel
theorem dX11_findMove_279 : decode cX11_findMove 279 = .ok (.aload_n 0, 1) := by decide +kernel
theorem dX11_findMove_280 : decode cX11_findMove 280 = .ok (.getfield 84, 3) := by decide +kernel
theorem dX11_findMove_283 : decode cX11_findMove 283 = .ok (.iload_n 3, 1) := by decide +kernel
theorem dX11_findMove_284 : decode cX11_findMove 284 = .ok (.iaload, 1) := by decide +kernel
theorem dX11_findMove_285 : decode cX11_findMove 285 = .ok (.ifCond .ge 7, 3) := by decide +kernel
theorem dX11_findMove_288 : decode cX11_findMove 288 = .ok (.iconst 0, 1) := by decide +kernel
theorem dX11_findMove_289 : decode cX11_findMove 289 = .ok (.goto 11, 3) := by decide +kernel
theorem dX11_findMove_292 : decode cX11_findMove 292 = .ok (.iconst 1, 1) := by decide +kernel
theorem dX11_findMove_293 : decode cX11_findMove 293 = .ok (.aload_n 0, 1) := by decide +kernel
theorem dX11_findMove_294 : decode cX11_findMove 294 = .ok (.getfield 84, 3) := by decide +kernel
theorem dX11_findMove_297 : decode cX11_findMove 297 = .ok (.iload_n 3, 1) := by decide +kernel
theorem dX11_findMove_298 : decode cX11_findMove 298 = .ok (.iaload, 1) := by decide +kernel
theorem dX11_findMove_299 : decode cX11_findMove 299 = .ok (.ishl, 1) := by decide +kernel
theorem dX11_findMove_300 : decode cX11_findMove 300 = .ok (.ior, 1) := by decide +kernel
theorem dX11_findMove_301 : decode cX11_findMove 301 = .ok (.istore_n 2, 1) := by decide +kernel
theorem dX11_findMove_302 : decode cX11_findMove 302 = .ok (.iinc 3 1, 3) := by decide +kernel
theorem dX11_findMove_305 : decode cX11_findMove 305 = .ok (.goto (-106), 3) := by decide +kernel
theorem dX11_findMove_308 : decode cX11_findMove 308 = .ok (.return_, 1) := by decide +kernel
theorem dX11_move_0 : decode cX11_move 0 = .ok (.iload_n 2, 1) := by decide +kernel
theorem dX11_move_1 : decode cX11_move 1 = .ok (.i2l, 1) := by decide +kernel
theorem dX11_move_2 : decode cX11_move 2 = .ok (.ldc2_w 278, 3) := by decide +kernel
theorem dX11_move_5 : decode cX11_move 5 = .ok (.ldc2_w 280, 3) := by decide +kernel
theorem dX11_move_8 : decode cX11_move 8 = .ok (.invokestatic 140, 3) := by decide +kernel
theorem dX11_move_11 : decode cX11_move 11 = .ok (.ifCond .ne 21, 3) := by decide +kernel
theorem dX11_move_14 : decode cX11_move 14 = .ok (.aload_n 0, 1) := by decide +kernel
theorem dX11_move_15 : decode cX11_move 15 = .ok (.iload_n 2, 1) := by decide +kernel
theorem dX11_move_16 : decode cX11_move 16 = .ok (.invokevirtual 187, 3) := by decide +kernel
theorem dX11_move_19 : decode cX11_move 19 = .ok (.ifCond .eq 17, 3) := by decide +kernel
theorem dX11_move_22 : decode cX11_move 22 = .ok (.aload_n 0, 1) := by decide +kernel
theorem dX11_move_23 : decode cX11_move 23 = .ok (.getfield 50, 3) := by decide +kernel
theorem dX11_move_26 : decode cX11_move 26 = .ok (.iload_n 2, 1) := by decide +kernel
theorem dX11_move_27 : decode cX11_move 27 = .ok (.iaload, 1) := by decide +kernel
theorem dX11_move_28 : decode cX11_move 28 = .ok (.iload_n 1, 1) := by decide +kernel
theorem dX11_move_29 : decode cX11_move 29 = .ok (.if_icmp .ne 7, 3) := by decide +kernel
theorem dX11_move_32 : decode cX11_move 32 = .ok (.iconst 1, 1) := by decide +kernel
theorem dX11_move_33 : decode cX11_move 33 = .ok (.goto 4, 3) := by decide +kernel
theorem dX11_move_36 : decode cX11_move 36 = .ok (.iconst 0, 1) := by decide +kernel
theorem dX11_move_37 : decode cX11_move 37 = .ok (.istore_n 3, 1) := by decide +kernel
theorem dX11_move_38 : decode cX11_move 38 = .ok (.aload_n 0, 1) := by decide +kernel
theorem dX11_move_39 : decode cX11_move 39 = .ok (.iload_n 1, 1) := by decide +kernel
theorem dX11_move_40 : decode cX11_move 40 = .ok (.invokevirtual 169, 3) := by decide +kernel
theorem dX11_move_43 : decode cX11_move 43 = .ok (.ifCond .eq 7, 3) := by decide +kernel
theorem dX11_move_46 : decode cX11_move 46 = .ok (.iload_n 3, 1) := by decide +kernel
theorem dX11_move_47 : decode cX11_move 47 = .ok (.ifCond .ne 5, 3) := by decide +kernel
theorem dX11_move_50 : decode cX11_move 50 = .ok (.iconst (-1), 1) := by decide +kernel
theorem dX11_move_51 : decode cX11_move 51 = .ok (.ireturn, 1) := by decide +kernel
theorem dX11_move_52 : decode cX11_move 52 = .ok (.aload_n 0, 1) := by decide +kernel
theorem dX11_move_53 : decode cX11_move 53 = .ok (.getfield 31, 3) := by decide +kernel
theorem dX11_move_56 : decode cX11_move 56 = .ok (.iload_n 1, 1) := by decide +kernel
theorem dX11_move_57 : decode cX11_move 57 = .ok (.baload, 1) := by decide +kernel
theorem dX11_move_58 : decode cX11_move 58 = .ok (.ifCond .ne 6, 3) := by decide +kernel
theorem dX11_move_61 : decode cX11_move 61 = .ok (.bipush (-3), 2) := by decide +kernel
theorem dX11_move_63 : decode cX11_move 63 = .ok (.ireturn, 1) := by decide +kernel
theorem dX11_move_64 : decode cX11_move 64 = .ok (.aload_n 0, 1) := by decide +kernel
theorem dX11_move_65 : decode cX11_move 65 = .ok (.iload_n 1, 1) := by decide +kernel
theorem dX11_move_66 : decode cX11_move 66 = .ok (.invokevirtual 282, 3) := by decide +kernel
theorem dX11_move_69 : decode cX11_move 69 = .ok (.aload_n 0, 1) := by decide +kernel
theorem dX11_move_70 : decode cX11_move 70 = .ok (.getfield 255, 3) := by decide +kernel
theorem dX11_move_73 : decode cX11_move 73 = .ok (.bipush 9, 2) := by decide +kernel
theorem dX11_move_75 : decode cX11_move 75 = .ok (.if_icmp .le 6, 3) := by decide +kernel
theorem dX11_move_78 : decode cX11_move 78 = .ok (.bipush (-5), 2) := by decide +kernel
theorem dX11_move_80 : decode cX11_move 80 = .ok (.ireturn, 1) := by decide +kernel
theorem dX11_move_81 : decode cX11_move 81 = .ok (.iload_n 2, 1) := by decide +kernel
theorem dX11_move_82 : decode cX11_move 82 = .ok (.tableswitch 71 (-4) (-1) #[66, 55, 41, 30], 30) := by decide +kernel
theorem dX11_move_112 : decode cX11_move 112 = .ok (.aload_n 0, 1) := by decide +kernel
theorem dX11_move_113 : decode cX11_move 113 = .ok (.getfield 81, 3) := by decide +kernel
theorem dX11_move_116 : decode cX11_move 116 = .ok (.iconst 0, 1) := by decide +kernel
theorem dX11_move_117 : decode cX11_move 117 = .ok (.iaload, 1) := by decide +kernel
theorem dX11_move_118 : decode cX11_move 118 = .ok (.ldc_w 273, 3) := by decide +kernel
theorem dX11_move_121 : decode cX11_move 121 = .ok (.idiv, 1) := by decide +kernel
theorem dX11_move_122 : decode cX11_move 122 = .ok (.ireturn, 1) := by decide +kernel
theorem dX11_move_123 : decode cX11_move 123 = .ok (.aload_n 0, 1) := by decide +kernel
theorem dX11_move_124 : decode cX11_move 124 = .ok (.getfield 81, 3) := by decide +kernel
theorem dX11_move_127 : decode cX11_move 127 = .ok (.iconst 0, 1) := by decide +kernel
theorem dX11_move_128 : decode cX11_move 128 = .ok (.iaload, 1) := by decide +kernel
theorem dX11_move_129 : decode cX11_move 129 = .ok (.ldc_w 268, 3) := by decide +kernel
theorem dX11_move_132 : decode cX11_move 132 = .ok (.idiv, 1) := by decide +kernel
theorem dX11_move_133 : decode cX11_move 133 = .ok (.bipush 100, 2) := by decide +kernel
theorem dX11_move_135 : decode cX11_move 135 = .ok (.irem, 1) := by decide +kernel
theorem dX11_move_136 : decode cX11_move 136 = .ok (.ireturn, 1) := by decide +kernel
theorem dX11_move_137 : decode cX11_move 137 = .ok (.aload_n 0, 1) := by decide +kernel
theorem dX11_move_138 : decode cX11_move 138 = .ok (.getfield 81, 3) := by decide +kernel
theorem dX11_move_141 : decode cX11_move 141 = .ok (.iconst 0, 1) := by decide +kernel
theorem dX11_move_142 : decode cX11_move 142 = .ok (.iaload, 1) := by decide +kernel
theorem dX11_move_143 : decode cX11_move 143 = .ok (.ldc_w 268, 3) := by decide +kernel
theorem dX11_move_146 : decode cX11_move 146 = .ok (.irem, 1) := by decide +kernel
theorem dX11_move_147 : decode cX11_move 147 = .ok (.ireturn, 1) := by decide +kernel
theorem dX11_move_148 : decode cX11_move 148 = .ok (.aload_n 0, 1) := by decide +kernel
theorem dX11_move_149 : decode cX11_move 149 = .ok (.getfield 258, 3) := by decide +kernel
theorem dX11_move_152 : decode cX11_move 152 = .ok (.ireturn, 1) := by decide +kernel
theorem dX11_move_153 : decode cX11_move 153 = .ok (.aload_n 0, 1) := by decide +kernel
theorem dX11_move_154 : decode cX11_move 154 = .ok (.iload_n 2, 1) := by decide +kernel
theorem dX11_move_155 : decode cX11_move 155 = .ok (.invokevirtual 285, 3) := by decide +kernel
theorem dX11_move_158 : decode cX11_move 158 = .ok (.ireturn, 1) := by decide +kernel
theorem dX11_newPit_0 : decode cX11_newPit 0 = .ok (.iconst 0, 1) := by decide +kernel
theorem dX11_newPit_1 : decode cX11_newPit 1 = .ok (.istore_n 2, 1) := by decide +kernel
theorem dX11_newPit_2 : decode cX11_newPit 2 = .ok (.iload_n 2, 1) := by decide +kernel
theorem dX11_newPit_3 : decode cX11_newPit 3 = .ok (.aload_n 0, 1) := by decide +kernel
theorem dX11_newPit_4 : decode cX11_newPit 4 = .ok (.getfield 255, 3) := by decide +kernel
theorem dX11_newPit_7 : decode cX11_newPit 7 = .ok (.if_icmp .ge 45, 3) := by decide +kernel
theorem dX11_newPit_10 : decode cX11_newPit 10 = .ok (.aload_n 0, 1) := by decide +kernel
theorem dX11_newPit_11 : decode cX11_newPit 11 = .ok (.getfield 71, 3) := by decide +kernel
theorem dX11_newPit_14 : decode cX11_newPit 14 = .ok (.iload_n 2, 1) := by decide +kernel
theorem dX11_newPit_15 : decode cX11_newPit 15 = .ok (.iaload, 1) := by decide +kernel
theorem dX11_newPit_16 : decode cX11_newPit 16 = .ok (.iload_n 1, 1) := by decide +kernel
theorem dX11_newPit_17 : decode cX11_newPit 17 = .ok (.if_icmp .ne 29, 3) := by decide +kernel
theorem dX11_newPit_20 : decode cX11_newPit 20 = .ok (.aload_n 0, 1) := by decide +kernel
theorem dX11_newPit_21 : decode cX11_newPit 21 = .ok (.getfield 84, 3) := by decide +kernel
theorem dX11_newPit_24 : decode cX11_newPit 24 = .ok (.iload_n 2, 1) := by decide +kernel
theorem dX11_newPit_25 : decode cX11_newPit 25 = .ok (.iaload, 1) := by decide +kernel
theorem dX11_newPit_26 : decode cX11_newPit 26 = .ok (.ifCond .ge 8, 3) := by decide +kernel
theorem dX11_newPit_29 : decode cX11_newPit 29 = .ok (.bipush (-6), 2) := by decide +kernel
theorem dX11_newPit_31 : decode cX11_newPit 31 = .ok (.goto 14, 3) := by decide +kernel
theorem dX11_newPit_34 : decode cX11_newPit 34 = .ok (.aload_n 0, 1) := by decide +kernel
theorem dX11_newPit_35 : decode cX11_newPit 35 = .ok (.getfield 74, 3) := by decide +kernel
theorem dX11_newPit_38 : decode cX11_newPit 38 = .ok (.aload_n 0, 1) := by decide +kernel
theorem dX11_newPit_39 : decode cX11_newPit 39 = .ok (.getfield 84, 3) := by decide +kernel
theorem dX11_newPit_42 : decode cX11_newPit 42 = .ok (.iload_n 2, 1) := by decide +kernel
theorem dX11_newPit_43 : decode cX11_newPit 43 = .ok (.iaload, 1) := by decide +kernel
theorem dX11_newPit_44 : decode cX11_newPit 44 = .ok (.iaload, 1) := by decide +kernel
theorem dX11_newPit_45 : decode cX11_newPit 45 = .ok (.ireturn, 1) := by decide +kernel
theorem dX11_newPit_46 : decode cX11_newPit 46 = .ok (.iinc 2 1, 3) := by decide +kernel
theorem dX11_newPit_49 : decode cX11_newPit 49 = .ok (.goto (-47), 3) := by decide +kernel
theorem dX11_newPit_52 : decode cX11_newPit 52 = .ok (.bipush (-6), 2) := by decide +kernel
theorem dX11_newPit_54 : decode cX11_newPit 54 = .ok (.ireturn, 1) := by decide +kernel
theorem dX11_close_0 : decode cX11_close 0 = .ok (.aload_n 0, 1) := by decide +kernel
theorem dX11_close_1 : decode cX11_close 1 = .ok (.iload_n 1, 1) := by decide +kernel
theorem dX11_close_2 : decode cX11_close 2 = .ok (.invokevirtual 169, 3) := by decide +kernel
theorem dX11_close_5 : decode cX11_close 5 = .ok (.ifCond .ne 5, 3) := by decide +kernel
theorem dX11_close_8 : decode cX11_close 8 = .ok (.iconst (-1), 1) := by decide +kernel
theorem dX11_close_9 : decode cX11_close 9 = .ok (.ireturn, 1) := by decide +kernel
theorem dX11_close_10 : decode cX11_close 10 = .ok (.aload_n 0, 1) := by decide +kernel
theorem dX11_close_11 : decode cX11_close 11 = .ok (.getfield 31, 3) := by decide +kernel
theorem dX11_close_14 : decode cX11_close 14 = .ok (.iload_n 1, 1) := by decide +kernel
theorem dX11_close_15 : decode cX11_close 15 = .ok (.baload, 1) := by decide +kernel
theorem dX11_close_16 : decode cX11_close 16 = .ok (.ifCond .ne 6, 3) := by decide +kernel
theorem dX11_close_19 : decode cX11_close 19 = .ok (.bipush (-3), 2) := by decide +kernel
theorem dX11_close_21 : decode cX11_close 21 = .ok (.ireturn, 1) := by decide +kernel
theorem dX11_close_22 : decode cX11_close 22 = .ok (.aload_n 0, 1) := by decide +kernel
theorem dX11_close_23 : decode cX11_close 23 = .ok (.iload_n 1, 1) := by decide +kernel
theorem dX11_close_24 : decode cX11_close 24 = .ok (.invokevirtual 282, 3) := by decide +kernel
theorem dX11_close_27 : decode cX11_close 27 = .ok (.aload_n 0, 1) := by decide +kernel
theorem dX11_close_28 : decode cX11_close 28 = .ok (.getfield 255, 3) := by decide +kernel
theorem dX11_close_31 : decode cX11_close 31 = .ok (.bipush 9, 2) := by decide +kernel
theorem dX11_close_33 : decode cX11_close 33 = .ok (.if_icmp .le 6, 3) := by decide +kernel
theorem dX11_close_36 : decode cX11_close 36 = .ok (.bipush (-5), 2) := by decide +kernel
theorem dX11_close_38 : decode cX11_close 38 = .ok (.ireturn, 1) := by decide +kernel
theorem dX11_close_39 : decode cX11_close 39 = .ok (.aload_n 0, 1) := by decide +kernel
theorem dX11_close_40 : decode cX11_close 40 = .ok (.getfield 81, 3) := by decide +kernel
theorem dX11_close_43 : decode cX11_close 43 = .ok (.iconst 0, 1) := by decide +kernel
theorem dX11_close_44 : decode cX11_close 44 = .ok (.iaload, 1) := by decide +kernel
theorem dX11_close_45 : decode cX11_close 45 = .ok (.ldc_w 273, 3) := by decide +kernel
theorem dX11_close_48 : decode cX11_close 48 = .ok (.idiv, 1) := by decide +kernel
theorem dX11_close_49 : decode cX11_close 49 = .ok (.istore_n 2, 1) := by decide +kernel
theorem dX11_close_50 : decode cX11_close 50 = .ok (.iconst 0, 1) := by decide +kernel
theorem dX11_close_51 : decode cX11_close 51 = .ok (.istore_n 3, 1) := by decide +kernel
theorem dX11_close_52 : decode cX11_close 52 = .ok (.iload_n 3, 1) := by decide +kernel
theorem dX11_close_53 : decode cX11_close 53 = .ok (.aload_n 0, 1) := by decide +kernel
theorem dX11_close_54 : decode cX11_close 54 = .ok (.getfield 166, 3) := by decide +kernel
theorem dX11_close_57 : decode cX11_close 57 = .ok (.if_icmp .ge 33, 3) := by decide +kernel
theorem dX11_close_60 : decode cX11_close 60 = .ok (.aload_n 0, 1) := by decide +kernel
theorem dX11_close_61 : decode cX11_close 61 = .ok (.getfield 50, 3) := by decide +kernel
theorem dX11_close_64 : decode cX11_close 64 = .ok (.iload_n 3, 1) := by decide +kernel
theorem dX11_close_65 : decode cX11_close 65 = .ok (.iaload, 1) := by decide +kernel
theorem dX11_close_66 : decode cX11_close 66 = .ok (.iload_n 1, 1) := by decide +kernel
theorem dX11_close_67 : decode cX11_close 67 = .ok (.if_icmp .ne 17, 3) := by decide +kernel
theorem dX11_close_70 : decode cX11_close 70 = .ok (.aload_n 0, 1) := by decide +kernel
theorem dX11_close_71 : decode cX11_close 71 = .ok (.iload_n 3, 1) := by decide +kernel
theorem dX11_close_72 : decode cX11_close 72 = .ok (.invokevirtual 288, 3) := by decide +kernel
theorem dX11_close_75 : decode cX11_close 75 = .ok (.ifCond .ne 9, 3) := by decide +kernel
theorem dX11_close_78 : decode cX11_close 78 = .ok (.aload_n 0, 1) := by decide +kernel
theorem dX11_close_79 : decode cX11_close 79 = .ok (.iload_n 3, 1) := by decide +kernel
theorem dX11_close_80 : decode cX11_close 80 = .ok (.iconst 1, 1) := by decide +kernel
theorem dX11_close_81 : decode cX11_close 81 = .ok (.invokevirtual 190, 3) := by decide +kernel
theorem dX11_close_84 : decode cX11_close 84 = .ok (.iinc 3 1, 3) := by decide +kernel
theorem dX11_close_87 : decode cX11_close 87 = .ok (.goto (-35), 3) := by decide +kernel
theorem dX11_close_90 : decode cX11_close 90 = .ok (.iconst 0, 1) := by decide +kernel
theorem dX11_close_91 : decode cX11_close 91 = .ok (.istore_n 3, 1) := by decide +kernel
theorem dX11_close_92 : decode cX11_close 92 = .ok (.iload_n 3, 1) := by decide +kernel
theorem dX11_close_93 : decode cX11_close 93 = .ok (.aload_n 0, 1) := by decide +kernel
theorem dX11_close_94 : decode cX11_close 94 = .ok (.getfield 255, 3) := by decide +kernel
theorem dX11_close_97 : decode cX11_close 97 = .ok (.if_icmp .ge 88, 3) := by decide +kernel
theorem dX11_close_100 : decode cX11_close 100 = .ok (.aload_n 0, 1) := by decide +kernel
theorem dX11_close_101 : decode cX11_close 101 = .ok (.getfield 84, 3) := by decide +kernel
theorem dX11_close_104 : decode cX11_close 104 = .ok (.iload_n 3, 1) := by decide +kernel
theorem dX11_close_105 : decode cX11_close 105 = .ok (.iaload, 1) := by decide +kernel
theorem dX11_close_106 : decode cX11_close 106 = .ok (.ifCond .ge 17, 3) := by decide +kernel
theorem dX11_close_109 : decode cX11_close 109 = .ok (.aload_n 0, 1) := by decide +kernel
theorem dX11_close_110 : decode cX11_close 110 = .ok (.aload_n 0, 1) := by decide +kernel
theorem dX11_close_111 : decode cX11_close 111 = .ok (.getfield 71, 3) := by decide +kernel
theorem dX11_close_114 : decode cX11_close 114 = .ok (.iload_n 3, 1) := by decide +kernel
theorem dX11_close_115 : decode cX11_close 115 = .ok (.iaload, 1) := by decide +kernel
theorem dX11_close_116 : decode cX11_close 116 = .ok (.iconst 3, 1) := by decide +kernel
theorem dX11_close_117 : decode cX11_close 117 = .ok (.invokevirtual 190, 3) := by decide +kernel
theorem dX11_close_120 : decode cX11_close 120 = .ok (.goto 59, 3) := by decide +kernel
theorem dX11_close_123 : decode cX11_close 123 = .ok (.aload_n 0, 1) := by decide +kernel
theorem dX11_close_124 : decode cX11_close 124 = .ok (.getfield 50, 3) := by decide +kernel
theorem dX11_close_127 : decode cX11_close 127 = .ok (.aload_n 0, 1) := by decide +kernel
theorem dX11_close_128 : decode cX11_close 128 = .ok (.getfield 71, 3) := by decide +kernel
theorem dX11_close_131 : decode cX11_close 131 = .ok (.iload_n 3, 1) := by decide +kernel
theorem dX11_close_132 : decode cX11_close 132 = .ok (.iaload, 1) := by decide +kernel
theorem dX11_close_133 : decode cX11_close 133 = .ok (.aload_n 0, 1) := by decide +kernel
theorem dX11_close_134 : decode cX11_close 134 = .ok (.getfield 74, 3) := by decide +kernel
theorem dX11_close_137 : decode cX11_close 137 = .ok (.aload_n 0, 1) := by decide +kernel
theorem dX11_close_138 : decode cX11_close 138 = .ok (.getfield 84, 3) := by decide +kernel
theorem dX11_close_141 : decode cX11_close 141 = .ok (.iload_n 3, 1) := by decide +kernel
theorem dX11_close_142 : decode cX11_close 142 = .ok (.iaload, 1) := by decide +kernel
theorem dX11_close_143 : decode cX11_close 143 = .ok (.iaload, 1) := by decide +kernel
theorem dX11_close_144 : decode cX11_close 144 = .ok (.iastore, 1) := by decide +kernel
theorem dX11_close_145 : decode cX11_close 145 = .ok (.aload_n 0, 1) := by decide +kernel
theorem dX11_close_146 : decode cX11_close 146 = .ok (.getfield 35, 3) := by decide +kernel
theorem dX11_close_149 : decode cX11_close 149 = .ok (.iconst 3, 1) := by decide +kernel
theorem dX11_close_150 : decode cX11_close 150 = .ok (.aload_n 0, 1) := by decide +kernel
theorem dX11_close_151 : decode cX11_close 151 = .ok (.getfield 74, 3) := by decide +kernel
theorem dX11_close_154 : decode cX11_close 154 = .ok (.aload_n 0, 1) := by decide +kernel
theorem dX11_close_155 : decode cX11_close 155 = .ok (.getfield 84, 3) := by decide +kernel
theorem dX11_close_158 : decode cX11_close 158 = .ok (.iload_n 3, 1) := by decide +kernel
theorem dX11_close_159 : decode cX11_close 159 = .ok (.iaload, 1) := by decide +kernel
theorem dX11_close_160 : decode cX11_close 160 = .ok (.iaload, 1) := by decide +kernel
theorem dX11_close_161 : decode cX11_close 161 = .ok (.imul, 1) := by decide +kernel
theorem dX11_close_162 : decode cX11_close 162 = .ok (.aload_n 0, 1) := by decide +kernel
theorem dX11_close_163 : decode cX11_close 163 = .ok (.getfield 77, 3) := by decide +kernel
theorem dX11_close_166 : decode cX11_close 166 = .ok (.aload_n 0, 1) := by decide +kernel
theorem dX11_close_167 : decode cX11_close 167 = .ok (.getfield 84, 3) := by decide +kernel
theorem dX11_close_170 : decode cX11_close 170 = .ok (.iload_n 3, 1) := by decide +kernel
theorem dX11_close_171 : decode cX11_close 171 = .ok (.iaload, 1) := by decide +kernel
theorem dX11_close_172 : decode cX11_close 172 = .ok (.iaload, 1) := by decide +kernel
theorem dX11_close_173 : decode cX11_close 173 = .ok (.iadd, 1) := by decide +kernel
theorem dX11_close_174 : decode cX11_close 174 = .ok (.dup2, 1) := by decide +kernel
theorem dX11_close_175 : decode cX11_close 175 = .ok (.iaload, 1) := by decide +kernel
theorem dX11_close_176 : decode cX11_close 176 = .ok (.iconst 1, 1) := by decide +kernel
theorem dX11_close_177 : decode cX11_close 177 = .ok (.isub, 1) := by decide +kernel
theorem dX11_close_178 : decode cX11_close 178 = .ok (.iastore, 1) := by decide +kernel
theorem dX11_close_179 : decode cX11_close 179 = .ok (.iinc 3 1, 3) := by decide +kernel
theorem dX11_close_182 : decode cX11_close 182 = .ok (.goto (-90), 3) := by decide +kernel
theorem dX11_close_185 : decode cX11_close 185 = .ok (.aload_n 0, 1) := by decide +kernel
theorem dX11_close_186 : decode cX11_close 186 = .ok (.getfield 31, 3) := by decide +kernel
theorem dX11_close_189 : decode cX11_close 189 = .ok (.iload_n 1, 1) := by decide +kernel
theorem dX11_close_190 : decode cX11_close 190 = .ok (.iconst 0, 1) := by decide +kernel
theorem dX11_close_191 : decode cX11_close 191 = .ok (.bastore, 1) := by decide +kernel
theorem dX11_close_192 : decode cX11_close 192 = .ok (.iconst 0, 1) := by decide +kernel
theorem dX11_close_193 : decode cX11_close 193 = .ok (.istore_n 3, 1) := by decide +kernel
theorem dX11_close_194 : decode cX11_close 194 = .ok (.iload_n 3, 1) := by decide +kernel
theorem dX11_close_195 : decode cX11_close 195 = .ok (.iconst 3, 1) := by decide +kernel
theorem dX11_close_196 : decode cX11_close 196 = .ok (.if_icmp .ge 20, 3) := by decide +kernel
theorem dX11_close_199 : decode cX11_close 199 = .ok (.aload_n 0, 1) := by decide +kernel
theorem dX11_close_200 : decode cX11_close 200 = .ok (.getfield 35, 3) := by decide +kernel
theorem dX11_close_203 : decode cX11_close 203 = .ok (.iconst 3, 1) := by decide +kernel
theorem dX11_close_204 : decode cX11_close 204 = .ok (.iload_n 1, 1) := by decide +kernel
theorem dX11_close_205 : decode cX11_close 205 = .ok (.imul, 1) := by decide +kernel
theorem dX11_close_206 : decode cX11_close 206 = .ok (.iload_n 3, 1) := by decide +kernel
theorem dX11_close_207 : decode cX11_close 207 = .ok (.iadd, 1) := by decide +kernel
theorem dX11_close_208 : decode cX11_close 208 = .ok (.iconst 0, 1) := by decide +kernel
theorem dX11_close_209 : decode cX11_close 209 = .ok (.iastore, 1) := by decide +kernel
theorem dX11_close_210 : decode cX11_close 210 = .ok (.iinc 3 1, 3) := by decide +kernel
theorem dX11_close_213 : decode cX11_close 213 = .ok (.goto (-19), 3) := by decide +kernel
theorem dX11_close_216 : decode cX11_close 216 = .ok (.iload_n 2, 1) := by decide +kernel
theorem dX11_close_217 : decode cX11_close 217 = .ok (.ireturn, 1) := by decide +kernel
theorem dX11_isMover_0 : decode cX11_isMover 0 = .ok (.iconst 0, 1) := by decide +kernel
theorem dX11_isMover_1 : decode cX11_isMover 1 = .ok (.istore_n 2, 1) := by decide +kernel
theorem dX11_isMover_2 : decode cX11_isMover 2 = .ok (.iconst 0, 1) := by decide +kernel
theorem dX11_isMover_3 : decode cX11_isMover 3 = .ok (.istore_n 3, 1) := by decide +kernel
theorem dX11_isMover_4 : decode cX11_isMover 4 = .ok (.iload_n 3, 1) := by decide +kernel
theorem dX11_isMover_5 : decode cX11_isMover 5 = .ok (.aload_n 0, 1) := by decide +kernel
theorem dX11_isMover_6 : decode cX11_isMover 6 = .ok (.getfield 255, 3) := by decide +kernel
theorem dX11_isMover_9 : decode cX11_isMover 9 = .ok (.if_icmp .ge 29, 3) := by decide +kernel
theorem dX11_isMover_12 : decode cX11_isMover 12 = .ok (.iload_n 2, 1) := by decide +kernel
theorem dX11_isMover_13 : decode cX11_isMover 13 = .ok (.ifCond .ne 13, 3) := by decide +kernel
theorem dX11_isMover_16 : decode cX11_isMover 16 = .ok (.aload_n 0, 1) := by decide +kernel
theorem dX11_isMover_17 : decode cX11_isMover 17 = .ok (.getfield 71, 3) := by decide +kernel
theorem dX11_isMover_20 : decode cX11_isMover 20 = .ok (.iload_n 3, 1) := by decide +kernel
theorem dX11_isMover_21 : decode cX11_isMover 21 = .ok (.iaload, 1) := by decide +kernel
theorem dX11_isMover_22 : decode cX11_isMover 22 = .ok (.iload_n 1, 1) := by decide +kernel
theorem dX11_isMover_23 : decode cX11_isMover 23 = .ok (.if_icmp .ne 7, 3) := by decide +kernel
theorem dX11_isMover_26 : decode cX11_isMover 26 = .ok (.iconst 1, 1) := by decide +kernel
theorem dX11_isMover_27 : decode cX11_isMover 27 = .ok (.goto 4, 3) := by decide +kernel
theorem dX11_isMover_30 : decode cX11_isMover 30 = .ok (.iconst 0, 1) := by decide +kernel
theorem dX11_isMover_31 : decode cX11_isMover 31 = .ok (.istore_n 2, 1) := by decide +kernel
theorem dX11_isMover_32 : decode cX11_isMover 32 = .ok (.iinc 3 1, 3) := by decide +kernel
theorem dX11_isMover_35 : decode cX11_isMover 35 = .ok (.goto (-31), 3) := by decide +kernel
theorem dX11_isMover_38 : decode cX11_isMover 38 = .ok (.iload_n 2, 1) := by decide +kernel
theorem dX11_isMover_39 : decode cX11_isMover 39 = .ok (.ireturn, 1) := by decide +kernel
theorem dX11_inflow_0 : decode cX11_inflow 0 = .ok (.aload_n 0, 1) := by decide +kernel
theorem dX11_inflow_1 : decode cX11_inflow 1 = .ok (.iload_n 1, 1) := by decide +kernel
theorem dX11_inflow_2 : decode cX11_inflow 2 = .ok (.invokevirtual 169, 3) := by decide +kernel
theorem dX11_inflow_5 : decode cX11_inflow 5 = .ok (.ifCond .ne 5, 3) := by decide +kernel
theorem dX11_inflow_8 : decode cX11_inflow 8 = .ok (.iconst (-1), 1) := by decide +kernel
theorem dX11_inflow_9 : decode cX11_inflow 9 = .ok (.ireturn, 1) := by decide +kernel
theorem dX11_inflow_10 : decode cX11_inflow 10 = .ok (.iload_n 2, 1) := by decide +kernel
theorem dX11_inflow_11 : decode cX11_inflow 11 = .ok (.i2l, 1) := by decide +kernel
theorem dX11_inflow_12 : decode cX11_inflow 12 = .ok (.lconst 0, 1) := by decide +kernel
theorem dX11_inflow_13 : decode cX11_inflow 13 = .ok (.ldc2_w 291, 3) := by decide +kernel
theorem dX11_inflow_16 : decode cX11_inflow 16 = .ok (.invokestatic 140, 3) := by decide +kernel
theorem dX11_inflow_19 : decode cX11_inflow 19 = .ok (.ifCond .ne 6, 3) := by decide +kernel
theorem dX11_inflow_22 : decode cX11_inflow 22 = .ok (.bipush (-2), 2) := by decide +kernel
theorem dX11_inflow_24 : decode cX11_inflow 24 = .ok (.ireturn, 1) := by decide +kernel
theorem dX11_inflow_25 : decode cX11_inflow 25 = .ok (.aload_n 0, 1) := by decide +kernel
theorem dX11_inflow_26 : decode cX11_inflow 26 = .ok (.getfield 90, 3) := by decide +kernel
theorem dX11_inflow_29 : decode cX11_inflow 29 = .ok (.iload_n 1, 1) := by decide +kernel
theorem dX11_inflow_30 : decode cX11_inflow 30 = .ok (.iaload, 1) := by decide +kernel
theorem dX11_inflow_31 : decode cX11_inflow 31 = .ok (.istore_n 3, 1) := by decide +kernel
theorem dX11_inflow_32 : decode cX11_inflow 32 = .ok (.aload_n 0, 1) := by decide +kernel
theorem dX11_inflow_33 : decode cX11_inflow 33 = .ok (.getfield 90, 3) := by decide +kernel
theorem dX11_inflow_36 : decode cX11_inflow 36 = .ok (.iload_n 1, 1) := by decide +kernel
theorem dX11_inflow_37 : decode cX11_inflow 37 = .ok (.iload_n 2, 1) := by decide +kernel
theorem dX11_inflow_38 : decode cX11_inflow 38 = .ok (.iastore, 1) := by decide +kernel
theorem dX11_inflow_39 : decode cX11_inflow 39 = .ok (.iload_n 3, 1) := by decide +kernel
theorem dX11_inflow_40 : decode cX11_inflow 40 = .ok (.ireturn, 1) := by decide +kernel
theorem dX11_pump_0 : decode cX11_pump 0 = .ok (.aload_n 0, 1) := by decide +kernel
theorem dX11_pump_1 : decode cX11_pump 1 = .ok (.iload_n 1, 1) := by decide +kernel
theorem dX11_pump_2 : decode cX11_pump 2 = .ok (.invokevirtual 169, 3) := by decide +kernel
theorem dX11_pump_5 : decode cX11_pump 5 = .ok (.ifCond .ne 5, 3) := by decide +kernel
theorem dX11_pump_8 : decode cX11_pump 8 = .ok (.iconst (-1), 1) := by decide +kernel
theorem dX11_pump_9 : decode cX11_pump 9 = .ok (.ireturn, 1) := by decide +kernel
theorem dX11_pump_10 : decode cX11_pump 10 = .ok (.aload_n 0, 1) := by decide +kernel
theorem dX11_pump_11 : decode cX11_pump 11 = .ok (.getfield 96, 3) := by decide +kernel
theorem dX11_pump_14 : decode cX11_pump 14 = .ok (.iload_n 1, 1) := by decide +kernel
theorem dX11_pump_15 : decode cX11_pump 15 = .ok (.baload, 1) := by decide +kernel
theorem dX11_pump_16 : decode cX11_pump 16 = .ok (.ifCond .eq 7, 3) := by decide +kernel
theorem dX11_pump_19 : decode cX11_pump 19 = .ok (.iconst 1, 1) := by decide +kernel
theorem dX11_pump_20 : decode cX11_pump 20 = .ok (.goto 4, 3) := by decide +kernel
theorem dX11_pump_23 : decode cX11_pump 23 = .ok (.iconst 0, 1) := by decide +kernel
theorem dX11_pump_24 : decode cX11_pump 24 = .ok (.istore_n 3, 1) := by decide +kernel
theorem dX11_pump_25 : decode cX11_pump 25 = .ok (.aload_n 0, 1) := by decide +kernel
theorem dX11_pump_26 : decode cX11_pump 26 = .ok (.getfield 96, 3) := by decide +kernel
theorem dX11_pump_29 : decode cX11_pump 29 = .ok (.iload_n 1, 1) := by decide +kernel
theorem dX11_pump_30 : decode cX11_pump 30 = .ok (.iload_n 2, 1) := by decide +kernel
theorem dX11_pump_31 : decode cX11_pump 31 = .ok (.bastore, 1) := by decide +kernel
theorem dX11_pump_32 : decode cX11_pump 32 = .ok (.iload_n 3, 1) := by decide +kernel
theorem dX11_pump_33 : decode cX11_pump 33 = .ok (.ireturn, 1) := by decide +kernel
theorem dX11_way_0 : decode cX11_way 0 = .ok (.aload_n 0, 1) := by decide +kernel
theorem dX11_way_1 : decode cX11_way 1 = .ok (.iload_n 1, 1) := by decide +kernel
theorem dX11_way_2 : decode cX11_way 2 = .ok (.invokevirtual 169, 3) := by decide +kernel
theorem dX11_way_5 : decode cX11_way 5 = .ok (.ifCond .eq 16, 3) := by decide +kernel
theorem dX11_way_8 : decode cX11_way 8 = .ok (.aload_n 0, 1) := by decide +kernel
theorem dX11_way_9 : decode cX11_way 9 = .ok (.iload_n 2, 1) := by decide +kernel
theorem dX11_way_10 : decode cX11_way 10 = .ok (.invokevirtual 169, 3) := by decide +kernel
theorem dX11_way_13 : decode cX11_way 13 = .ok (.ifCond .eq 8, 3) := by decide +kernel
theorem dX11_way_16 : decode cX11_way 16 = .ok (.iload_n 1, 1) := by decide +kernel
theorem dX11_way_17 : decode cX11_way 17 = .ok (.iload_n 2, 1) := by decide +kernel
theorem dX11_way_18 : decode cX11_way 18 = .ok (.if_icmp .ne 5, 3) := by decide +kernel
theorem dX11_way_21 : decode cX11_way 21 = .ok (.iconst (-1), 1) := by decide +kernel
theorem dX11_way_22 : decode cX11_way 22 = .ok (.ireturn, 1) := by decide +kernel
theorem dX11_way_23 : decode cX11_way 23 = .ok (.iload_n 3, 1) := by decide +kernel
theorem dX11_way_24 : decode cX11_way 24 = .ok (.i2l, 1) := by decide +kernel
theorem dX11_way_25 : decode cX11_way 25 = .ok (.lconst 0, 1) := by decide +kernel
theorem dX11_way_26 : decode cX11_way 26 = .ok (.ldc2_w 158, 3) := by decide +kernel
theorem dX11_way_29 : decode cX11_way 29 = .ok (.invokestatic 140, 3) := by decide +kernel
theorem dX11_way_32 : decode cX11_way 32 = .ok (.ifCond .ne 6, 3) := by decide +kernel
theorem dX11_way_35 : decode cX11_way 35 = .ok (.bipush (-2), 2) := by decide +kernel
theorem dX11_way_37 : decode cX11_way 37 = .ok (.ireturn, 1) := by decide +kernel
theorem dX11_way_38 : decode cX11_way 38 = .ok (.aload_n 0, 1) := by decide +kernel
theorem dX11_way_39 : decode cX11_way 39 = .ok (.getfield 293, 3) := by decide +kernel
theorem dX11_way_42 : decode cX11_way 42 = .ok (.bipush 12, 2) := by decide +kernel
theorem dX11_way_44 : decode cX11_way 44 = .ok (.if_icmp .ne 6, 3) := by decide +kernel
theorem dX11_way_47 : decode cX11_way 47 = .ok (.bipush (-4), 2) := by decide +kernel
theorem dX11_way_49 : decode cX11_way 49 = .ok (.ireturn, 1) := by decide +kernel
theorem dX11_way_50 : decode cX11_way 50 = .ok (.aload_n 0, 1) := by decide +kernel
theorem dX11_way_51 : decode cX11_way 51 = .ok (.getfield 102, 3) := by decide +kernel
theorem dX11_way_54 : decode cX11_way 54 = .ok (.aload_n 0, 1) := by decide +kernel
theorem dX11_way_55 : decode cX11_way 55 = .ok (.getfield 293, 3) := by decide +kernel
theorem dX11_way_58 : decode cX11_way 58 = .ok (.iload_n 1, 1) := by decide +kernel
theorem dX11_way_59 : decode cX11_way 59 = .ok (.iastore, 1) := by decide +kernel
theorem dX11_way_60 : decode cX11_way 60 = .ok (.aload_n 0, 1) := by decide +kernel
theorem dX11_way_61 : decode cX11_way 61 = .ok (.getfield 105, 3) := by decide +kernel
theorem dX11_way_64 : decode cX11_way 64 = .ok (.aload_n 0, 1) := by decide +kernel
theorem dX11_way_65 : decode cX11_way 65 = .ok (.getfield 293, 3) := by decide +kernel
theorem dX11_way_68 : decode cX11_way 68 = .ok (.iload_n 2, 1) := by decide +kernel
theorem dX11_way_69 : decode cX11_way 69 = .ok (.iastore, 1) := by decide +kernel
theorem dX11_way_70 : decode cX11_way 70 = .ok (.aload_n 0, 1) := by decide +kernel
theorem dX11_way_71 : decode cX11_way 71 = .ok (.getfield 108, 3) := by decide +kernel
theorem dX11_way_74 : decode cX11_way 74 = .ok (.aload_n 0, 1) := by decide +kernel
theorem dX11_way_75 : decode cX11_way 75 = .ok (.getfield 293, 3) := by decide +kernel
theorem dX11_way_78 : decode cX11_way 78 = .ok (.iload_n 3, 1) := by decide +kernel
theorem dX11_way_79 : decode cX11_way 79 = .ok (.iastore, 1) := by decide +kernel
theorem dX11_way_80 : decode cX11_way 80 = .ok (.aload_n 0, 1) := by decide +kernel
theorem dX11_way_81 : decode cX11_way 81 = .ok (.dup, 1) := by decide +kernel
theorem dX11_way_82 : decode cX11_way 82 = .ok (.getfield 293, 3) := by decide +kernel
theorem dX11_way_85 : decode cX11_way 85 = .ok (.iconst 1, 1) := by decide +kernel
theorem dX11_way_86 : decode cX11_way 86 = .ok (.iadd, 1) := by decide +kernel
theorem dX11_way_87 : decode cX11_way 87 = .ok (.putfield 293, 3) := by decide +kernel
theorem dX11_way_90 : decode cX11_way 90 = .ok (.aload_n 0, 1) := by decide +kernel
theorem dX11_way_91 : decode cX11_way 91 = .ok (.getfield 293, 3) := by decide +kernel
theorem dX11_way_94 : decode cX11_way 94 = .ok (.iconst 1, 1) := by decide +kernel
theorem dX11_way_95 : decode cX11_way 95 = .ok (.isub, 1) := by decide +kernel
theorem dX11_way_96 : decode cX11_way 96 = .ok (.ireturn, 1) := by decide +kernel
theorem dX11_run_0 : decode cX11_run 0 = .ok (.iload_n 3, 1) := by decide +kernel
theorem dX11_run_1 : decode cX11_run 1 = .ok (.aload_n 0, 1) := by decide +kernel
theorem dX11_run_2 : decode cX11_run 2 = .ok (.getfield 93, 3) := by decide +kernel
theorem dX11_run_5 : decode cX11_run 5 = .ok (.iload_n 2, 1) := by decide +kernel
theorem dX11_run_6 : decode cX11_run 6 = .ok (.iaload, 1) := by decide +kernel
theorem dX11_run_7 : decode cX11_run 7 = .ok (.if_icmp .le 7, 3) := by decide +kernel
theorem dX11_run_10 : decode cX11_run 10 = .ok (.iload_n 3, 1) := by decide +kernel
theorem dX11_run_11 : decode cX11_run 11 = .ok (.goto 9, 3) := by decide +kernel
theorem dX11_run_14 : decode cX11_run 14 = .ok (.aload_n 0, 1) := by decide +kernel
theorem dX11_run_15 : decode cX11_run 15 = .ok (.getfield 93, 3) := by decide +kernel
theorem dX11_run_18 : decode cX11_run 18 = .ok (.iload_n 2, 1) := by decide +kernel
theorem dX11_run_19 : decode cX11_run 19 = .ok (.iaload, 1) := by decide +kernel
theorem dX11_run_20 : decode cX11_run 20 = .ok (.istore 4, 2) := by decide +kernel
theorem dX11_run_22 : decode cX11_run 22 = .ok (.aload_n 0, 1) := by decide +kernel
theorem dX11_run_23 : decode cX11_run 23 = .ok (.getfield 93, 3) := by decide +kernel
theorem dX11_run_26 : decode cX11_run 26 = .ok (.iload_n 1, 1) := by decide +kernel
theorem dX11_run_27 : decode cX11_run 27 = .ok (.iaload, 1) := by decide +kernel
theorem dX11_run_28 : decode cX11_run 28 = .ok (.iload 4, 2) := by decide +kernel
theorem dX11_run_30 : decode cX11_run 30 = .ok (.if_icmp .le 38, 3) := by decide +kernel
theorem dX11_run_33 : decode cX11_run 33 = .ok (.aload_n 0, 1) := by decide +kernel
theorem dX11_run_34 : decode cX11_run 34 = .ok (.getfield 93, 3) := by decide +kernel
theorem dX11_run_37 : decode cX11_run 37 = .ok (.iload_n 1, 1) := by decide +kernel
theorem dX11_run_38 : decode cX11_run 38 = .ok (.iaload, 1) := by decide +kernel
theorem dX11_run_39 : decode cX11_run 39 = .ok (.iload 4, 2) := by decide +kernel
theorem dX11_run_41 : decode cX11_run 41 = .ok (.isub, 1) := by decide +kernel
theorem dX11_run_42 : decode cX11_run 42 = .ok (.iconst 2, 1) := by decide +kernel
theorem dX11_run_43 : decode cX11_run 43 = .ok (.idiv, 1) := by decide +kernel
theorem dX11_run_44 : decode cX11_run 44 = .ok (.istore 5, 2) := by decide +kernel
theorem dX11_run_46 : decode cX11_run 46 = .ok (.aload_n 0, 1) := by decide +kernel
theorem dX11_run_47 : decode cX11_run 47 = .ok (.getfield 93, 3) := by decide +kernel
theorem dX11_run_50 : decode cX11_run 50 = .ok (.iload_n 1, 1) := by decide +kernel
theorem dX11_run_51 : decode cX11_run 51 = .ok (.dup2, 1) := by decide +kernel
theorem dX11_run_52 : decode cX11_run 52 = .ok (.iaload, 1) := by decide +kernel
theorem dX11_run_53 : decode cX11_run 53 = .ok (.iload 5, 2) := by decide +kernel
theorem dX11_run_55 : decode cX11_run 55 = .ok (.isub, 1) := by decide +kernel
theorem dX11_run_56 : decode cX11_run 56 = .ok (.iastore, 1) := by decide +kernel
theorem dX11_run_57 : decode cX11_run 57 = .ok (.aload_n 0, 1) := by decide +kernel
theorem dX11_run_58 : decode cX11_run 58 = .ok (.getfield 93, 3) := by decide +kernel
theorem dX11_run_61 : decode cX11_run 61 = .ok (.iload_n 2, 1) := by decide +kernel
theorem dX11_run_62 : decode cX11_run 62 = .ok (.dup2, 1) := by decide +kernel
theorem dX11_run_63 : decode cX11_run 63 = .ok (.iaload, 1) := by decide +kernel
theorem dX11_run_64 : decode cX11_run 64 = .ok (.iload 5, 2) := by decide +kernel
theorem dX11_run_66 : decode cX11_run 66 = .ok (.iadd, 1) := by decide +kernel
theorem dX11_run_67 : decode cX11_run 67 = .ok (.iastore, 1) := by decide +kernel
theorem dX11_run_68 : decode cX11_run 68 = .ok (.return_, 1) := by decide +kernel
theorem dX11_isDrowned_0 : decode cX11_isDrowned 0 = .ok (.iconst 3, 1) := by decide +kernel
theorem dX11_isDrowned_1 : decode cX11_isDrowned 1 = .ok (.aload_n 0, 1) := by decide +kernel
theorem dX11_isDrowned_2 : decode cX11_isDrowned 2 = .ok (.getfield 93, 3) := by decide +kernel
theorem dX11_isDrowned_5 : decode cX11_isDrowned 5 = .ok (.iload_n 1, 1) := by decide +kernel
theorem dX11_isDrowned_6 : decode cX11_isDrowned 6 = .ok (.iaload, 1) := by decide +kernel
theorem dX11_isDrowned_7 : decode cX11_isDrowned 7 = .ok (.imul, 1) := by decide +kernel
theorem dX11_isDrowned_8 : decode cX11_isDrowned 8 = .ok (.aload_n 0, 1) := by decide +kernel
theorem dX11_isDrowned_9 : decode cX11_isDrowned 9 = .ok (.getfield 28, 3) := by decide +kernel
theorem dX11_isDrowned_12 : decode cX11_isDrowned 12 = .ok (.iload_n 1, 1) := by decide +kernel
theorem dX11_isDrowned_13 : decode cX11_isDrowned 13 = .ok (.iaload, 1) := by decide +kernel
theorem dX11_isDrowned_14 : decode cX11_isDrowned 14 = .ok (.if_icmp .le 7, 3) := by decide +kernel
theorem dX11_isDrowned_17 : decode cX11_isDrowned 17 = .ok (.iconst 1, 1) := by decide +kernel
theorem dX11_isDrowned_18 : decode cX11_isDrowned 18 = .ok (.goto 4, 3) := by decide +kernel
theorem dX11_isDrowned_21 : decode cX11_isDrowned 21 = .ok (.iconst 0, 1) := by decide +kernel
theorem dX11_isDrowned_22 : decode cX11_isDrowned 22 = .ok (.ireturn, 1) := by decide +kernel
theorem dX11_monthOn_0 : decode cX11_monthOn 0 = .ok (.iconst 0, 1) := by decide +kernel
theorem dX11_monthOn_1 : decode cX11_monthOn 1 = .ok (.istore_n 2, 1) := by decide +kernel
theorem dX11_monthOn_2 : decode cX11_monthOn 2 = .ok (.iload_n 2, 1) := by decide +kernel
theorem dX11_monthOn_3 : decode cX11_monthOn 3 = .ok (.aload_n 0, 1) := by decide +kernel
theorem dX11_monthOn_4 : decode cX11_monthOn 4 = .ok (.getfield 144, 3) := by decide +kernel
theorem dX11_monthOn_7 : decode cX11_monthOn 7 = .ok (.if_icmp .ge 24, 3) := by decide +kernel
theorem dX11_monthOn_10 : decode cX11_monthOn 10 = .ok (.aload_n 0, 1) := by decide +kernel
theorem dX11_monthOn_11 : decode cX11_monthOn 11 = .ok (.getfield 93, 3) := by decide +kernel
theorem dX11_monthOn_14 : decode cX11_monthOn 14 = .ok (.iload_n 2, 1) := by decide +kernel
theorem dX11_monthOn_15 : decode cX11_monthOn 15 = .ok (.dup2, 1) := by decide +kernel
theorem dX11_monthOn_16 : decode cX11_monthOn 16 = .ok (.iaload, 1) := by decide +kernel
theorem dX11_monthOn_17 : decode cX11_monthOn 17 = .ok (.aload_n 0, 1) := by decide +kernel
theorem dX11_monthOn_18 : decode cX11_monthOn 18 = .ok (.getfield 90, 3) := by decide +kernel
theorem dX11_monthOn_21 : decode cX11_monthOn 21 = .ok (.iload_n 2, 1) := by decide +kernel
theorem dX11_monthOn_22 : decode cX11_monthOn 22 = .ok (.iaload, 1) := by decide +kernel
theorem dX11_monthOn_23 : decode cX11_monthOn 23 = .ok (.iadd, 1) := by decide +kernel
theorem dX11_monthOn_24 : decode cX11_monthOn 24 = .ok (.iastore, 1) := by decide +kernel
theorem dX11_monthOn_25 : decode cX11_monthOn 25 = .ok (.iinc 2 1, 3) := by decide +kernel
theorem dX11_monthOn_28 : decode cX11_monthOn 28 = .ok (.goto (-26), 3) := by decide +kernel
theorem dX11_monthOn_31 : decode cX11_monthOn 31 = .ok (.iconst 0, 1) := by decide +kernel
theorem dX11_monthOn_32 : decode cX11_monthOn 32 = .ok (.istore_n 2, 1) := by decide +kernel
theorem dX11_monthOn_33 : decode cX11_monthOn 33 = .ok (.iload_n 2, 1) := by decide +kernel
theorem dX11_monthOn_34 : decode cX11_monthOn 34 = .ok (.aload_n 0, 1) := by decide +kernel
theorem dX11_monthOn_35 : decode cX11_monthOn 35 = .ok (.getfield 293, 3) := by decide +kernel
theorem dX11_monthOn_38 : decode cX11_monthOn 38 = .ok (.if_icmp .ge 88, 3) := by decide +kernel
theorem dX11_monthOn_41 : decode cX11_monthOn 41 = .ok (.aload_n 0, 1) := by decide +kernel
theorem dX11_monthOn_42 : decode cX11_monthOn 42 = .ok (.getfield 93, 3) := by decide +kernel
theorem dX11_monthOn_45 : decode cX11_monthOn 45 = .ok (.aload_n 0, 1) := by decide +kernel
theorem dX11_monthOn_46 : decode cX11_monthOn 46 = .ok (.getfield 102, 3) := by decide +kernel
theorem dX11_monthOn_49 : decode cX11_monthOn 49 = .ok (.iload_n 2, 1) := by decide +kernel
theorem dX11_monthOn_50 : decode cX11_monthOn 50 = .ok (.iaload, 1) := by decide +kernel
theorem dX11_monthOn_51 : decode cX11_monthOn 51 = .ok (.iaload, 1) := by decide +kernel
theorem dX11_monthOn_52 : decode cX11_monthOn 52 = .ok (.aload_n 0, 1) := by decide +kernel
theorem dX11_monthOn_53 : decode cX11_monthOn 53 = .ok (.getfield 93, 3) := by decide +kernel
theorem dX11_monthOn_56 : decode cX11_monthOn 56 = .ok (.aload_n 0, 1) := by decide +kernel
theorem dX11_monthOn_57 : decode cX11_monthOn 57 = .ok (.getfield 105, 3) := by decide +kernel
theorem dX11_monthOn_60 : decode cX11_monthOn 60 = .ok (.iload_n 2, 1) := by decide +kernel
theorem dX11_monthOn_61 : decode cX11_monthOn 61 = .ok (.iaload, 1) := by decide +kernel
theorem dX11_monthOn_62 : decode cX11_monthOn 62 = .ok (.iaload, 1) := by decide +kernel
theorem dX11_monthOn_63 : decode cX11_monthOn 63 = .ok (.if_icmp .le 7, 3) := by decide +kernel
theorem dX11_monthOn_66 : decode cX11_monthOn 66 = .ok (.iconst 1, 1) := by decide +kernel
theorem dX11_monthOn_67 : decode cX11_monthOn 67 = .ok (.goto 4, 3) := by decide +kernel
theorem dX11_monthOn_70 : decode cX11_monthOn 70 = .ok (.iconst 0, 1) := by decide +kernel
theorem dX11_monthOn_71 : decode cX11_monthOn 71 = .ok (.istore_n 3, 1) := by decide +kernel
theorem dX11_monthOn_72 : decode cX11_monthOn 72 = .ok (.aload_n 0, 1) := by decide +kernel
theorem dX11_monthOn_73 : decode cX11_monthOn 73 = .ok (.iload_n 3, 1) := by decide +kernel
theorem dX11_monthOn_74 : decode cX11_monthOn 74 = .ok (.ifCond .eq 12, 3) := by decide +kernel
theorem dX11_monthOn_77 : decode cX11_monthOn 77 = .ok (.aload_n 0, 1) := by decide +kernel
theorem dX11_monthOn_78 : decode cX11_monthOn 78 = .ok (.getfield 102, 3) := by decide +kernel
theorem dX11_monthOn_81 : decode cX11_monthOn 81 = .ok (.iload_n 2, 1) := by decide +kernel
theorem dX11_monthOn_82 : decode cX11_monthOn 82 = .ok (.iaload, 1) := by decide +kernel
theorem dX11_monthOn_83 : decode cX11_monthOn 83 = .ok (.goto 9, 3) := by decide +kernel
theorem dX11_monthOn_86 : decode cX11_monthOn 86 = .ok (.aload_n 0, 1) := by decide +kernel
theorem dX11_monthOn_87 : decode cX11_monthOn 87 = .ok (.getfield 105, 3) := by decide +kernel
theorem dX11_monthOn_90 : decode cX11_monthOn 90 = .ok (.iload_n 2, 1) := by decide +kernel
theorem dX11_monthOn_91 : decode cX11_monthOn 91 = .ok (.iaload, 1) := by decide +kernel
theorem dX11_monthOn_92 : decode cX11_monthOn 92 = .ok (.iload_n 3, 1) := by decide +kernel
theorem dX11_monthOn_93 : decode cX11_monthOn 93 = .ok (.ifCond .eq 12, 3) := by decide +kernel
theorem dX11_monthOn_96 : decode cX11_monthOn 96 = .ok (.aload_n 0, 1) := by decide +kernel
theorem dX11_monthOn_97 : decode cX11_monthOn 97 = .ok (.getfield 105, 3) := by decide +kernel
theorem dX11_monthOn_100 : decode cX11_monthOn 100 = .ok (.iload_n 2, 1) := by decide +kernel
theorem dX11_monthOn_101 : decode cX11_monthOn 101 = .ok (.iaload, 1) := by decide +kernel
theorem dX11_monthOn_102 : decode cX11_monthOn 102 = .ok (.goto 9, 3) := by decide +kernel
theorem dX11_monthOn_105 : decode cX11_monthOn 105 = .ok (.aload_n 0, 1) := by decide +kernel
theorem dX11_monthOn_106 : decode cX11_monthOn 106 = .ok (.getfield 102, 3) := by decide +kernel
theorem dX11_monthOn_109 : decode cX11_monthOn 109 = .ok (.iload_n 2, 1) := by decide +kernel
theorem dX11_monthOn_110 : decode cX11_monthOn 110 = .ok (.iaload, 1) := by decide +kernel
theorem dX11_monthOn_111 : decode cX11_monthOn 111 = .ok (.aload_n 0, 1) := by decide +kernel
theorem dX11_monthOn_112 : decode cX11_monthOn 112 = .ok (.getfield 108, 3) := by decide +kernel
theorem dX11_monthOn_115 : decode cX11_monthOn 115 = .ok (.iload_n 2, 1) := by decide +kernel
theorem dX11_monthOn_116 : decode cX11_monthOn 116 = .ok (.iaload, 1) := by decide +kernel
theorem dX11_monthOn_117 : decode cX11_monthOn 117 = .ok (.invokevirtual 296, 3) := by decide +kernel
theorem dX11_monthOn_120 : decode cX11_monthOn 120 = .ok (.iinc 2 1, 3) := by decide +kernel
theorem dX11_monthOn_123 : decode cX11_monthOn 123 = .ok (.goto (-90), 3) := by decide +kernel
theorem dX11_monthOn_126 : decode cX11_monthOn 126 = .ok (.iconst 0, 1) := by decide +kernel
theorem dX11_monthOn_127 : decode cX11_monthOn 127 = .ok (.istore_n 2, 1) := by decide +kernel
theorem dX11_monthOn_128 : decode cX11_monthOn 128 = .ok (.iload_n 2, 1) := by decide +kernel
theorem dX11_monthOn_129 : decode cX11_monthOn 129 = .ok (.aload_n 0, 1) := by decide +kernel
theorem dX11_monthOn_130 : decode cX11_monthOn 130 = .ok (.getfield 144, 3) := by decide +kernel
theorem dX11_monthOn_133 : decode cX11_monthOn 133 = .ok (.if_icmp .ge 97, 3) := by decide +kernel
theorem dX11_monthOn_136 : decode cX11_monthOn 136 = .ok (.aload_n 0, 1) := by decide +kernel
theorem dX11_monthOn_137 : decode cX11_monthOn 137 = .ok (.getfield 96, 3) := by decide +kernel
theorem dX11_monthOn_140 : decode cX11_monthOn 140 = .ok (.iload_n 2, 1) := by decide +kernel
theorem dX11_monthOn_141 : decode cX11_monthOn 141 = .ok (.baload, 1) := by decide +kernel
theorem dX11_monthOn_142 : decode cX11_monthOn 142 = .ok (.ifCond .eq 33, 3) := by decide +kernel
theorem dX11_monthOn_145 : decode cX11_monthOn 145 = .ok (.iload_n 2, 1) := by decide +kernel
theorem dX11_monthOn_146 : decode cX11_monthOn 146 = .ok (.iload_n 1, 1) := by decide +kernel
theorem dX11_monthOn_147 : decode cX11_monthOn 147 = .ok (.if_icmp .eq 28, 3) := by decide +kernel
theorem dX11_monthOn_150 : decode cX11_monthOn 150 = .ok (.aload_n 0, 1) := by decide +kernel
theorem dX11_monthOn_151 : decode cX11_monthOn 151 = .ok (.dup, 1) := by decide +kernel
theorem dX11_monthOn_152 : decode cX11_monthOn 152 = .ok (.getfield 300, 3) := by decide +kernel
theorem dX11_monthOn_155 : decode cX11_monthOn 155 = .ok (.aload_n 0, 1) := by decide +kernel
theorem dX11_monthOn_156 : decode cX11_monthOn 156 = .ok (.getfield 93, 3) := by decide +kernel
theorem dX11_monthOn_159 : decode cX11_monthOn 159 = .ok (.iload_n 2, 1) := by decide +kernel
theorem dX11_monthOn_160 : decode cX11_monthOn 160 = .ok (.iaload, 1) := by decide +kernel
theorem dX11_monthOn_161 : decode cX11_monthOn 161 = .ok (.iadd, 1) := by decide +kernel
theorem dX11_monthOn_162 : decode cX11_monthOn 162 = .ok (.putfield 300, 3) := by decide +kernel
theorem dX11_monthOn_165 : decode cX11_monthOn 165 = .ok (.aload_n 0, 1) := by decide +kernel
theorem dX11_monthOn_166 : decode cX11_monthOn 166 = .ok (.getfield 93, 3) := by decide +kernel
theorem dX11_monthOn_169 : decode cX11_monthOn 169 = .ok (.iload_n 2, 1) := by decide +kernel
theorem dX11_monthOn_170 : decode cX11_monthOn 170 = .ok (.iconst 0, 1) := by decide +kernel
theorem dX11_monthOn_171 : decode cX11_monthOn 171 = .ok (.iastore, 1) := by decide +kernel
theorem dX11_monthOn_172 : decode cX11_monthOn 172 = .ok (.goto 52, 3) := by decide +kernel
theorem dX11_monthOn_175 : decode cX11_monthOn 175 = .ok (.aload_n 0, 1) := by decide +kernel
theorem dX11_monthOn_176 : decode cX11_monthOn 176 = .ok (.getfield 93, 3) := by decide +kernel
theorem dX11_monthOn_179 : decode cX11_monthOn 179 = .ok (.iload_n 2, 1) := by decide +kernel
theorem dX11_monthOn_180 : decode cX11_monthOn 180 = .ok (.iaload, 1) := by decide +kernel
theorem dX11_monthOn_181 : decode cX11_monthOn 181 = .ok (.aload_n 0, 1) := by decide +kernel
theorem dX11_monthOn_182 : decode cX11_monthOn 182 = .ok (.getfield 28, 3) := by decide +kernel
theorem dX11_monthOn_185 : decode cX11_monthOn 185 = .ok (.iload_n 2, 1) := by decide +kernel
theorem dX11_monthOn_186 : decode cX11_monthOn 186 = .ok (.iaload, 1) := by decide +kernel
theorem dX11_monthOn_187 : decode cX11_monthOn 187 = .ok (.if_icmp .le 37, 3) := by decide +kernel
theorem dX11_monthOn_190 : decode cX11_monthOn 190 = .ok (.aload_n 0, 1) := by decide +kernel
theorem dX11_monthOn_191 : decode cX11_monthOn 191 = .ok (.dup, 1) := by decide +kernel
theorem dX11_monthOn_192 : decode cX11_monthOn 192 = .ok (.getfield 303, 3) := by decide +kernel
theorem dX11_monthOn_195 : decode cX11_monthOn 195 = .ok (.aload_n 0, 1) := by decide +kernel
theorem dX11_monthOn_196 : decode cX11_monthOn 196 = .ok (.getfield 93, 3) := by decide +kernel
theorem dX11_monthOn_199 : decode cX11_monthOn 199 = .ok (.iload_n 2, 1) := by decide +kernel
theorem dX11_monthOn_200 : decode cX11_monthOn 200 = .ok (.iaload, 1) := by decide +kernel
theorem dX11_monthOn_201 : decode cX11_monthOn 201 = .ok (.aload_n 0, 1) := by decide +kernel
theorem dX11_monthOn_202 : decode cX11_monthOn 202 = .ok (.getfield 28, 3) := by decide +kernel
theorem dX11_monthOn_205 : decode cX11_monthOn 205 = .ok (.iload_n 2, 1) := by decide +kernel
theorem dX11_monthOn_206 : decode cX11_monthOn 206 = .ok (.iaload, 1) := by decide +kernel
theorem dX11_monthOn_207 : decode cX11_monthOn 207 = .ok (.isub, 1) := by decide +kernel
theorem dX11_monthOn_208 : decode cX11_monthOn 208 = .ok (.iadd, 1) := by decide +kernel
theorem dX11_monthOn_209 : decode cX11_monthOn 209 = .ok (.putfield 303, 3) := by decide +kernel
theorem dX11_monthOn_212 : decode cX11_monthOn 212 = .ok (.aload_n 0, 1) := by decide +kernel
theorem dX11_monthOn_213 : decode cX11_monthOn 213 = .ok (.getfield 93, 3) := by decide +kernel
theorem dX11_monthOn_216 : decode cX11_monthOn 216 = .ok (.iload_n 2, 1) := by decide +kernel
theorem dX11_monthOn_217 : decode cX11_monthOn 217 = .ok (.aload_n 0, 1) := by decide +kernel
theorem dX11_monthOn_218 : decode cX11_monthOn 218 = .ok (.getfield 28, 3) := by decide +kernel
theorem dX11_monthOn_221 : decode cX11_monthOn 221 = .ok (.iload_n 2, 1) := by decide +kernel
theorem dX11_monthOn_222 : decode cX11_monthOn 222 = .ok (.iaload, 1) := by decide +kernel
theorem dX11_monthOn_223 : decode cX11_monthOn 223 = .ok (.iastore, 1) := by decide +kernel
theorem dX11_monthOn_224 : decode cX11_monthOn 224 = .ok (.iinc 2 1, 3) := by decide +kernel
theorem dX11_monthOn_227 : decode cX11_monthOn 227 = .ok (.goto (-99), 3) := by decide +kernel
theorem dX11_monthOn_230 : decode cX11_monthOn 230 = .ok (.return_, 1) := by decide +kernel
theorem dX11_months_0 : decode cX11_months 0 = .ok (.iload_n 1, 1) := by decide +kernel
theorem dX11_months_1 : decode cX11_months 1 = .ok (.i2l, 1) := by decide +kernel
theorem dX11_months_2 : decode cX11_months 2 = .ok (.lconst 1, 1) := by decide +kernel
theorem dX11_months_3 : decode cX11_months 3 = .ok (.ldc2_w 306, 3) := by decide +kernel
theorem dX11_months_6 : decode cX11_months 6 = .ok (.invokestatic 140, 3) := by decide +kernel
theorem dX11_months_9 : decode cX11_months 9 = .ok (.ifCond .ne 6, 3) := by decide +kernel
theorem dX11_months_12 : decode cX11_months 12 = .ok (.bipush (-2), 2) := by decide +kernel
theorem dX11_months_14 : decode cX11_months 14 = .ok (.ireturn, 1) := by decide +kernel
theorem dX11_months_15 : decode cX11_months 15 = .ok (.iconst 0, 1) := by decide +kernel
theorem dX11_months_16 : decode cX11_months 16 = .ok (.istore_n 2, 1) := by decide +kernel
theorem dX11_months_17 : decode cX11_months 17 = .ok (.iconst 0, 1) := by decide +kernel
theorem dX11_months_18 : decode cX11_months 18 = .ok (.istore_n 3, 1) := by decide +kernel
theorem dX11_months_19 : decode cX11_months 19 = .ok (.iload_n 3, 1) := by decide +kernel
theorem dX11_months_20 : decode cX11_months 20 = .ok (.iload_n 1, 1) := by decide +kernel
theorem dX11_months_21 : decode cX11_months 21 = .ok (.if_icmp .ge 76, 3) := by decide +kernel
theorem dX11_months_24 : decode cX11_months 24 = .ok (.aload_n 0, 1) := by decide +kernel
theorem dX11_months_25 : decode cX11_months 25 = .ok (.bipush (-6), 2) := by decide +kernel
theorem dX11_months_27 : decode cX11_months 27 = .ok (.invokevirtual 308, 3) := by decide +kernel
theorem dX11_months_30 : decode cX11_months 30 = .ok (.iconst 0, 1) := by decide +kernel
theorem dX11_months_31 : decode cX11_months 31 = .ok (.istore 4, 2) := by decide +kernel
theorem dX11_months_33 : decode cX11_months 33 = .ok (.iload 4, 2) := by decide +kernel
theorem dX11_months_35 : decode cX11_months 35 = .ok (.aload_n 0, 1) := by decide +kernel
theorem dX11_months_36 : decode cX11_months 36 = .ok (.getfield 144, 3) := by decide +kernel
theorem dX11_months_39 : decode cX11_months 39 = .ok (.if_icmp .ge 42, 3) := by decide +kernel
theorem dX11_months_42 : decode cX11_months 42 = .ok (.aload_n 0, 1) := by decide +kernel
theorem dX11_months_43 : decode cX11_months 43 = .ok (.getfield 99, 3) := by decide +kernel
theorem dX11_months_46 : decode cX11_months 46 = .ok (.iload 4, 2) := by decide +kernel
theorem dX11_months_48 : decode cX11_months 48 = .ok (.iaload, 1) := by decide +kernel
theorem dX11_months_49 : decode cX11_months 49 = .ok (.ifCond .ge 26, 3) := by decide +kernel
theorem dX11_months_52 : decode cX11_months 52 = .ok (.aload_n 0, 1) := by decide +kernel
theorem dX11_months_53 : decode cX11_months 53 = .ok (.iload 4, 2) := by decide +kernel
theorem dX11_months_55 : decode cX11_months 55 = .ok (.invokevirtual 311, 3) := by decide +kernel
theorem dX11_months_58 : decode cX11_months 58 = .ok (.ifCond .eq 17, 3) := by decide +kernel
theorem dX11_months_61 : decode cX11_months 61 = .ok (.aload_n 0, 1) := by decide +kernel
theorem dX11_months_62 : decode cX11_months 62 = .ok (.getfield 99, 3) := by decide +kernel
theorem dX11_months_65 : decode cX11_months 65 = .ok (.iload 4, 2) := by decide +kernel
theorem dX11_months_67 : decode cX11_months 67 = .ok (.aload_n 0, 1) := by decide +kernel
theorem dX11_months_68 : decode cX11_months 68 = .ok (.getfield 314, 3) := by decide +kernel
theorem dX11_months_71 : decode cX11_months 71 = .ok (.iastore, 1) := by decide +kernel
theorem dX11_months_72 : decode cX11_months 72 = .ok (.iinc 2 1, 3) := by decide +kernel
theorem dX11_months_75 : decode cX11_months 75 = .ok (.iinc 4 1, 3) := by decide +kernel
theorem dX11_months_78 : decode cX11_months 78 = .ok (.goto (-45), 3) := by decide +kernel
theorem dX11_months_81 : decode cX11_months 81 = .ok (.aload_n 0, 1) := by decide +kernel
theorem dX11_months_82 : decode cX11_months 82 = .ok (.dup, 1) := by decide +kernel
theorem dX11_months_83 : decode cX11_months 83 = .ok (.getfield 314, 3) := by decide +kernel
theorem dX11_months_86 : decode cX11_months 86 = .ok (.iconst 1, 1) := by decide +kernel
theorem dX11_months_87 : decode cX11_months 87 = .ok (.iadd, 1) := by decide +kernel
theorem dX11_months_88 : decode cX11_months 88 = .ok (.putfield 314, 3) := by decide +kernel
theorem dX11_months_91 : decode cX11_months 91 = .ok (.iinc 3 1, 3) := by decide +kernel
theorem dX11_months_94 : decode cX11_months 94 = .ok (.goto (-75), 3) := by decide +kernel
theorem dX11_months_97 : decode cX11_months 97 = .ok (.iload_n 2, 1) := by decide +kernel
theorem dX11_months_98 : decode cX11_months 98 = .ok (.ireturn, 1) := by decide +kernel
theorem dX11_threat_0 : decode cX11_threat 0 = .ok (.aload_n 0, 1) := by decide +kernel
theorem dX11_threat_1 : decode cX11_threat 1 = .ok (.iload_n 1, 1) := by decide +kernel
theorem dX11_threat_2 : decode cX11_threat 2 = .ok (.invokevirtual 169, 3) := by decide +kernel
theorem dX11_threat_5 : decode cX11_threat 5 = .ok (.ifCond .eq 11, 3) := by decide +kernel
theorem dX11_threat_8 : decode cX11_threat 8 = .ok (.aload_n 0, 1) := by decide +kernel
theorem dX11_threat_9 : decode cX11_threat 9 = .ok (.iload_n 2, 1) := by decide +kernel
theorem dX11_threat_10 : decode cX11_threat 10 = .ok (.invokevirtual 169, 3) := by decide +kernel
theorem dX11_threat_13 : decode cX11_threat 13 = .ok (.ifCond .ne 5, 3) := by decide +kernel
theorem dX11_threat_16 : decode cX11_threat 16 = .ok (.iconst (-1), 1) := by decide +kernel
theorem dX11_threat_17 : decode cX11_threat 17 = .ok (.ireturn, 1) := by decide +kernel
theorem dX11_threat_18 : decode cX11_threat 18 = .ok (.aload_n 0, 1) := by decide +kernel
theorem dX11_threat_19 : decode cX11_threat 19 = .ok (.getfield 99, 3) := by decide +kernel
theorem dX11_threat_22 : decode cX11_threat 22 = .ok (.iload_n 1, 1) := by decide +kernel
theorem dX11_threat_23 : decode cX11_threat 23 = .ok (.iaload, 1) := by decide +kernel
theorem dX11_threat_24 : decode cX11_threat 24 = .ok (.ifCond .lt 6, 3) := by decide +kernel
theorem dX11_threat_27 : decode cX11_threat 27 = .ok (.bipush (-6), 2) := by decide +kernel
theorem dX11_threat_29 : decode cX11_threat 29 = .ok (.ireturn, 1) := by decide +kernel
theorem dX11_threat_30 : decode cX11_threat 30 = .ok (.aload_n 0, 1) := by decide +kernel
theorem dX11_threat_31 : decode cX11_threat 31 = .ok (.getfield 300, 3) := by decide +kernel
theorem dX11_threat_34 : decode cX11_threat 34 = .ok (.istore_n 3, 1) := by decide +kernel
theorem dX11_threat_35 : decode cX11_threat 35 = .ok (.aload_n 0, 1) := by decide +kernel
theorem dX11_threat_36 : decode cX11_threat 36 = .ok (.getfield 303, 3) := by decide +kernel
theorem dX11_threat_39 : decode cX11_threat 39 = .ok (.istore 4, 2) := by decide +kernel
theorem dX11_threat_41 : decode cX11_threat 41 = .ok (.iconst 0, 1) := by decide +kernel
theorem dX11_threat_42 : decode cX11_threat 42 = .ok (.istore 5, 2) := by decide +kernel
theorem dX11_threat_44 : decode cX11_threat 44 = .ok (.iload 5, 2) := by decide +kernel
theorem dX11_threat_46 : decode cX11_threat 46 = .ok (.aload_n 0, 1) := by decide +kernel
theorem dX11_threat_47 : decode cX11_threat 47 = .ok (.getfield 144, 3) := by decide +kernel
theorem dX11_threat_50 : decode cX11_threat 50 = .ok (.if_icmp .ge 23, 3) := by decide +kernel
theorem dX11_threat_53 : decode cX11_threat 53 = .ok (.aload_n 0, 1) := by decide +kernel
theorem dX11_threat_54 : decode cX11_threat 54 = .ok (.getfield 111, 3) := by decide +kernel
theorem dX11_threat_57 : decode cX11_threat 57 = .ok (.iload 5, 2) := by decide +kernel
theorem dX11_threat_59 : decode cX11_threat 59 = .ok (.aload_n 0, 1) := by decide +kernel
theorem dX11_threat_60 : decode cX11_threat 60 = .ok (.getfield 93, 3) := by decide +kernel
theorem dX11_threat_63 : decode cX11_threat 63 = .ok (.iload 5, 2) := by decide +kernel
theorem dX11_threat_65 : decode cX11_threat 65 = .ok (.iaload, 1) := by decide +kernel
theorem dX11_threat_66 : decode cX11_threat 66 = .ok (.iastore, 1) := by decide +kernel
theorem dX11_threat_67 : decode cX11_threat 67 = .ok (.iinc 5 1, 3) := by decide +kernel
theorem dX11_threat_70 : decode cX11_threat 70 = .ok (.goto (-26), 3) := by decide +kernel
theorem dX11_threat_73 : decode cX11_threat 73 = .ok (.bipush (-6), 2) := by decide +kernel
theorem dX11_threat_75 : decode cX11_threat 75 = .ok (.istore 5, 2) := by decide +kernel
theorem dX11_threat_77 : decode cX11_threat 77 = .ok (.iconst 0, 1) := by decide +kernel
theorem dX11_threat_78 : decode cX11_threat 78 = .ok (.istore 6, 2) := by decide +kernel
theorem dX11_threat_80 : decode cX11_threat 80 = .ok (.iload 6, 2) := by decide +kernel
theorem dX11_threat_82 : decode cX11_threat 82 = .ok (.sipush 240, 3) := by decide +kernel
theorem dX11_threat_85 : decode cX11_threat 85 = .ok (.if_icmp .ge 36, 3) := by decide +kernel
theorem dX11_threat_88 : decode cX11_threat 88 = .ok (.iload 5, 2) := by decide +kernel
theorem dX11_threat_90 : decode cX11_threat 90 = .ok (.ifCond .ge 31, 3) := by decide +kernel
theorem dX11_threat_93 : decode cX11_threat 93 = .ok (.aload_n 0, 1) := by decide +kernel
theorem dX11_threat_94 : decode cX11_threat 94 = .ok (.iload_n 2, 1) := by decide +kernel
theorem dX11_threat_95 : decode cX11_threat 95 = .ok (.invokevirtual 308, 3) := by decide +kernel
theorem dX11_threat_98 : decode cX11_threat 98 = .ok (.aload_n 0, 1) := by decide +kernel
theorem dX11_threat_99 : decode cX11_threat 99 = .ok (.iload_n 1, 1) := by decide +kernel
theorem dX11_threat_100 : decode cX11_threat 100 = .ok (.invokevirtual 311, 3) := by decide +kernel
theorem dX11_threat_103 : decode cX11_threat 103 = .ok (.ifCond .eq 8, 3) := by decide +kernel
theorem dX11_threat_106 : decode cX11_threat 106 = .ok (.iload 6, 2) := by decide +kernel
theorem dX11_threat_108 : decode cX11_threat 108 = .ok (.goto 5, 3) := by decide +kernel
theorem dX11_threat_111 : decode cX11_threat 111 = .ok (.bipush (-6), 2) := by decide +kernel
theorem dX11_threat_113 : decode cX11_threat 113 = .ok (.istore 5, 2) := by decide +kernel
theorem dX11_threat_115 : decode cX11_threat 115 = .ok (.iinc 6 1, 3) := by decide +kernel
theorem dX11_threat_118 : decode cX11_threat 118 = .ok (.goto (-38), 3) := by decide +kernel
theorem dX11_threat_121 : decode cX11_threat 121 = .ok (.iconst 0, 1) := by decide +kernel
theorem dX11_threat_122 : decode cX11_threat 122 = .ok (.istore 6, 2) := by decide +kernel
theorem dX11_threat_124 : decode cX11_threat 124 = .ok (.iload 6, 2) := by decide +kernel
theorem dX11_threat_126 : decode cX11_threat 126 = .ok (.aload_n 0, 1) := by decide +kernel
theorem dX11_threat_127 : decode cX11_threat 127 = .ok (.getfield 144, 3) := by decide +kernel
theorem dX11_threat_130 : decode cX11_threat 130 = .ok (.if_icmp .ge 23, 3) := by decide +kernel
theorem dX11_threat_133 : decode cX11_threat 133 = .ok (.aload_n 0, 1) := by decide +kernel
theorem dX11_threat_134 : decode cX11_threat 134 = .ok (.getfield 93, 3) := by decide +kernel
theorem dX11_threat_137 : decode cX11_threat 137 = .ok (.iload 6, 2) := by decide +kernel
theorem dX11_threat_139 : decode cX11_threat 139 = .ok (.aload_n 0, 1) := by decide +kernel
theorem dX11_threat_140 : decode cX11_threat 140 = .ok (.getfield 111, 3) := by decide +kernel
theorem dX11_threat_143 : decode cX11_threat 143 = .ok (.iload 6, 2) := by decide +kernel
theorem dX11_threat_145 : decode cX11_threat 145 = .ok (.iaload, 1) := by decide +kernel
theorem dX11_threat_146 : decode cX11_threat 146 = .ok (.iastore, 1) := by decide +kernel
theorem dX11_threat_147 : decode cX11_threat 147 = .ok (.iinc 6 1, 3) := by decide +kernel
theorem dX11_threat_150 : decode cX11_threat 150 = .ok (.goto (-26), 3) := by decide +kernel
theorem dX11_threat_153 : decode cX11_threat 153 = .ok (.aload_n 0, 1) := by decide +kernel
theorem dX11_threat_154 : decode cX11_threat 154 = .ok (.iload_n 3, 1) := by decide +kernel
theorem dX11_threat_155 : decode cX11_threat 155 = .ok (.putfield 300, 3) := by decide +kernel
theorem dX11_threat_158 : decode cX11_threat 158 = .ok (.aload_n 0, 1) := by decide +kernel
theorem dX11_threat_159 : decode cX11_threat 159 = .ok (.iload 4, 2) := by decide +kernel
theorem dX11_threat_161 : decode cX11_threat 161 = .ok (.putfield 303, 3) := by decide +kernel
theorem dX11_threat_164 : decode cX11_threat 164 = .ok (.iload 5, 2) := by decide +kernel
theorem dX11_threat_166 : decode cX11_threat 166 = .ok (.ireturn, 1) := by decide +kernel
theorem dX11_price_0 : decode cX11_price 0 = .ok (.iload_n 1, 1) := by decide +kernel
theorem dX11_price_1 : decode cX11_price 1 = .ok (.i2l, 1) := by decide +kernel
theorem dX11_price_2 : decode cX11_price 2 = .ok (.lconst 0, 1) := by decide +kernel
theorem dX11_price_3 : decode cX11_price 3 = .ok (.ldc2_w 183, 3) := by decide +kernel
theorem dX11_price_6 : decode cX11_price 6 = .ok (.invokestatic 140, 3) := by decide +kernel
theorem dX11_price_9 : decode cX11_price 9 = .ok (.ifCond .eq 15, 3) := by decide +kernel
theorem dX11_price_12 : decode cX11_price 12 = .ok (.iload_n 2, 1) := by decide +kernel
theorem dX11_price_13 : decode cX11_price 13 = .ok (.i2l, 1) := by decide +kernel
theorem dX11_price_14 : decode cX11_price 14 = .ok (.lconst 0, 1) := by decide +kernel
theorem dX11_price_15 : decode cX11_price 15 = .ok (.ldc2_w 317, 3) := by decide +kernel
theorem dX11_price_18 : decode cX11_price 18 = .ok (.invokestatic 140, 3) := by decide +kernel
theorem dX11_price_21 : decode cX11_price 21 = .ok (.ifCond .ne 5, 3) := by decide +kernel
theorem dX11_price_24 : decode cX11_price 24 = .ok (.iconst (-1), 1) := by decide +kernel
theorem dX11_price_25 : decode cX11_price 25 = .ok (.ireturn, 1) := by decide +kernel
theorem dX11_price_26 : decode cX11_price 26 = .ok (.iload_n 3, 1) := by decide +kernel
theorem dX11_price_27 : decode cX11_price 27 = .ok (.i2l, 1) := by decide +kernel
theorem dX11_price_28 : decode cX11_price 28 = .ok (.lconst 0, 1) := by decide +kernel
theorem dX11_price_29 : decode cX11_price 29 = .ok (.ldc2_w 160, 3) := by decide +kernel
theorem dX11_price_32 : decode cX11_price 32 = .ok (.invokestatic 140, 3) := by decide +kernel
theorem dX11_price_35 : decode cX11_price 35 = .ok (.ifCond .ne 6, 3) := by decide +kernel
theorem dX11_price_38 : decode cX11_price 38 = .ok (.bipush (-2), 2) := by decide +kernel
theorem dX11_price_40 : decode cX11_price 40 = .ok (.ireturn, 1) := by decide +kernel
theorem dX11_price_41 : decode cX11_price 41 = .ok (.aload_n 0, 1) := by decide +kernel
theorem dX11_price_42 : decode cX11_price 42 = .ok (.getfield 114, 3) := by decide +kernel
theorem dX11_price_45 : decode cX11_price 45 = .ok (.iconst 5, 1) := by decide +kernel
theorem dX11_price_46 : decode cX11_price 46 = .ok (.iload_n 1, 1) := by decide +kernel
theorem dX11_price_47 : decode cX11_price 47 = .ok (.imul, 1) := by decide +kernel
theorem dX11_price_48 : decode cX11_price 48 = .ok (.iload_n 2, 1) := by decide +kernel
theorem dX11_price_49 : decode cX11_price 49 = .ok (.iadd, 1) := by decide +kernel
theorem dX11_price_50 : decode cX11_price 50 = .ok (.iaload, 1) := by decide +kernel
theorem dX11_price_51 : decode cX11_price 51 = .ok (.istore 4, 2) := by decide +kernel
theorem dX11_price_53 : decode cX11_price 53 = .ok (.aload_n 0, 1) := by decide +kernel
theorem dX11_price_54 : decode cX11_price 54 = .ok (.getfield 114, 3) := by decide +kernel
theorem dX11_price_57 : decode cX11_price 57 = .ok (.iconst 5, 1) := by decide +kernel
theorem dX11_price_58 : decode cX11_price 58 = .ok (.iload_n 1, 1) := by decide +kernel
theorem dX11_price_59 : decode cX11_price 59 = .ok (.imul, 1) := by decide +kernel
theorem dX11_price_60 : decode cX11_price 60 = .ok (.iload_n 2, 1) := by decide +kernel
theorem dX11_price_61 : decode cX11_price 61 = .ok (.iadd, 1) := by decide +kernel
theorem dX11_price_62 : decode cX11_price 62 = .ok (.iload_n 3, 1) := by decide +kernel
theorem dX11_price_63 : decode cX11_price 63 = .ok (.iastore, 1) := by decide +kernel
theorem dX11_price_64 : decode cX11_price 64 = .ok (.iload 4, 2) := by decide +kernel
theorem dX11_price_66 : decode cX11_price 66 = .ok (.ireturn, 1) := by decide +kernel
theorem dX11_layPlan_0 : decode cX11_layPlan 0 = .ok (.iload_n 1, 1) := by decide +kernel
theorem dX11_layPlan_1 : decode cX11_layPlan 1 = .ok (.istore_n 2, 1) := by decide +kernel
theorem dX11_layPlan_2 : decode cX11_layPlan 2 = .ok (.iload_n 1, 1) := by decide +kernel
theorem dX11_layPlan_3 : decode cX11_layPlan 3 = .ok (.ifCond .lt 7, 3) := by decide +kernel
theorem dX11_layPlan_6 : decode cX11_layPlan 6 = .ok (.iconst 1, 1) := by decide +kernel
theorem dX11_layPlan_7 : decode cX11_layPlan 7 = .ok (.goto 4, 3) := by decide +kernel
theorem dX11_layPlan_10 : decode cX11_layPlan 10 = .ok (.iconst 0, 1) := by decide +kernel
theorem dX11_layPlan_11 : decode cX11_layPlan 11 = .ok (.istore_n 3, 1) := by decide +kernel
theorem dX11_layPlan_12 : decode cX11_layPlan 12 = .ok (.aload_n 0, 1) := by decide +kernel
theorem dX11_layPlan_13 : decode cX11_layPlan 13 = .ok (.getfield 144, 3) := by decide +kernel
theorem dX11_layPlan_16 : decode cX11_layPlan 16 = .ok (.iconst 1, 1) := by decide +kernel
theorem dX11_layPlan_17 : decode cX11_layPlan 17 = .ok (.isub, 1) := by decide +kernel
theorem dX11_layPlan_18 : decode cX11_layPlan 18 = .ok (.istore 4, 2) := by decide +kernel
theorem dX11_layPlan_20 : decode cX11_layPlan 20 = .ok (.iload 4, 2) := by decide +kernel
theorem dX11_layPlan_22 : decode cX11_layPlan 22 = .ok (.ifCond .lt 66, 3) := by decide +kernel
theorem dX11_layPlan_25 : decode cX11_layPlan 25 = .ok (.aload_n 0, 1) := by decide +kernel
theorem dX11_layPlan_26 : decode cX11_layPlan 26 = .ok (.getfield 117, 3) := by decide +kernel
theorem dX11_layPlan_29 : decode cX11_layPlan 29 = .ok (.iload 4, 2) := by decide +kernel
theorem dX11_layPlan_31 : decode cX11_layPlan 31 = .ok (.iload_n 2, 1) := by decide +kernel
theorem dX11_layPlan_32 : decode cX11_layPlan 32 = .ok (.bipush 10, 2) := by decide +kernel
theorem dX11_layPlan_34 : decode cX11_layPlan 34 = .ok (.irem, 1) := by decide +kernel
theorem dX11_layPlan_35 : decode cX11_layPlan 35 = .ok (.iastore, 1) := by decide +kernel
theorem dX11_layPlan_36 : decode cX11_layPlan 36 = .ok (.iload_n 3, 1) := by decide +kernel
theorem dX11_layPlan_37 : decode cX11_layPlan 37 = .ok (.ifCond .eq 38, 3) := by decide +kernel
theorem dX11_layPlan_40 : decode cX11_layPlan 40 = .ok (.aload_n 0, 1) := by decide +kernel
theorem dX11_layPlan_41 : decode cX11_layPlan 41 = .ok (.getfield 117, 3) := by decide +kernel
theorem dX11_layPlan_44 : decode cX11_layPlan 44 = .ok (.iload 4, 2) := by decide +kernel
theorem dX11_layPlan_46 : decode cX11_layPlan 46 = .ok (.iaload, 1) := by decide +kernel
theorem dX11_layPlan_47 : decode cX11_layPlan 47 = .ok (.iconst 5, 1) := by decide +kernel
theorem dX11_layPlan_48 : decode cX11_layPlan 48 = .ok (.if_icmp .gt 27, 3) := by decide +kernel
theorem dX11_layPlan_51 : decode cX11_layPlan 51 = .ok (.aload_n 0, 1) := by decide +kernel
theorem dX11_layPlan_52 : decode cX11_layPlan 52 = .ok (.getfield 31, 3) := by decide +kernel
theorem dX11_layPlan_55 : decode cX11_layPlan 55 = .ok (.iload 4, 2) := by decide +kernel
theorem dX11_layPlan_57 : decode cX11_layPlan 57 = .ok (.baload, 1) := by decide +kernel
theorem dX11_layPlan_58 : decode cX11_layPlan 58 = .ok (.ifCond .ne 13, 3) := by decide +kernel
theorem dX11_layPlan_61 : decode cX11_layPlan 61 = .ok (.aload_n 0, 1) := by decide +kernel
theorem dX11_layPlan_62 : decode cX11_layPlan 62 = .ok (.getfield 117, 3) := by decide +kernel
theorem dX11_layPlan_65 : decode cX11_layPlan 65 = .ok (.iload 4, 2) := by decide +kernel
theorem dX11_layPlan_67 : decode cX11_layPlan 67 = .ok (.iaload, 1) := by decide +kernel
theorem dX11_layPlan_68 : decode cX11_layPlan 68 = .ok (.ifCond .ne 7, 3) := by decide +kernel
theorem dX11_layPlan_71 : decode cX11_layPlan 71 = .ok (.iconst 1, 1) := by decide +kernel
theorem dX11_layPlan_72 : decode cX11_layPlan 72 = .ok (.goto 4, 3) := by decide +kernel
theorem dX11_layPlan_75 : decode cX11_layPlan 75 = .ok (.iconst 0, 1) := by decide +kernel
theorem dX11_layPlan_76 : decode cX11_layPlan 76 = .ok (.istore_n 3, 1) := by decide +kernel
theorem dX11_layPlan_77 : decode cX11_layPlan 77 = .ok (.iload_n 2, 1) := by decide +kernel
theorem dX11_layPlan_78 : decode cX11_layPlan 78 = .ok (.bipush 10, 2) := by decide +kernel
theorem dX11_layPlan_80 : decode cX11_layPlan 80 = .ok (.idiv, 1) := by decide +kernel
theorem dX11_layPlan_81 : decode cX11_layPlan 81 = .ok (.istore_n 2, 1) := by decide +kernel
theorem dX11_layPlan_82 : decode cX11_layPlan 82 = .ok (.iinc 4 (-1), 3) := by decide +kernel
theorem dX11_layPlan_85 : decode cX11_layPlan 85 = .ok (.goto (-65), 3) := by decide +kernel
theorem dX11_layPlan_88 : decode cX11_layPlan 88 = .ok (.iload_n 3, 1) := by decide +kernel
theorem dX11_layPlan_89 : decode cX11_layPlan 89 = .ok (.ifCond .eq 11, 3) := by decide +kernel
theorem dX11_layPlan_92 : decode cX11_layPlan 92 = .ok (.iload_n 2, 1) := by decide +kernel
theorem dX11_layPlan_93 : decode cX11_layPlan 93 = .ok (.ifCond .ne 7, 3) := by decide +kernel
theorem dX11_layPlan_96 : decode cX11_layPlan 96 = .ok (.iconst 1, 1) := by decide +kernel
theorem dX11_layPlan_97 : decode cX11_layPlan 97 = .ok (.goto 4, 3) := by decide +kernel
theorem dX11_layPlan_100 : decode cX11_layPlan 100 = .ok (.iconst 0, 1) := by decide +kernel
theorem dX11_layPlan_101 : decode cX11_layPlan 101 = .ok (.ireturn, 1) := by decide +kernel
theorem dX11_isKept_0 : decode cX11_isKept 0 = .ok (.iconst 0, 1) := by decide +kernel
theorem dX11_isKept_1 : decode cX11_isKept 1 = .ok (.istore_n 1, 1) := by decide +kernel
theorem dX11_isKept_2 : decode cX11_isKept 2 = .ok (.iload_n 1, 1) := by decide +kernel
theorem dX11_isKept_3 : decode cX11_isKept 3 = .ok (.aload_n 0, 1) := by decide +kernel
theorem dX11_isKept_4 : decode cX11_isKept 4 = .ok (.getfield 59, 3) := by decide +kernel
theorem dX11_isKept_7 : decode cX11_isKept 7 = .ok (.iconst 5, 1) := by decide +kernel
theorem dX11_isKept_8 : decode cX11_isKept 8 = .ok (.iaload, 1) := by decide +kernel
theorem dX11_isKept_9 : decode cX11_isKept 9 = .ok (.if_icmp .ge 117, 3) := by decide +kernel
theorem dX11_isKept_12 : decode cX11_isKept 12 = .ok (.iconst 0, 1) := by decide +kernel
theorem dX11_isKept_13 : decode cX11_isKept 13 = .ok (.istore_n 2, 1) := by decide +kernel
theorem dX11_isKept_14 : decode cX11_isKept 14 = .ok (.iconst 0, 1) := by decide +kernel
theorem dX11_isKept_15 : decode cX11_isKept 15 = .ok (.istore_n 3, 1) := by decide +kernel
theorem dX11_isKept_16 : decode cX11_isKept 16 = .ok (.iconst 0, 1) := by decide +kernel
theorem dX11_isKept_17 : decode cX11_isKept 17 = .ok (.istore 4, 2) := by decide +kernel
theorem dX11_isKept_19 : decode cX11_isKept 19 = .ok (.iload 4, 2) := by decide +kernel
theorem dX11_isKept_21 : decode cX11_isKept 21 = .ok (.aload_n 0, 1) := by decide +kernel
theorem dX11_isKept_22 : decode cX11_isKept 22 = .ok (.getfield 144, 3) := by decide +kernel
theorem dX11_isKept_25 : decode cX11_isKept 25 = .ok (.if_icmp .ge 73, 3) := by decide +kernel
theorem dX11_isKept_28 : decode cX11_isKept 28 = .ok (.iload_n 2, 1) := by decide +kernel
theorem dX11_isKept_29 : decode cX11_isKept 29 = .ok (.aload_n 0, 1) := by decide +kernel
theorem dX11_isKept_30 : decode cX11_isKept 30 = .ok (.getfield 31, 3) := by decide +kernel
theorem dX11_isKept_33 : decode cX11_isKept 33 = .ok (.iload 4, 2) := by decide +kernel
theorem dX11_isKept_35 : decode cX11_isKept 35 = .ok (.baload, 1) := by decide +kernel
theorem dX11_isKept_36 : decode cX11_isKept 36 = .ok (.ifCond .eq 24, 3) := by decide +kernel
theorem dX11_isKept_39 : decode cX11_isKept 39 = .ok (.aload_n 0, 1) := by decide +kernel
theorem dX11_isKept_40 : decode cX11_isKept 40 = .ok (.getfield 117, 3) := by decide +kernel
theorem dX11_isKept_43 : decode cX11_isKept 43 = .ok (.iload 4, 2) := by decide +kernel
theorem dX11_isKept_45 : decode cX11_isKept 45 = .ok (.iaload, 1) := by decide +kernel
theorem dX11_isKept_46 : decode cX11_isKept 46 = .ok (.iload_n 1, 1) := by decide +kernel
theorem dX11_isKept_47 : decode cX11_isKept 47 = .ok (.if_icmp .le 13, 3) := by decide +kernel
theorem dX11_isKept_50 : decode cX11_isKept 50 = .ok (.aload_n 0, 1) := by decide +kernel
theorem dX11_isKept_51 : decode cX11_isKept 51 = .ok (.getfield 22, 3) := by decide +kernel
theorem dX11_isKept_54 : decode cX11_isKept 54 = .ok (.iload 4, 2) := by decide +kernel
theorem dX11_isKept_56 : decode cX11_isKept 56 = .ok (.iaload, 1) := by decide +kernel
theorem dX11_isKept_57 : decode cX11_isKept 57 = .ok (.goto 4, 3) := by decide +kernel
theorem dX11_isKept_60 : decode cX11_isKept 60 = .ok (.iconst 0, 1) := by decide +kernel
theorem dX11_isKept_61 : decode cX11_isKept 61 = .ok (.iadd, 1) := by decide +kernel
theorem dX11_isKept_62 : decode cX11_isKept 62 = .ok (.istore_n 2, 1) := by decide +kernel
theorem dX11_isKept_63 : decode cX11_isKept 63 = .ok (.iload_n 3, 1) := by decide +kernel
theorem dX11_isKept_64 : decode cX11_isKept 64 = .ok (.aload_n 0, 1) := by decide +kernel
theorem dX11_isKept_65 : decode cX11_isKept 65 = .ok (.getfield 31, 3) := by decide +kernel
theorem dX11_isKept_68 : decode cX11_isKept 68 = .ok (.iload 4, 2) := by decide +kernel
theorem dX11_isKept_70 : decode cX11_isKept 70 = .ok (.baload, 1) := by decide +kernel
theorem dX11_isKept_71 : decode cX11_isKept 71 = .ok (.ifCond .eq 18, 3) := by decide +kernel
theorem dX11_isKept_74 : decode cX11_isKept 74 = .ok (.aload_n 0, 1) := by decide +kernel
theorem dX11_isKept_75 : decode cX11_isKept 75 = .ok (.getfield 117, 3) := by decide +kernel
theorem dX11_isKept_78 : decode cX11_isKept 78 = .ok (.iload 4, 2) := by decide +kernel
theorem dX11_isKept_80 : decode cX11_isKept 80 = .ok (.iaload, 1) := by decide +kernel
theorem dX11_isKept_81 : decode cX11_isKept 81 = .ok (.iload_n 1, 1) := by decide +kernel
theorem dX11_isKept_82 : decode cX11_isKept 82 = .ok (.if_icmp .ne 7, 3) := by decide +kernel
theorem dX11_isKept_85 : decode cX11_isKept 85 = .ok (.iconst 1, 1) := by decide +kernel
theorem dX11_isKept_86 : decode cX11_isKept 86 = .ok (.goto 4, 3) := by decide +kernel
theorem dX11_isKept_89 : decode cX11_isKept 89 = .ok (.iconst 0, 1) := by decide +kernel
theorem dX11_isKept_90 : decode cX11_isKept 90 = .ok (.iadd, 1) := by decide +kernel
theorem dX11_isKept_91 : decode cX11_isKept 91 = .ok (.istore_n 3, 1) := by decide +kernel
theorem dX11_isKept_92 : decode cX11_isKept 92 = .ok (.iinc 4 1, 3) := by decide +kernel
theorem dX11_isKept_95 : decode cX11_isKept 95 = .ok (.goto (-76), 3) := by decide +kernel
theorem dX11_isKept_98 : decode cX11_isKept 98 = .ok (.iload_n 2, 1) := by decide +kernel
theorem dX11_isKept_99 : decode cX11_isKept 99 = .ok (.aload_n 0, 1) := by decide +kernel
theorem dX11_isKept_100 : decode cX11_isKept 100 = .ok (.getfield 59, 3) := by decide +kernel
theorem dX11_isKept_103 : decode cX11_isKept 103 = .ok (.iconst 3, 1) := by decide +kernel
theorem dX11_isKept_104 : decode cX11_isKept 104 = .ok (.iaload, 1) := by decide +kernel
theorem dX11_isKept_105 : decode cX11_isKept 105 = .ok (.if_icmp .lt 13, 3) := by decide +kernel
theorem dX11_isKept_108 : decode cX11_isKept 108 = .ok (.iload_n 3, 1) := by decide +kernel
theorem dX11_isKept_109 : decode cX11_isKept 109 = .ok (.aload_n 0, 1) := by decide +kernel
theorem dX11_isKept_110 : decode cX11_isKept 110 = .ok (.getfield 59, 3) := by decide +kernel
theorem dX11_isKept_113 : decode cX11_isKept 113 = .ok (.iconst 4, 1) := by decide +kernel
theorem dX11_isKept_114 : decode cX11_isKept 114 = .ok (.iaload, 1) := by decide +kernel
theorem dX11_isKept_115 : decode cX11_isKept 115 = .ok (.if_icmp .le 5, 3) := by decide +kernel
theorem dX11_isKept_118 : decode cX11_isKept 118 = .ok (.iconst 0, 1) := by decide +kernel
theorem dX11_isKept_119 : decode cX11_isKept 119 = .ok (.ireturn, 1) := by decide +kernel
theorem dX11_isKept_120 : decode cX11_isKept 120 = .ok (.iinc 1 1, 3) := by decide +kernel
theorem dX11_isKept_123 : decode cX11_isKept 123 = .ok (.goto (-121), 3) := by decide +kernel
theorem dX11_isKept_126 : decode cX11_isKept 126 = .ok (.iconst 1, 1) := by decide +kernel
theorem dX11_isKept_127 : decode cX11_isKept 127 = .ok (.ireturn, 1) := by decide +kernel
theorem dX11_costBy_0 : decode cX11_costBy 0 = .ok (.iconst 0, 1) := by decide +kernel
theorem dX11_costBy_1 : decode cX11_costBy 1 = .ok (.istore_n 2, 1) := by decide +kernel
theorem dX11_costBy_2 : decode cX11_costBy 2 = .ok (.iconst 0, 1) := by decide +kernel
theorem dX11_costBy_3 : decode cX11_costBy 3 = .ok (.istore_n 3, 1) := by decide +kernel
theorem dX11_costBy_4 : decode cX11_costBy 4 = .ok (.iload_n 3, 1) := by decide +kernel
theorem dX11_costBy_5 : decode cX11_costBy 5 = .ok (.aload_n 0, 1) := by decide +kernel
theorem dX11_costBy_6 : decode cX11_costBy 6 = .ok (.getfield 59, 3) := by decide +kernel
theorem dX11_costBy_9 : decode cX11_costBy 9 = .ok (.iconst 5, 1) := by decide +kernel
theorem dX11_costBy_10 : decode cX11_costBy 10 = .ok (.iaload, 1) := by decide +kernel
theorem dX11_costBy_11 : decode cX11_costBy 11 = .ok (.if_icmp .ge 111, 3) := by decide +kernel
theorem dX11_costBy_14 : decode cX11_costBy 14 = .ok (.iconst 0, 1) := by decide +kernel
theorem dX11_costBy_15 : decode cX11_costBy 15 = .ok (.istore 4, 2) := by decide +kernel
theorem dX11_costBy_17 : decode cX11_costBy 17 = .ok (.iload 4, 2) := by decide +kernel
theorem dX11_costBy_19 : decode cX11_costBy 19 = .ok (.aload_n 0, 1) := by decide +kernel
theorem dX11_costBy_20 : decode cX11_costBy 20 = .ok (.getfield 144, 3) := by decide +kernel
theorem dX11_costBy_23 : decode cX11_costBy 23 = .ok (.if_icmp .ge 93, 3) := by decide +kernel
theorem dX11_costBy_26 : decode cX11_costBy 26 = .ok (.aload_n 0, 1) := by decide +kernel
theorem dX11_costBy_27 : decode cX11_costBy 27 = .ok (.getfield 22, 3) := by decide +kernel
theorem dX11_costBy_30 : decode cX11_costBy 30 = .ok (.iload 4, 2) := by decide +kernel
theorem dX11_costBy_32 : decode cX11_costBy 32 = .ok (.iaload, 1) := by decide +kernel
theorem dX11_costBy_33 : decode cX11_costBy 33 = .ok (.aload_n 0, 1) := by decide +kernel
theorem dX11_costBy_34 : decode cX11_costBy 34 = .ok (.getfield 25, 3) := by decide +kernel
theorem dX11_costBy_37 : decode cX11_costBy 37 = .ok (.iload 4, 2) := by decide +kernel
theorem dX11_costBy_39 : decode cX11_costBy 39 = .ok (.iaload, 1) := by decide +kernel
theorem dX11_costBy_40 : decode cX11_costBy 40 = .ok (.aload_n 0, 1) := by decide +kernel
theorem dX11_costBy_41 : decode cX11_costBy 41 = .ok (.getfield 114, 3) := by decide +kernel
theorem dX11_costBy_44 : decode cX11_costBy 44 = .ok (.iconst 5, 1) := by decide +kernel
theorem dX11_costBy_45 : decode cX11_costBy 45 = .ok (.iload_n 1, 1) := by decide +kernel
theorem dX11_costBy_46 : decode cX11_costBy 46 = .ok (.imul, 1) := by decide +kernel
theorem dX11_costBy_47 : decode cX11_costBy 47 = .ok (.iload_n 3, 1) := by decide +kernel
theorem dX11_costBy_48 : decode cX11_costBy 48 = .ok (.iadd, 1) := by decide +kernel
theorem dX11_costBy_49 : decode cX11_costBy 49 = .ok (.iaload, 1) := by decide +kernel
theorem dX11_costBy_50 : decode cX11_costBy 50 = .ok (.isub, 1) := by decide +kernel
theorem dX11_costBy_51 : decode cX11_costBy 51 = .ok (.imul, 1) := by decide +kernel
theorem dX11_costBy_52 : decode cX11_costBy 52 = .ok (.istore 5, 2) := by decide +kernel
theorem dX11_costBy_54 : decode cX11_costBy 54 = .ok (.aload_n 0, 1) := by decide +kernel
theorem dX11_costBy_55 : decode cX11_costBy 55 = .ok (.getfield 31, 3) := by decide +kernel
theorem dX11_costBy_58 : decode cX11_costBy 58 = .ok (.iload 4, 2) := by decide +kernel
theorem dX11_costBy_60 : decode cX11_costBy 60 = .ok (.baload, 1) := by decide +kernel
theorem dX11_costBy_61 : decode cX11_costBy 61 = .ok (.ifCond .eq 18, 3) := by decide +kernel
theorem dX11_costBy_64 : decode cX11_costBy 64 = .ok (.aload_n 0, 1) := by decide +kernel
theorem dX11_costBy_65 : decode cX11_costBy 65 = .ok (.getfield 117, 3) := by decide +kernel
theorem dX11_costBy_68 : decode cX11_costBy 68 = .ok (.iload 4, 2) := by decide +kernel
theorem dX11_costBy_70 : decode cX11_costBy 70 = .ok (.iaload, 1) := by decide +kernel
theorem dX11_costBy_71 : decode cX11_costBy 71 = .ok (.iload_n 3, 1) := by decide +kernel
theorem dX11_costBy_72 : decode cX11_costBy 72 = .ok (.if_icmp .le 7, 3) := by decide +kernel
theorem dX11_costBy_75 : decode cX11_costBy 75 = .ok (.iconst 1, 1) := by decide +kernel
theorem dX11_costBy_76 : decode cX11_costBy 76 = .ok (.goto 4, 3) := by decide +kernel
theorem dX11_costBy_79 : decode cX11_costBy 79 = .ok (.iconst 0, 1) := by decide +kernel
theorem dX11_costBy_80 : decode cX11_costBy 80 = .ok (.istore 6, 2) := by decide +kernel
theorem dX11_costBy_82 : decode cX11_costBy 82 = .ok (.iload_n 2, 1) := by decide +kernel
theorem dX11_costBy_83 : decode cX11_costBy 83 = .ok (.iload 6, 2) := by decide +kernel
theorem dX11_costBy_85 : decode cX11_costBy 85 = .ok (.ifCond .ne 12, 3) := by decide +kernel
theorem dX11_costBy_88 : decode cX11_costBy 88 = .ok (.aload_n 0, 1) := by decide +kernel
theorem dX11_costBy_89 : decode cX11_costBy 89 = .ok (.getfield 59, 3) := by decide +kernel
theorem dX11_costBy_92 : decode cX11_costBy 92 = .ok (.iconst 2, 1) := by decide +kernel
theorem dX11_costBy_93 : decode cX11_costBy 93 = .ok (.iaload, 1) := by decide +kernel
theorem dX11_costBy_94 : decode cX11_costBy 94 = .ok (.goto 14, 3) := by decide +kernel
theorem dX11_costBy_97 : decode cX11_costBy 97 = .ok (.iload 5, 2) := by decide +kernel
theorem dX11_costBy_99 : decode cX11_costBy 99 = .ok (.ifCond .le 8, 3) := by decide +kernel
theorem dX11_costBy_102 : decode cX11_costBy 102 = .ok (.iload 5, 2) := by decide +kernel
theorem dX11_costBy_104 : decode cX11_costBy 104 = .ok (.goto 4, 3) := by decide +kernel
theorem dX11_costBy_107 : decode cX11_costBy 107 = .ok (.iconst 0, 1) := by decide +kernel
theorem dX11_costBy_108 : decode cX11_costBy 108 = .ok (.iadd, 1) := by decide +kernel
theorem dX11_costBy_109 : decode cX11_costBy 109 = .ok (.istore_n 2, 1) := by decide +kernel
theorem dX11_costBy_110 : decode cX11_costBy 110 = .ok (.iinc 4 1, 3) := by decide +kernel
theorem dX11_costBy_113 : decode cX11_costBy 113 = .ok (.goto (-96), 3) := by decide +kernel
theorem dX11_costBy_116 : decode cX11_costBy 116 = .ok (.iinc 3 1, 3) := by decide +kernel
theorem dX11_costBy_119 : decode cX11_costBy 119 = .ok (.goto (-115), 3) := by decide +kernel
theorem dX11_costBy_122 : decode cX11_costBy 122 = .ok (.iload_n 2, 1) := by decide +kernel
theorem dX11_costBy_123 : decode cX11_costBy 123 = .ok (.ireturn, 1) := by decide +kernel
theorem dX11_worst_0 : decode cX11_worst 0 = .ok (.aload_n 0, 1) := by decide +kernel
theorem dX11_worst_1 : decode cX11_worst 1 = .ok (.iconst 0, 1) := by decide +kernel
theorem dX11_worst_2 : decode cX11_worst 2 = .ok (.putfield 319, 3) := by decide +kernel
theorem dX11_worst_5 : decode cX11_worst 5 = .ok (.aload_n 0, 1) := by decide +kernel
theorem dX11_worst_6 : decode cX11_worst 6 = .ok (.iconst 0, 1) := by decide +kernel
theorem dX11_worst_7 : decode cX11_worst 7 = .ok (.invokevirtual 322, 3) := by decide +kernel
theorem dX11_worst_10 : decode cX11_worst 10 = .ok (.istore_n 1, 1) := by decide +kernel
theorem dX11_worst_11 : decode cX11_worst 11 = .ok (.iconst 1, 1) := by decide +kernel
theorem dX11_worst_12 : decode cX11_worst 12 = .ok (.istore_n 2, 1) := by decide +kernel
theorem dX11_worst_13 : decode cX11_worst 13 = .ok (.iload_n 2, 1) := by decide +kernel
theorem dX11_worst_14 : decode cX11_worst 14 = .ok (.iconst 3, 1) := by decide +kernel
theorem dX11_worst_15 : decode cX11_worst 15 = .ok (.if_icmp .ge 27, 3) := by decide +kernel
theorem dX11_worst_18 : decode cX11_worst 18 = .ok (.aload_n 0, 1) := by decide +kernel
theorem dX11_worst_19 : decode cX11_worst 19 = .ok (.iload_n 2, 1) := by decide +kernel
theorem dX11_worst_20 : decode cX11_worst 20 = .ok (.invokevirtual 322, 3) := by decide +kernel
theorem dX11_worst_23 : decode cX11_worst 23 = .ok (.istore_n 3, 1) := by decide +kernel
theorem dX11_worst_24 : decode cX11_worst 24 = .ok (.iload_n 3, 1) := by decide +kernel
theorem dX11_worst_25 : decode cX11_worst 25 = .ok (.iload_n 1, 1) := by decide +kernel
theorem dX11_worst_26 : decode cX11_worst 26 = .ok (.if_icmp .le 10, 3) := by decide +kernel
theorem dX11_worst_29 : decode cX11_worst 29 = .ok (.iload_n 3, 1) := by decide +kernel
theorem dX11_worst_30 : decode cX11_worst 30 = .ok (.istore_n 1, 1) := by decide +kernel
theorem dX11_worst_31 : decode cX11_worst 31 = .ok (.aload_n 0, 1) := by decide +kernel
theorem dX11_worst_32 : decode cX11_worst 32 = .ok (.iload_n 2, 1) := by decide +kernel
theorem dX11_worst_33 : decode cX11_worst 33 = .ok (.putfield 319, 3) := by decide +kernel
theorem dX11_worst_36 : decode cX11_worst 36 = .ok (.iinc 2 1, 3) := by decide +kernel
theorem dX11_worst_39 : decode cX11_worst 39 = .ok (.goto (-26), 3) := by decide +kernel
theorem dX11_worst_42 : decode cX11_worst 42 = .ok (.iload_n 1, 1) := by decide +kernel
theorem dX11_worst_43 : decode cX11_worst 43 = .ok (.ireturn, 1) := by decide +kernel
theorem dX11_plan_0 : decode cX11_plan 0 = .ok (.aload_n 0, 1) := by decide +kernel
theorem dX11_plan_1 : decode cX11_plan 1 = .ok (.iload_n 1, 1) := by decide +kernel
theorem dX11_plan_2 : decode cX11_plan 2 = .ok (.invokevirtual 325, 3) := by decide +kernel
theorem dX11_plan_5 : decode cX11_plan 5 = .ok (.ifCond .eq 15, 3) := by decide +kernel
theorem dX11_plan_8 : decode cX11_plan 8 = .ok (.iload_n 2, 1) := by decide +kernel
theorem dX11_plan_9 : decode cX11_plan 9 = .ok (.i2l, 1) := by decide +kernel
theorem dX11_plan_10 : decode cX11_plan 10 = .ok (.lconst 0, 1) := by decide +kernel
theorem dX11_plan_11 : decode cX11_plan 11 = .ok (.ldc2_w 183, 3) := by decide +kernel
theorem dX11_plan_14 : decode cX11_plan 14 = .ok (.invokestatic 140, 3) := by decide +kernel
theorem dX11_plan_17 : decode cX11_plan 17 = .ok (.ifCond .ne 6, 3) := by decide +kernel
theorem dX11_plan_20 : decode cX11_plan 20 = .ok (.bipush (-2), 2) := by decide +kernel
theorem dX11_plan_22 : decode cX11_plan 22 = .ok (.ireturn, 1) := by decide +kernel
theorem dX11_plan_23 : decode cX11_plan 23 = .ok (.aload_n 0, 1) := by decide +kernel
theorem dX11_plan_24 : decode cX11_plan 24 = .ok (.invokevirtual 328, 3) := by decide +kernel
theorem dX11_plan_27 : decode cX11_plan 27 = .ok (.istore_n 3, 1) := by decide +kernel
theorem dX11_plan_28 : decode cX11_plan 28 = .ok (.iload_n 2, 1) := by decide +kernel
theorem dX11_plan_29 : decode cX11_plan 29 = .ok (.ifCond .ne 18, 3) := by decide +kernel
theorem dX11_plan_32 : decode cX11_plan 32 = .ok (.aload_n 0, 1) := by decide +kernel
theorem dX11_plan_33 : decode cX11_plan 33 = .ok (.invokevirtual 331, 3) := by decide +kernel
theorem dX11_plan_36 : decode cX11_plan 36 = .ok (.ifCond .eq 7, 3) := by decide +kernel
theorem dX11_plan_39 : decode cX11_plan 39 = .ok (.iconst 1, 1) := by decide +kernel
theorem dX11_plan_40 : decode cX11_plan 40 = .ok (.goto 20, 3) := by decide +kernel
theorem dX11_plan_43 : decode cX11_plan 43 = .ok (.iconst 0, 1) := by decide +kernel
theorem dX11_plan_44 : decode cX11_plan 44 = .ok (.goto 16, 3) := by decide +kernel
theorem dX11_plan_47 : decode cX11_plan 47 = .ok (.iload_n 2, 1) := by decide +kernel
theorem dX11_plan_48 : decode cX11_plan 48 = .ok (.iconst 1, 1) := by decide +kernel
theorem dX11_plan_49 : decode cX11_plan 49 = .ok (.if_icmp .ne 7, 3) := by decide +kernel
theorem dX11_plan_52 : decode cX11_plan 52 = .ok (.iload_n 3, 1) := by decide +kernel
theorem dX11_plan_53 : decode cX11_plan 53 = .ok (.goto 7, 3) := by decide +kernel
theorem dX11_plan_56 : decode cX11_plan 56 = .ok (.aload_n 0, 1) := by decide +kernel
theorem dX11_plan_57 : decode cX11_plan 57 = .ok (.getfield 319, 3) := by decide +kernel
theorem dX11_plan_60 : decode cX11_plan 60 = .ok (.ireturn, 1) := by decide +kernel
theorem dX11_best_0 : decode cX11_best 0 = .ok (.iload_n 1, 1) := by decide +kernel
theorem dX11_best_1 : decode cX11_best 1 = .ok (.i2l, 1) := by decide +kernel
theorem dX11_best_2 : decode cX11_best 2 = .ok (.lconst 0, 1) := by decide +kernel
theorem dX11_best_3 : decode cX11_best 3 = .ok (.lconst 1, 1) := by decide +kernel
theorem dX11_best_4 : decode cX11_best 4 = .ok (.invokestatic 140, 3) := by decide +kernel
theorem dX11_best_7 : decode cX11_best 7 = .ok (.ifCond .ne 6, 3) := by decide +kernel
theorem dX11_best_10 : decode cX11_best 10 = .ok (.bipush (-2), 2) := by decide +kernel
theorem dX11_best_12 : decode cX11_best 12 = .ok (.ireturn, 1) := by decide +kernel
theorem dX11_best_13 : decode cX11_best 13 = .ok (.bipush (-5), 2) := by decide +kernel
theorem dX11_best_15 : decode cX11_best 15 = .ok (.istore_n 2, 1) := by decide +kernel
theorem dX11_best_16 : decode cX11_best 16 = .ok (.ldc_w 267, 3) := by decide +kernel
theorem dX11_best_19 : decode cX11_best 19 = .ok (.istore_n 3, 1) := by decide +kernel
theorem dX11_best_20 : decode cX11_best 20 = .ok (.iconst 0, 1) := by decide +kernel
theorem dX11_best_21 : decode cX11_best 21 = .ok (.istore 4, 2) := by decide +kernel
theorem dX11_best_23 : decode cX11_best 23 = .ok (.iload 4, 2) := by decide +kernel
theorem dX11_best_25 : decode cX11_best 25 = .ok (.aload_n 0, 1) := by decide +kernel
theorem dX11_best_26 : decode cX11_best 26 = .ok (.getfield 144, 3) := by decide +kernel
theorem dX11_best_29 : decode cX11_best 29 = .ok (.if_icmp .ge 17, 3) := by decide +kernel
theorem dX11_best_32 : decode cX11_best 32 = .ok (.aload_n 0, 1) := by decide +kernel
theorem dX11_best_33 : decode cX11_best 33 = .ok (.getfield 117, 3) := by decide +kernel
theorem dX11_best_36 : decode cX11_best 36 = .ok (.iload 4, 2) := by decide +kernel
theorem dX11_best_38 : decode cX11_best 38 = .ok (.iconst 0, 1) := by decide +kernel
theorem dX11_best_39 : decode cX11_best 39 = .ok (.iastore, 1) := by decide +kernel
theorem dX11_best_40 : decode cX11_best 40 = .ok (.iinc 4 1, 3) := by decide +kernel
theorem dX11_best_43 : decode cX11_best 43 = .ok (.goto (-20), 3) := by decide +kernel
theorem dX11_best_46 : decode cX11_best 46 = .ok (.iconst 1, 1) := by decide +kernel
theorem dX11_best_47 : decode cX11_best 47 = .ok (.istore 4, 2) := by decide +kernel
theorem dX11_best_49 : decode cX11_best 49 = .ok (.iload 4, 2) := by decide +kernel
theorem dX11_best_51 : decode cX11_best 51 = .ok (.ifCond .eq 39, 3) := by decide +kernel
theorem dX11_best_54 : decode cX11_best 54 = .ok (.aload_n 0, 1) := by decide +kernel
theorem dX11_best_55 : decode cX11_best 55 = .ok (.invokevirtual 331, 3) := by decide +kernel
theorem dX11_best_58 : decode cX11_best 58 = .ok (.ifCond .eq 23, 3) := by decide +kernel
theorem dX11_best_61 : decode cX11_best 61 = .ok (.aload_n 0, 1) := by decide +kernel
theorem dX11_best_62 : decode cX11_best 62 = .ok (.invokevirtual 328, 3) := by decide +kernel
theorem dX11_best_65 : decode cX11_best 65 = .ok (.istore 5, 2) := by decide +kernel
theorem dX11_best_67 : decode cX11_best 67 = .ok (.iload 5, 2) := by decide +kernel
theorem dX11_best_69 : decode cX11_best 69 = .ok (.iload_n 3, 1) := by decide +kernel
theorem dX11_best_70 : decode cX11_best 70 = .ok (.if_icmp .ge 11, 3) := by decide +kernel
theorem dX11_best_73 : decode cX11_best 73 = .ok (.iload 5, 2) := by decide +kernel
theorem dX11_best_75 : decode cX11_best 75 = .ok (.istore_n 3, 1) := by decide +kernel
theorem dX11_best_76 : decode cX11_best 76 = .ok (.aload_n 0, 1) := by decide +kernel
theorem dX11_best_77 : decode cX11_best 77 = .ok (.invokevirtual 335, 3) := by decide +kernel
theorem dX11_best_80 : decode cX11_best 80 = .ok (.istore_n 2, 1) := by decide +kernel
theorem dX11_best_81 : decode cX11_best 81 = .ok (.aload_n 0, 1) := by decide +kernel
theorem dX11_best_82 : decode cX11_best 82 = .ok (.invokevirtual 338, 3) := by decide +kernel
theorem dX11_best_85 : decode cX11_best 85 = .ok (.istore 4, 2) := by decide +kernel
theorem dX11_best_87 : decode cX11_best 87 = .ok (.goto (-38), 3) := by decide +kernel
theorem dX11_best_90 : decode cX11_best 90 = .ok (.iload_n 2, 1) := by decide +kernel
theorem dX11_best_91 : decode cX11_best 91 = .ok (.ifCond .ge 8, 3) := by decide +kernel
theorem dX11_best_94 : decode cX11_best 94 = .ok (.bipush (-5), 2) := by decide +kernel
theorem dX11_best_96 : decode cX11_best 96 = .ok (.goto 12, 3) := by decide +kernel
theorem dX11_best_99 : decode cX11_best 99 = .ok (.iload_n 1, 1) := by decide +kernel
theorem dX11_best_100 : decode cX11_best 100 = .ok (.ifCond .ne 7, 3) := by decide +kernel
theorem dX11_best_103 : decode cX11_best 103 = .ok (.iload_n 2, 1) := by decide +kernel
theorem dX11_best_104 : decode cX11_best 104 = .ok (.goto 4, 3) := by decide +kernel
theorem dX11_best_107 : decode cX11_best 107 = .ok (.iload_n 3, 1) := by decide +kernel
theorem dX11_best_108 : decode cX11_best 108 = .ok (.ireturn, 1) := by decide +kernel
theorem dX11_digitsOf_0 : decode cX11_digitsOf 0 = .ok (.iconst 0, 1) := by decide +kernel
theorem dX11_digitsOf_1 : decode cX11_digitsOf 1 = .ok (.istore_n 1, 1) := by decide +kernel
theorem dX11_digitsOf_2 : decode cX11_digitsOf 2 = .ok (.iconst 0, 1) := by decide +kernel
theorem dX11_digitsOf_3 : decode cX11_digitsOf 3 = .ok (.istore_n 2, 1) := by decide +kernel
theorem dX11_digitsOf_4 : decode cX11_digitsOf 4 = .ok (.iload_n 2, 1) := by decide +kernel
theorem dX11_digitsOf_5 : decode cX11_digitsOf 5 = .ok (.aload_n 0, 1) := by decide +kernel
theorem dX11_digitsOf_6 : decode cX11_digitsOf 6 = .ok (.getfield 144, 3) := by decide +kernel
theorem dX11_digitsOf_9 : decode cX11_digitsOf 9 = .ok (.if_icmp .ge 21, 3) := by decide +kernel
theorem dX11_digitsOf_12 : decode cX11_digitsOf 12 = .ok (.bipush 10, 2) := by decide +kernel
theorem dX11_digitsOf_14 : decode cX11_digitsOf 14 = .ok (.iload_n 1, 1) := by decide +kernel
theorem dX11_digitsOf_15 : decode cX11_digitsOf 15 = .ok (.imul, 1) := by decide +kernel
theorem dX11_digitsOf_16 : decode cX11_digitsOf 16 = .ok (.aload_n 0, 1) := by decide +kernel
theorem dX11_digitsOf_17 : decode cX11_digitsOf 17 = .ok (.getfield 117, 3) := by decide +kernel
theorem dX11_digitsOf_20 : decode cX11_digitsOf 20 = .ok (.iload_n 2, 1) := by decide +kernel
theorem dX11_digitsOf_21 : decode cX11_digitsOf 21 = .ok (.iaload, 1) := by decide +kernel
theorem dX11_digitsOf_22 : decode cX11_digitsOf 22 = .ok (.iadd, 1) := by decide +kernel
theorem dX11_digitsOf_23 : decode cX11_digitsOf 23 = .ok (.istore_n 1, 1) := by decide +kernel
theorem dX11_digitsOf_24 : decode cX11_digitsOf 24 = .ok (.iinc 2 1, 3) := by decide +kernel
theorem dX11_digitsOf_27 : decode cX11_digitsOf 27 = .ok (.goto (-23), 3) := by decide +kernel
theorem dX11_digitsOf_30 : decode cX11_digitsOf 30 = .ok (.iload_n 1, 1) := by decide +kernel
theorem dX11_digitsOf_31 : decode cX11_digitsOf 31 = .ok (.ireturn, 1) := by decide +kernel
theorem dX11_nextPlan_0 : decode cX11_nextPlan 0 = .ok (.aload_n 0, 1) := by decide +kernel
theorem dX11_nextPlan_1 : decode cX11_nextPlan 1 = .ok (.getfield 144, 3) := by decide +kernel
theorem dX11_nextPlan_4 : decode cX11_nextPlan 4 = .ok (.iconst 1, 1) := by decide +kernel
theorem dX11_nextPlan_5 : decode cX11_nextPlan 5 = .ok (.isub, 1) := by decide +kernel
theorem dX11_nextPlan_6 : decode cX11_nextPlan 6 = .ok (.istore_n 1, 1) := by decide +kernel
theorem dX11_nextPlan_7 : decode cX11_nextPlan 7 = .ok (.iload_n 1, 1) := by decide +kernel
theorem dX11_nextPlan_8 : decode cX11_nextPlan 8 = .ok (.ifCond .lt 52, 3) := by decide +kernel
theorem dX11_nextPlan_11 : decode cX11_nextPlan 11 = .ok (.aload_n 0, 1) := by decide +kernel
theorem dX11_nextPlan_12 : decode cX11_nextPlan 12 = .ok (.getfield 31, 3) := by decide +kernel
theorem dX11_nextPlan_15 : decode cX11_nextPlan 15 = .ok (.iload_n 1, 1) := by decide +kernel
theorem dX11_nextPlan_16 : decode cX11_nextPlan 16 = .ok (.baload, 1) := by decide +kernel
theorem dX11_nextPlan_17 : decode cX11_nextPlan 17 = .ok (.ifCond .eq 30, 3) := by decide +kernel
theorem dX11_nextPlan_20 : decode cX11_nextPlan 20 = .ok (.aload_n 0, 1) := by decide +kernel
theorem dX11_nextPlan_21 : decode cX11_nextPlan 21 = .ok (.getfield 117, 3) := by decide +kernel
theorem dX11_nextPlan_24 : decode cX11_nextPlan 24 = .ok (.iload_n 1, 1) := by decide +kernel
theorem dX11_nextPlan_25 : decode cX11_nextPlan 25 = .ok (.iaload, 1) := by decide +kernel
theorem dX11_nextPlan_26 : decode cX11_nextPlan 26 = .ok (.aload_n 0, 1) := by decide +kernel
theorem dX11_nextPlan_27 : decode cX11_nextPlan 27 = .ok (.getfield 59, 3) := by decide +kernel
theorem dX11_nextPlan_30 : decode cX11_nextPlan 30 = .ok (.iconst 5, 1) := by decide +kernel
theorem dX11_nextPlan_31 : decode cX11_nextPlan 31 = .ok (.iaload, 1) := by decide +kernel
theorem dX11_nextPlan_32 : decode cX11_nextPlan 32 = .ok (.if_icmp .ge 15, 3) := by decide +kernel
theorem dX11_nextPlan_35 : decode cX11_nextPlan 35 = .ok (.aload_n 0, 1) := by decide +kernel
theorem dX11_nextPlan_36 : decode cX11_nextPlan 36 = .ok (.getfield 117, 3) := by decide +kernel
theorem dX11_nextPlan_39 : decode cX11_nextPlan 39 = .ok (.iload_n 1, 1) := by decide +kernel
theorem dX11_nextPlan_40 : decode cX11_nextPlan 40 = .ok (.dup2, 1) := by decide +kernel
theorem dX11_nextPlan_41 : decode cX11_nextPlan 41 = .ok (.iaload, 1) := by decide +kernel
theorem dX11_nextPlan_42 : decode cX11_nextPlan 42 = .ok (.iconst 1, 1) := by decide +kernel
theorem dX11_nextPlan_43 : decode cX11_nextPlan 43 = .ok (.iadd, 1) := by decide +kernel
theorem dX11_nextPlan_44 : decode cX11_nextPlan 44 = .ok (.iastore, 1) := by decide +kernel
theorem dX11_nextPlan_45 : decode cX11_nextPlan 45 = .ok (.iconst 1, 1) := by decide +kernel
theorem dX11_nextPlan_46 : decode cX11_nextPlan 46 = .ok (.ireturn, 1) := by decide +kernel
theorem dX11_nextPlan_47 : decode cX11_nextPlan 47 = .ok (.aload_n 0, 1) := by decide +kernel
theorem dX11_nextPlan_48 : decode cX11_nextPlan 48 = .ok (.getfield 117, 3) := by decide +kernel
theorem dX11_nextPlan_51 : decode cX11_nextPlan 51 = .ok (.iload_n 1, 1) := by decide +kernel
theorem dX11_nextPlan_52 : decode cX11_nextPlan 52 = .ok (.iconst 0, 1) := by decide +kernel
theorem dX11_nextPlan_53 : decode cX11_nextPlan 53 = .ok (.iastore, 1) := by decide +kernel
theorem dX11_nextPlan_54 : decode cX11_nextPlan 54 = .ok (.iinc 1 (-1), 3) := by decide +kernel
theorem dX11_nextPlan_57 : decode cX11_nextPlan 57 = .ok (.goto (-50), 3) := by decide +kernel
theorem dX11_nextPlan_60 : decode cX11_nextPlan 60 = .ok (.iconst 0, 1) := by decide +kernel
theorem dX11_nextPlan_61 : decode cX11_nextPlan 61 = .ok (.ireturn, 1) := by decide +kernel
theorem dX11_vote_0 : decode cX11_vote 0 = .ok (.aload_n 0, 1) := by decide +kernel
theorem dX11_vote_1 : decode cX11_vote 1 = .ok (.iload_n 1, 1) := by decide +kernel
theorem dX11_vote_2 : decode cX11_vote 2 = .ok (.invokevirtual 169, 3) := by decide +kernel
theorem dX11_vote_5 : decode cX11_vote 5 = .ok (.ifCond .ne 5, 3) := by decide +kernel
theorem dX11_vote_8 : decode cX11_vote 8 = .ok (.iconst (-1), 1) := by decide +kernel
theorem dX11_vote_9 : decode cX11_vote 9 = .ok (.ireturn, 1) := by decide +kernel
theorem dX11_vote_10 : decode cX11_vote 10 = .ok (.iload_n 2, 1) := by decide +kernel
theorem dX11_vote_11 : decode cX11_vote 11 = .ok (.i2l, 1) := by decide +kernel
theorem dX11_vote_12 : decode cX11_vote 12 = .ok (.lconst 0, 1) := by decide +kernel
theorem dX11_vote_13 : decode cX11_vote 13 = .ok (.lconst 1, 1) := by decide +kernel
theorem dX11_vote_14 : decode cX11_vote 14 = .ok (.invokestatic 140, 3) := by decide +kernel
theorem dX11_vote_17 : decode cX11_vote 17 = .ok (.ifCond .ne 6, 3) := by decide +kernel
theorem dX11_vote_20 : decode cX11_vote 20 = .ok (.bipush (-2), 2) := by decide +kernel
theorem dX11_vote_22 : decode cX11_vote 22 = .ok (.ireturn, 1) := by decide +kernel
theorem dX11_vote_23 : decode cX11_vote 23 = .ok (.aload_n 0, 1) := by decide +kernel
theorem dX11_vote_24 : decode cX11_vote 24 = .ok (.getfield 31, 3) := by decide +kernel
theorem dX11_vote_27 : decode cX11_vote 27 = .ok (.iload_n 1, 1) := by decide +kernel
theorem dX11_vote_28 : decode cX11_vote 28 = .ok (.baload, 1) := by decide +kernel
theorem dX11_vote_29 : decode cX11_vote 29 = .ok (.ifCond .ne 6, 3) := by decide +kernel
theorem dX11_vote_32 : decode cX11_vote 32 = .ok (.bipush (-3), 2) := by decide +kernel
theorem dX11_vote_34 : decode cX11_vote 34 = .ok (.ireturn, 1) := by decide +kernel
theorem dX11_vote_35 : decode cX11_vote 35 = .ok (.iconst 0, 1) := by decide +kernel
theorem dX11_vote_36 : decode cX11_vote 36 = .ok (.istore_n 3, 1) := by decide +kernel
theorem dX11_vote_37 : decode cX11_vote 37 = .ok (.iconst 0, 1) := by decide +kernel
theorem dX11_vote_38 : decode cX11_vote 38 = .ok (.istore 4, 2) := by decide +kernel
theorem dX11_vote_40 : decode cX11_vote 40 = .ok (.iload 4, 2) := by decide +kernel
theorem dX11_vote_42 : decode cX11_vote 42 = .ok (.aload_n 0, 1) := by decide +kernel
theorem dX11_vote_43 : decode cX11_vote 43 = .ok (.getfield 166, 3) := by decide +kernel
theorem dX11_vote_46 : decode cX11_vote 46 = .ok (.if_icmp .ge 38, 3) := by decide +kernel
theorem dX11_vote_49 : decode cX11_vote 49 = .ok (.iload_n 3, 1) := by decide +kernel
theorem dX11_vote_50 : decode cX11_vote 50 = .ok (.aload_n 0, 1) := by decide +kernel
theorem dX11_vote_51 : decode cX11_vote 51 = .ok (.getfield 50, 3) := by decide +kernel
theorem dX11_vote_54 : decode cX11_vote 54 = .ok (.iload 4, 2) := by decide +kernel
theorem dX11_vote_56 : decode cX11_vote 56 = .ok (.iaload, 1) := by decide +kernel
theorem dX11_vote_57 : decode cX11_vote 57 = .ok (.iload_n 1, 1) := by decide +kernel
theorem dX11_vote_58 : decode cX11_vote 58 = .ok (.if_icmp .ne 17, 3) := by decide +kernel
theorem dX11_vote_61 : decode cX11_vote 61 = .ok (.aload_n 0, 1) := by decide +kernel
theorem dX11_vote_62 : decode cX11_vote 62 = .ok (.iconst 2, 1) := by decide +kernel
theorem dX11_vote_63 : decode cX11_vote 63 = .ok (.iload 4, 2) := by decide +kernel
theorem dX11_vote_65 : decode cX11_vote 65 = .ok (.invokevirtual 261, 3) := by decide +kernel
theorem dX11_vote_68 : decode cX11_vote 68 = .ok (.ifCond .eq 7, 3) := by decide +kernel
theorem dX11_vote_71 : decode cX11_vote 71 = .ok (.iconst 1, 1) := by decide +kernel
theorem dX11_vote_72 : decode cX11_vote 72 = .ok (.goto 4, 3) := by decide +kernel
theorem dX11_vote_75 : decode cX11_vote 75 = .ok (.iconst 0, 1) := by decide +kernel
theorem dX11_vote_76 : decode cX11_vote 76 = .ok (.iadd, 1) := by decide +kernel
theorem dX11_vote_77 : decode cX11_vote 77 = .ok (.istore_n 3, 1) := by decide +kernel
theorem dX11_vote_78 : decode cX11_vote 78 = .ok (.iinc 4 1, 3) := by decide +kernel
theorem dX11_vote_81 : decode cX11_vote 81 = .ok (.goto (-41), 3) := by decide +kernel
theorem dX11_vote_84 : decode cX11_vote 84 = .ok (.iload_n 2, 1) := by decide +kernel
theorem dX11_vote_85 : decode cX11_vote 85 = .ok (.ifCond .ne 7, 3) := by decide +kernel
theorem dX11_vote_88 : decode cX11_vote 88 = .ok (.iload_n 3, 1) := by decide +kernel
theorem dX11_vote_89 : decode cX11_vote 89 = .ok (.goto 19, 3) := by decide +kernel
theorem dX11_vote_92 : decode cX11_vote 92 = .ok (.iconst 2, 1) := by decide +kernel
theorem dX11_vote_93 : decode cX11_vote 93 = .ok (.iload_n 3, 1) := by decide +kernel
theorem dX11_vote_94 : decode cX11_vote 94 = .ok (.imul, 1) := by decide +kernel
theorem dX11_vote_95 : decode cX11_vote 95 = .ok (.aload_n 0, 1) := by decide +kernel
theorem dX11_vote_96 : decode cX11_vote 96 = .ok (.iload_n 1, 1) := by decide +kernel
theorem dX11_vote_97 : decode cX11_vote 97 = .ok (.invokevirtual 172, 3) := by decide +kernel
theorem dX11_vote_100 : decode cX11_vote 100 = .ok (.if_icmp .le 7, 3) := by decide +kernel
theorem dX11_vote_103 : decode cX11_vote 103 = .ok (.iconst 1, 1) := by decide +kernel
theorem dX11_vote_104 : decode cX11_vote 104 = .ok (.goto 4, 3) := by decide +kernel
theorem dX11_vote_107 : decode cX11_vote 107 = .ok (.iconst 0, 1) := by decide +kernel
theorem dX11_vote_108 : decode cX11_vote 108 = .ok (.ireturn, 1) := by decide +kernel
theorem dX11_worked_0 : decode cX11_worked 0 = .ok (.aload_n 0, 1) := by decide +kernel
theorem dX11_worked_1 : decode cX11_worked 1 = .ok (.iload_n 1, 1) := by decide +kernel
theorem dX11_worked_2 : decode cX11_worked 2 = .ok (.invokevirtual 169, 3) := by decide +kernel
theorem dX11_worked_5 : decode cX11_worked 5 = .ok (.ifCond .ne 5, 3) := by decide +kernel
theorem dX11_worked_8 : decode cX11_worked 8 = .ok (.iconst (-1), 1) := by decide +kernel
theorem dX11_worked_9 : decode cX11_worked 9 = .ok (.ireturn, 1) := by decide +kernel
theorem dX11_worked_10 : decode cX11_worked 10 = .ok (.iload_n 2, 1) := by decide +kernel
theorem dX11_worked_11 : decode cX11_worked 11 = .ok (.i2l, 1) := by decide +kernel
theorem dX11_worked_12 : decode cX11_worked 12 = .ok (.lconst 0, 1) := by decide +kernel
theorem dX11_worked_13 : decode cX11_worked 13 = .ok (.iload_n 3, 1) := by decide +kernel
theorem dX11_worked_14 : decode cX11_worked 14 = .ok (.i2l, 1) := by decide +kernel
theorem dX11_worked_15 : decode cX11_worked 15 = .ok (.invokestatic 140, 3) := by decide +kernel
theorem dX11_worked_18 : decode cX11_worked 18 = .ok (.ifCond .eq 15, 3) := by decide +kernel
theorem dX11_worked_21 : decode cX11_worked 21 = .ok (.iload_n 3, 1) := by decide +kernel
theorem dX11_worked_22 : decode cX11_worked 22 = .ok (.i2l, 1) := by decide +kernel
theorem dX11_worked_23 : decode cX11_worked 23 = .ok (.lconst 0, 1) := by decide +kernel
theorem dX11_worked_24 : decode cX11_worked 24 = .ok (.ldc2_w 148, 3) := by decide +kernel
theorem dX11_worked_27 : decode cX11_worked 27 = .ok (.invokestatic 140, 3) := by decide +kernel
theorem dX11_worked_30 : decode cX11_worked 30 = .ok (.ifCond .ne 6, 3) := by decide +kernel
theorem dX11_worked_33 : decode cX11_worked 33 = .ok (.bipush (-2), 2) := by decide +kernel
theorem dX11_worked_35 : decode cX11_worked 35 = .ok (.ireturn, 1) := by decide +kernel
theorem dX11_worked_36 : decode cX11_worked 36 = .ok (.aload_n 0, 1) := by decide +kernel
theorem dX11_worked_37 : decode cX11_worked 37 = .ok (.getfield 120, 3) := by decide +kernel
theorem dX11_worked_40 : decode cX11_worked 40 = .ok (.iload_n 1, 1) := by decide +kernel
theorem dX11_worked_41 : decode cX11_worked 41 = .ok (.iload_n 2, 1) := by decide +kernel
theorem dX11_worked_42 : decode cX11_worked 42 = .ok (.iastore, 1) := by decide +kernel
theorem dX11_worked_43 : decode cX11_worked 43 = .ok (.aload_n 0, 1) := by decide +kernel
theorem dX11_worked_44 : decode cX11_worked 44 = .ok (.getfield 123, 3) := by decide +kernel
theorem dX11_worked_47 : decode cX11_worked 47 = .ok (.iload_n 1, 1) := by decide +kernel
theorem dX11_worked_48 : decode cX11_worked 48 = .ok (.iload_n 3, 1) := by decide +kernel
theorem dX11_worked_49 : decode cX11_worked 49 = .ok (.iastore, 1) := by decide +kernel
theorem dX11_worked_50 : decode cX11_worked 50 = .ok (.iconst 1, 1) := by decide +kernel
theorem dX11_worked_51 : decode cX11_worked 51 = .ok (.ireturn, 1) := by decide +kernel
theorem dX11_harm_0 : decode cX11_harm 0 = .ok (.iload_n 1, 1) := by decide +kernel
theorem dX11_harm_1 : decode cX11_harm 1 = .ok (.iload_n 2, 1) := by decide +kernel
theorem dX11_harm_2 : decode cX11_harm 2 = .ok (.invokestatic 154, 3) := by decide +kernel
theorem dX11_harm_5 : decode cX11_harm 5 = .ok (.ifCond .eq 28, 3) := by decide +kernel
theorem dX11_harm_8 : decode cX11_harm 8 = .ok (.iload_n 3, 1) := by decide +kernel
theorem dX11_harm_9 : decode cX11_harm 9 = .ok (.i2l, 1) := by decide +kernel
theorem dX11_harm_10 : decode cX11_harm 10 = .ok (.lconst 0, 1) := by decide +kernel
theorem dX11_harm_11 : decode cX11_harm 11 = .ok (.ldc2_w 148, 3) := by decide +kernel
theorem dX11_harm_14 : decode cX11_harm 14 = .ok (.invokestatic 140, 3) := by decide +kernel
theorem dX11_harm_17 : decode cX11_harm 17 = .ok (.ifCond .eq 16, 3) := by decide +kernel
theorem dX11_harm_20 : decode cX11_harm 20 = .ok (.iload 4, 2) := by decide +kernel
theorem dX11_harm_22 : decode cX11_harm 22 = .ok (.i2l, 1) := by decide +kernel
theorem dX11_harm_23 : decode cX11_harm 23 = .ok (.lconst 0, 1) := by decide +kernel
theorem dX11_harm_24 : decode cX11_harm 24 = .ok (.ldc2_w 341, 3) := by decide +kernel
theorem dX11_harm_27 : decode cX11_harm 27 = .ok (.invokestatic 140, 3) := by decide +kernel
theorem dX11_harm_30 : decode cX11_harm 30 = .ok (.ifCond .ne 6, 3) := by decide +kernel
theorem dX11_harm_33 : decode cX11_harm 33 = .ok (.bipush (-2), 2) := by decide +kernel
theorem dX11_harm_35 : decode cX11_harm 35 = .ok (.ireturn, 1) := by decide +kernel
theorem dX11_harm_36 : decode cX11_harm 36 = .ok (.aload_n 0, 1) := by decide +kernel
theorem dX11_harm_37 : decode cX11_harm 37 = .ok (.getfield 343, 3) := by decide +kernel
theorem dX11_harm_40 : decode cX11_harm 40 = .ok (.bipush 10, 2) := by decide +kernel
theorem dX11_harm_42 : decode cX11_harm 42 = .ok (.if_icmp .ne 6, 3) := by decide +kernel
theorem dX11_harm_45 : decode cX11_harm 45 = .ok (.bipush (-4), 2) := by decide +kernel
theorem dX11_harm_47 : decode cX11_harm 47 = .ok (.ireturn, 1) := by decide +kernel
theorem dX11_harm_48 : decode cX11_harm 48 = .ok (.aload_n 0, 1) := by decide +kernel
theorem dX11_harm_49 : decode cX11_harm 49 = .ok (.getfield 126, 3) := by decide +kernel
theorem dX11_harm_52 : decode cX11_harm 52 = .ok (.aload_n 0, 1) := by decide +kernel
theorem dX11_harm_53 : decode cX11_harm 53 = .ok (.getfield 343, 3) := by decide +kernel
theorem dX11_harm_56 : decode cX11_harm 56 = .ok (.iload_n 1, 1) := by decide +kernel
theorem dX11_harm_57 : decode cX11_harm 57 = .ok (.iastore, 1) := by decide +kernel
theorem dX11_harm_58 : decode cX11_harm 58 = .ok (.aload_n 0, 1) := by decide +kernel
theorem dX11_harm_59 : decode cX11_harm 59 = .ok (.getfield 129, 3) := by decide +kernel
theorem dX11_harm_62 : decode cX11_harm 62 = .ok (.aload_n 0, 1) := by decide +kernel
theorem dX11_harm_63 : decode cX11_harm 63 = .ok (.getfield 343, 3) := by decide +kernel
theorem dX11_harm_66 : decode cX11_harm 66 = .ok (.iload_n 2, 1) := by decide +kernel
theorem dX11_harm_67 : decode cX11_harm 67 = .ok (.iastore, 1) := by decide +kernel
theorem dX11_harm_68 : decode cX11_harm 68 = .ok (.aload_n 0, 1) := by decide +kernel
theorem dX11_harm_69 : decode cX11_harm 69 = .ok (.getfield 132, 3) := by decide +kernel
theorem dX11_harm_72 : decode cX11_harm 72 = .ok (.aload_n 0, 1) := by decide +kernel
theorem dX11_harm_73 : decode cX11_harm 73 = .ok (.getfield 343, 3) := by decide +kernel
theorem dX11_harm_76 : decode cX11_harm 76 = .ok (.iload_n 3, 1) := by decide +kernel
theorem dX11_harm_77 : decode cX11_harm 77 = .ok (.iastore, 1) := by decide +kernel
theorem dX11_harm_78 : decode cX11_harm 78 = .ok (.aload_n 0, 1) := by decide +kernel
theorem dX11_harm_79 : decode cX11_harm 79 = .ok (.getfield 135, 3) := by decide +kernel
theorem dX11_harm_82 : decode cX11_harm 82 = .ok (.aload_n 0, 1) := by decide +kernel
theorem dX11_harm_83 : decode cX11_harm 83 = .ok (.getfield 343, 3) := by decide +kernel
theorem dX11_harm_86 : decode cX11_harm 86 = .ok (.iload 4, 2) := by decide +kernel
theorem dX11_harm_88 : decode cX11_harm 88 = .ok (.iastore, 1) := by decide +kernel
theorem dX11_harm_89 : decode cX11_harm 89 = .ok (.aload_n 0, 1) := by decide +kernel
theorem dX11_harm_90 : decode cX11_harm 90 = .ok (.dup, 1) := by decide +kernel
theorem dX11_harm_91 : decode cX11_harm 91 = .ok (.getfield 343, 3) := by decide +kernel
theorem dX11_harm_94 : decode cX11_harm 94 = .ok (.iconst 1, 1) := by decide +kernel
theorem dX11_harm_95 : decode cX11_harm 95 = .ok (.iadd, 1) := by decide +kernel
theorem dX11_harm_96 : decode cX11_harm 96 = .ok (.putfield 343, 3) := by decide +kernel
theorem dX11_harm_99 : decode cX11_harm 99 = .ok (.aload_n 0, 1) := by decide +kernel
theorem dX11_harm_100 : decode cX11_harm 100 = .ok (.getfield 343, 3) := by decide +kernel
theorem dX11_harm_103 : decode cX11_harm 103 = .ok (.iconst 1, 1) := by decide +kernel
theorem dX11_harm_104 : decode cX11_harm 104 = .ok (.isub, 1) := by decide +kernel
theorem dX11_harm_105 : decode cX11_harm 105 = .ok (.ireturn, 1) := by decide +kernel
theorem dX11_canBe_0 : decode cX11_canBe 0 = .ok (.aload_n 0, 1) := by decide +kernel
theorem dX11_canBe_1 : decode cX11_canBe 1 = .ok (.getfield 126, 3) := by decide +kernel
theorem dX11_canBe_4 : decode cX11_canBe 4 = .ok (.iload_n 2, 1) := by decide +kernel
theorem dX11_canBe_5 : decode cX11_canBe 5 = .ok (.iaload, 1) := by decide +kernel
theorem dX11_canBe_6 : decode cX11_canBe 6 = .ok (.aload_n 0, 1) := by decide +kernel
theorem dX11_canBe_7 : decode cX11_canBe 7 = .ok (.getfield 16, 3) := by decide +kernel
theorem dX11_canBe_10 : decode cX11_canBe 10 = .ok (.iload_n 1, 1) := by decide +kernel
theorem dX11_canBe_11 : decode cX11_canBe 11 = .ok (.iaload, 1) := by decide +kernel
theorem dX11_canBe_12 : decode cX11_canBe 12 = .ok (.isub, 1) := by decide +kernel
theorem dX11_canBe_13 : decode cX11_canBe 13 = .ok (.invokestatic 162, 3) := by decide +kernel
theorem dX11_canBe_16 : decode cX11_canBe 16 = .ok (.aload_n 0, 1) := by decide +kernel
theorem dX11_canBe_17 : decode cX11_canBe 17 = .ok (.getfield 129, 3) := by decide +kernel
theorem dX11_canBe_20 : decode cX11_canBe 20 = .ok (.iload_n 2, 1) := by decide +kernel
theorem dX11_canBe_21 : decode cX11_canBe 21 = .ok (.iaload, 1) := by decide +kernel
theorem dX11_canBe_22 : decode cX11_canBe 22 = .ok (.aload_n 0, 1) := by decide +kernel
theorem dX11_canBe_23 : decode cX11_canBe 23 = .ok (.getfield 19, 3) := by decide +kernel
theorem dX11_canBe_26 : decode cX11_canBe 26 = .ok (.iload_n 1, 1) := by decide +kernel
theorem dX11_canBe_27 : decode cX11_canBe 27 = .ok (.iaload, 1) := by decide +kernel
theorem dX11_canBe_28 : decode cX11_canBe 28 = .ok (.isub, 1) := by decide +kernel
theorem dX11_canBe_29 : decode cX11_canBe 29 = .ok (.invokestatic 162, 3) := by decide +kernel
theorem dX11_canBe_32 : decode cX11_canBe 32 = .ok (.iadd, 1) := by decide +kernel
theorem dX11_canBe_33 : decode cX11_canBe 33 = .ok (.istore_n 3, 1) := by decide +kernel
theorem dX11_canBe_34 : decode cX11_canBe 34 = .ok (.aload_n 0, 1) := by decide +kernel
theorem dX11_canBe_35 : decode cX11_canBe 35 = .ok (.getfield 120, 3) := by decide +kernel
theorem dX11_canBe_38 : decode cX11_canBe 38 = .ok (.iload_n 1, 1) := by decide +kernel
theorem dX11_canBe_39 : decode cX11_canBe 39 = .ok (.iaload, 1) := by decide +kernel
theorem dX11_canBe_40 : decode cX11_canBe 40 = .ok (.aload_n 0, 1) := by decide +kernel
theorem dX11_canBe_41 : decode cX11_canBe 41 = .ok (.getfield 132, 3) := by decide +kernel
theorem dX11_canBe_44 : decode cX11_canBe 44 = .ok (.iload_n 2, 1) := by decide +kernel
theorem dX11_canBe_45 : decode cX11_canBe 45 = .ok (.iaload, 1) := by decide +kernel
theorem dX11_canBe_46 : decode cX11_canBe 46 = .ok (.if_icmp .gt 30, 3) := by decide +kernel
theorem dX11_canBe_49 : decode cX11_canBe 49 = .ok (.aload_n 0, 1) := by decide +kernel
theorem dX11_canBe_50 : decode cX11_canBe 50 = .ok (.getfield 123, 3) := by decide +kernel
theorem dX11_canBe_53 : decode cX11_canBe 53 = .ok (.iload_n 1, 1) := by decide +kernel
theorem dX11_canBe_54 : decode cX11_canBe 54 = .ok (.iaload, 1) := by decide +kernel
theorem dX11_canBe_55 : decode cX11_canBe 55 = .ok (.aload_n 0, 1) := by decide +kernel
theorem dX11_canBe_56 : decode cX11_canBe 56 = .ok (.getfield 132, 3) := by decide +kernel
theorem dX11_canBe_59 : decode cX11_canBe 59 = .ok (.iload_n 2, 1) := by decide +kernel
theorem dX11_canBe_60 : decode cX11_canBe 60 = .ok (.iaload, 1) := by decide +kernel
theorem dX11_canBe_61 : decode cX11_canBe 61 = .ok (.aload_n 0, 1) := by decide +kernel
theorem dX11_canBe_62 : decode cX11_canBe 62 = .ok (.getfield 59, 3) := by decide +kernel
theorem dX11_canBe_65 : decode cX11_canBe 65 = .ok (.bipush 6, 2) := by decide +kernel
theorem dX11_canBe_67 : decode cX11_canBe 67 = .ok (.iaload, 1) := by decide +kernel
theorem dX11_canBe_68 : decode cX11_canBe 68 = .ok (.isub, 1) := by decide +kernel
theorem dX11_canBe_69 : decode cX11_canBe 69 = .ok (.if_icmp .lt 7, 3) := by decide +kernel
theorem dX11_canBe_72 : decode cX11_canBe 72 = .ok (.iconst 1, 1) := by decide +kernel
theorem dX11_canBe_73 : decode cX11_canBe 73 = .ok (.goto 4, 3) := by decide +kernel
theorem dX11_canBe_76 : decode cX11_canBe 76 = .ok (.iconst 0, 1) := by decide +kernel
theorem dX11_canBe_77 : decode cX11_canBe 77 = .ok (.istore 4, 2) := by decide +kernel
theorem dX11_canBe_79 : decode cX11_canBe 79 = .ok (.iload_n 3, 1) := by decide +kernel
theorem dX11_canBe_80 : decode cX11_canBe 80 = .ok (.aload_n 0, 1) := by decide +kernel
theorem dX11_canBe_81 : decode cX11_canBe 81 = .ok (.getfield 28, 3) := by decide +kernel
theorem dX11_canBe_84 : decode cX11_canBe 84 = .ok (.iload_n 1, 1) := by decide +kernel
theorem dX11_canBe_85 : decode cX11_canBe 85 = .ok (.iaload, 1) := by decide +kernel
theorem dX11_canBe_86 : decode cX11_canBe 86 = .ok (.iconst 3, 1) := by decide +kernel
theorem dX11_canBe_87 : decode cX11_canBe 87 = .ok (.idiv, 1) := by decide +kernel
theorem dX11_canBe_88 : decode cX11_canBe 88 = .ok (.bipush 10, 2) := by decide +kernel
theorem dX11_canBe_90 : decode cX11_canBe 90 = .ok (.idiv, 1) := by decide +kernel
theorem dX11_canBe_91 : decode cX11_canBe 91 = .ok (.if_icmp .gt 12, 3) := by decide +kernel
theorem dX11_canBe_94 : decode cX11_canBe 94 = .ok (.iload 4, 2) := by decide +kernel
theorem dX11_canBe_96 : decode cX11_canBe 96 = .ok (.ifCond .eq 7, 3) := by decide +kernel
theorem dX11_canBe_99 : decode cX11_canBe 99 = .ok (.iconst 1, 1) := by decide +kernel
theorem dX11_canBe_100 : decode cX11_canBe 100 = .ok (.goto 4, 3) := by decide +kernel
theorem dX11_canBe_103 : decode cX11_canBe 103 = .ok (.iconst 0, 1) := by decide +kernel
theorem dX11_canBe_104 : decode cX11_canBe 104 = .ok (.ireturn, 1) := by decide +kernel
theorem dX11_whoseOf_0 : decode cX11_whoseOf 0 = .ok (.iconst 0, 1) := by decide +kernel
theorem dX11_whoseOf_1 : decode cX11_whoseOf 1 = .ok (.istore_n 2, 1) := by decide +kernel
theorem dX11_whoseOf_2 : decode cX11_whoseOf 2 = .ok (.iconst 0, 1) := by decide +kernel
theorem dX11_whoseOf_3 : decode cX11_whoseOf 3 = .ok (.istore_n 3, 1) := by decide +kernel
theorem dX11_whoseOf_4 : decode cX11_whoseOf 4 = .ok (.iload_n 3, 1) := by decide +kernel
theorem dX11_whoseOf_5 : decode cX11_whoseOf 5 = .ok (.aload_n 0, 1) := by decide +kernel
theorem dX11_whoseOf_6 : decode cX11_whoseOf 6 = .ok (.getfield 144, 3) := by decide +kernel
theorem dX11_whoseOf_9 : decode cX11_whoseOf 9 = .ok (.if_icmp .ge 28, 3) := by decide +kernel
theorem dX11_whoseOf_12 : decode cX11_whoseOf 12 = .ok (.iload_n 2, 1) := by decide +kernel
theorem dX11_whoseOf_13 : decode cX11_whoseOf 13 = .ok (.aload_n 0, 1) := by decide +kernel
theorem dX11_whoseOf_14 : decode cX11_whoseOf 14 = .ok (.iload_n 3, 1) := by decide +kernel
theorem dX11_whoseOf_15 : decode cX11_whoseOf 15 = .ok (.iload_n 1, 1) := by decide +kernel
theorem dX11_whoseOf_16 : decode cX11_whoseOf 16 = .ok (.invokevirtual 346, 3) := by decide +kernel
theorem dX11_whoseOf_19 : decode cX11_whoseOf 19 = .ok (.ifCond .eq 9, 3) := by decide +kernel
theorem dX11_whoseOf_22 : decode cX11_whoseOf 22 = .ok (.iconst 1, 1) := by decide +kernel
theorem dX11_whoseOf_23 : decode cX11_whoseOf 23 = .ok (.iload_n 3, 1) := by decide +kernel
theorem dX11_whoseOf_24 : decode cX11_whoseOf 24 = .ok (.ishl, 1) := by decide +kernel
theorem dX11_whoseOf_25 : decode cX11_whoseOf 25 = .ok (.goto 4, 3) := by decide +kernel
theorem dX11_whoseOf_28 : decode cX11_whoseOf 28 = .ok (.iconst 0, 1) := by decide +kernel
theorem dX11_whoseOf_29 : decode cX11_whoseOf 29 = .ok (.ior, 1) := by decide +kernel
theorem dX11_whoseOf_30 : decode cX11_whoseOf 30 = .ok (.istore_n 2, 1) := by decide +kernel
theorem dX11_whoseOf_31 : decode cX11_whoseOf 31 = .ok (.iinc 3 1, 3) := by decide +kernel
theorem dX11_whoseOf_34 : decode cX11_whoseOf 34 = .ok (.goto (-30), 3) := by decide +kernel
theorem dX11_whoseOf_37 : decode cX11_whoseOf 37 = .ok (.iload_n 2, 1) := by decide +kernel
theorem dX11_whoseOf_38 : decode cX11_whoseOf 38 = .ok (.ireturn, 1) := by decide +kernel
theorem dX11_isHarm_0 : decode cX11_isHarm 0 = .ok (.iload_n 1, 1) := by decide +kernel
theorem dX11_isHarm_1 : decode cX11_isHarm 1 = .ok (.i2l, 1) := by decide +kernel
theorem dX11_isHarm_2 : decode cX11_isHarm 2 = .ok (.lconst 0, 1) := by decide +kernel
theorem dX11_isHarm_3 : decode cX11_isHarm 3 = .ok (.aload_n 0, 1) := by decide +kernel
theorem dX11_isHarm_4 : decode cX11_isHarm 4 = .ok (.getfield 343, 3) := by decide +kernel
theorem dX11_isHarm_7 : decode cX11_isHarm 7 = .ok (.iconst 1, 1) := by decide +kernel
theorem dX11_isHarm_8 : decode cX11_isHarm 8 = .ok (.isub, 1) := by decide +kernel
theorem dX11_isHarm_9 : decode cX11_isHarm 9 = .ok (.i2l, 1) := by decide +kernel
theorem dX11_isHarm_10 : decode cX11_isHarm 10 = .ok (.invokestatic 140, 3) := by decide +kernel
theorem dX11_isHarm_13 : decode cX11_isHarm 13 = .ok (.ireturn, 1) := by decide +kernel
theorem dX11_whose_0 : decode cX11_whose 0 = .ok (.aload_n 0, 1) := by decide +kernel
theorem dX11_whose_1 : decode cX11_whose 1 = .ok (.iload_n 1, 1) := by decide +kernel
theorem dX11_whose_2 : decode cX11_whose 2 = .ok (.invokevirtual 349, 3) := by decide +kernel
theorem dX11_whose_5 : decode cX11_whose 5 = .ok (.ifCond .eq 11, 3) := by decide +kernel
theorem dX11_whose_8 : decode cX11_whose 8 = .ok (.aload_n 0, 1) := by decide +kernel
theorem dX11_whose_9 : decode cX11_whose 9 = .ok (.iload_n 1, 1) := by decide +kernel
theorem dX11_whose_10 : decode cX11_whose 10 = .ok (.invokevirtual 352, 3) := by decide +kernel
theorem dX11_whose_13 : decode cX11_whose 13 = .ok (.goto 4, 3) := by decide +kernel
theorem dX11_whose_16 : decode cX11_whose 16 = .ok (.iconst (-1), 1) := by decide +kernel
theorem dX11_whose_17 : decode cX11_whose 17 = .ok (.ireturn, 1) := by decide +kernel
theorem dX11_shareOf_0 : decode cX11_shareOf 0 = .ok (.aload_n 0, 1) := by decide +kernel
theorem dX11_shareOf_1 : decode cX11_shareOf 1 = .ok (.getfield 135, 3) := by decide +kernel
theorem dX11_shareOf_4 : decode cX11_shareOf 4 = .ok (.iload_n 1, 1) := by decide +kernel
theorem dX11_shareOf_5 : decode cX11_shareOf 5 = .ok (.iaload, 1) := by decide +kernel
theorem dX11_shareOf_6 : decode cX11_shareOf 6 = .ok (.i2l, 1) := by decide +kernel
theorem dX11_shareOf_7 : decode cX11_shareOf 7 = .ok (.aload_n 0, 1) := by decide +kernel
theorem dX11_shareOf_8 : decode cX11_shareOf 8 = .ok (.getfield 22, 3) := by decide +kernel
theorem dX11_shareOf_11 : decode cX11_shareOf 11 = .ok (.iload_n 2, 1) := by decide +kernel
theorem dX11_shareOf_12 : decode cX11_shareOf 12 = .ok (.iaload, 1) := by decide +kernel
theorem dX11_shareOf_13 : decode cX11_shareOf 13 = .ok (.iconst 1, 1) := by decide +kernel
theorem dX11_shareOf_14 : decode cX11_shareOf 14 = .ok (.iadd, 1) := by decide +kernel
theorem dX11_shareOf_15 : decode cX11_shareOf 15 = .ok (.i2l, 1) := by decide +kernel
theorem dX11_shareOf_16 : decode cX11_shareOf 16 = .ok (.lmul, 1) := by decide +kernel
theorem dX11_shareOf_17 : decode cX11_shareOf 17 = .ok (.iload_n 3, 1) := by decide +kernel
theorem dX11_shareOf_18 : decode cX11_shareOf 18 = .ok (.i2l, 1) := by decide +kernel
theorem dX11_shareOf_19 : decode cX11_shareOf 19 = .ok (.ldiv, 1) := by decide +kernel
theorem dX11_shareOf_20 : decode cX11_shareOf 20 = .ok (.l2i, 1) := by decide +kernel
theorem dX11_shareOf_21 : decode cX11_shareOf 21 = .ok (.ireturn, 1) := by decide +kernel
theorem dX11_part_0 : decode cX11_part 0 = .ok (.aload_n 0, 1) := by decide +kernel
theorem dX11_part_1 : decode cX11_part 1 = .ok (.iload_n 1, 1) := by decide +kernel
theorem dX11_part_2 : decode cX11_part 2 = .ok (.invokevirtual 349, 3) := by decide +kernel
theorem dX11_part_5 : decode cX11_part 5 = .ok (.ifCond .eq 11, 3) := by decide +kernel
theorem dX11_part_8 : decode cX11_part 8 = .ok (.aload_n 0, 1) := by decide +kernel
theorem dX11_part_9 : decode cX11_part 9 = .ok (.iload_n 2, 1) := by decide +kernel
theorem dX11_part_10 : decode cX11_part 10 = .ok (.invokevirtual 169, 3) := by decide +kernel
theorem dX11_part_13 : decode cX11_part 13 = .ok (.ifCond .ne 5, 3) := by decide +kernel
theorem dX11_part_16 : decode cX11_part 16 = .ok (.iconst (-1), 1) := by decide +kernel
theorem dX11_part_17 : decode cX11_part 17 = .ok (.ireturn, 1) := by decide +kernel
theorem dX11_part_18 : decode cX11_part 18 = .ok (.aload_n 0, 1) := by decide +kernel
theorem dX11_part_19 : decode cX11_part 19 = .ok (.iload_n 1, 1) := by decide +kernel
theorem dX11_part_20 : decode cX11_part 20 = .ok (.invokevirtual 352, 3) := by decide +kernel
theorem dX11_part_23 : decode cX11_part 23 = .ok (.istore_n 3, 1) := by decide +kernel
theorem dX11_part_24 : decode cX11_part 24 = .ok (.iload_n 3, 1) := by decide +kernel
theorem dX11_part_25 : decode cX11_part 25 = .ok (.iload_n 2, 1) := by decide +kernel
theorem dX11_part_26 : decode cX11_part 26 = .ok (.ishr, 1) := by decide +kernel
theorem dX11_part_27 : decode cX11_part 27 = .ok (.iconst 1, 1) := by decide +kernel
theorem dX11_part_28 : decode cX11_part 28 = .ok (.iand, 1) := by decide +kernel
theorem dX11_part_29 : decode cX11_part 29 = .ok (.ifCond .ne 5, 3) := by decide +kernel
theorem dX11_part_32 : decode cX11_part 32 = .ok (.iconst 0, 1) := by decide +kernel
theorem dX11_part_33 : decode cX11_part 33 = .ok (.ireturn, 1) := by decide +kernel
theorem dX11_part_34 : decode cX11_part 34 = .ok (.iconst 0, 1) := by decide +kernel
theorem dX11_part_35 : decode cX11_part 35 = .ok (.istore 4, 2) := by decide +kernel
theorem dX11_part_37 : decode cX11_part 37 = .ok (.iconst 0, 1) := by decide +kernel
theorem dX11_part_38 : decode cX11_part 38 = .ok (.istore 5, 2) := by decide +kernel
theorem dX11_part_40 : decode cX11_part 40 = .ok (.iload 5, 2) := by decide +kernel
theorem dX11_part_42 : decode cX11_part 42 = .ok (.aload_n 0, 1) := by decide +kernel
theorem dX11_part_43 : decode cX11_part 43 = .ok (.getfield 144, 3) := by decide +kernel
theorem dX11_part_46 : decode cX11_part 46 = .ok (.if_icmp .ge 37, 3) := by decide +kernel
theorem dX11_part_49 : decode cX11_part 49 = .ok (.iload 4, 2) := by decide +kernel
theorem dX11_part_51 : decode cX11_part 51 = .ok (.iload_n 3, 1) := by decide +kernel
theorem dX11_part_52 : decode cX11_part 52 = .ok (.iload 5, 2) := by decide +kernel
theorem dX11_part_54 : decode cX11_part 54 = .ok (.ishr, 1) := by decide +kernel
theorem dX11_part_55 : decode cX11_part 55 = .ok (.iconst 1, 1) := by decide +kernel
theorem dX11_part_56 : decode cX11_part 56 = .ok (.iand, 1) := by decide +kernel
theorem dX11_part_57 : decode cX11_part 57 = .ok (.iconst 1, 1) := by decide +kernel
theorem dX11_part_58 : decode cX11_part 58 = .ok (.if_icmp .ne 15, 3) := by decide +kernel
theorem dX11_part_61 : decode cX11_part 61 = .ok (.aload_n 0, 1) := by decide +kernel
theorem dX11_part_62 : decode cX11_part 62 = .ok (.getfield 22, 3) := by decide +kernel
theorem dX11_part_65 : decode cX11_part 65 = .ok (.iload 5, 2) := by decide +kernel
theorem dX11_part_67 : decode cX11_part 67 = .ok (.iaload, 1) := by decide +kernel
theorem dX11_part_68 : decode cX11_part 68 = .ok (.iconst 1, 1) := by decide +kernel
theorem dX11_part_69 : decode cX11_part 69 = .ok (.iadd, 1) := by decide +kernel
theorem dX11_part_70 : decode cX11_part 70 = .ok (.goto 4, 3) := by decide +kernel
theorem dX11_part_73 : decode cX11_part 73 = .ok (.iconst 0, 1) := by decide +kernel
theorem dX11_part_74 : decode cX11_part 74 = .ok (.iadd, 1) := by decide +kernel
theorem dX11_part_75 : decode cX11_part 75 = .ok (.istore 4, 2) := by decide +kernel
theorem dX11_part_77 : decode cX11_part 77 = .ok (.iinc 5 1, 3) := by decide +kernel
theorem dX11_part_80 : decode cX11_part 80 = .ok (.goto (-40), 3) := by decide +kernel
theorem dX11_part_83 : decode cX11_part 83 = .ok (.aload_n 0, 1) := by decide +kernel
theorem dX11_part_84 : decode cX11_part 84 = .ok (.getfield 135, 3) := by decide +kernel
theorem dX11_part_87 : decode cX11_part 87 = .ok (.iload_n 1, 1) := by decide +kernel
theorem dX11_part_88 : decode cX11_part 88 = .ok (.iaload, 1) := by decide +kernel
theorem dX11_part_89 : decode cX11_part 89 = .ok (.istore 5, 2) := by decide +kernel
theorem dX11_part_91 : decode cX11_part 91 = .ok (.iconst 0, 1) := by decide +kernel
theorem dX11_part_92 : decode cX11_part 92 = .ok (.istore 6, 2) := by decide +kernel
theorem dX11_part_94 : decode cX11_part 94 = .ok (.iload 6, 2) := by decide +kernel
theorem dX11_part_96 : decode cX11_part 96 = .ok (.aload_n 0, 1) := by decide +kernel
theorem dX11_part_97 : decode cX11_part 97 = .ok (.getfield 144, 3) := by decide +kernel
theorem dX11_part_100 : decode cX11_part 100 = .ok (.if_icmp .ge 37, 3) := by decide +kernel
theorem dX11_part_103 : decode cX11_part 103 = .ok (.iload 5, 2) := by decide +kernel
theorem dX11_part_105 : decode cX11_part 105 = .ok (.iload_n 3, 1) := by decide +kernel
theorem dX11_part_106 : decode cX11_part 106 = .ok (.iload 6, 2) := by decide +kernel
theorem dX11_part_108 : decode cX11_part 108 = .ok (.ishr, 1) := by decide +kernel
theorem dX11_part_109 : decode cX11_part 109 = .ok (.iconst 1, 1) := by decide +kernel
theorem dX11_part_110 : decode cX11_part 110 = .ok (.iand, 1) := by decide +kernel
theorem dX11_part_111 : decode cX11_part 111 = .ok (.iconst 1, 1) := by decide +kernel
theorem dX11_part_112 : decode cX11_part 112 = .ok (.if_icmp .ne 15, 3) := by decide +kernel
theorem dX11_part_115 : decode cX11_part 115 = .ok (.aload_n 0, 1) := by decide +kernel
theorem dX11_part_116 : decode cX11_part 116 = .ok (.iload_n 1, 1) := by decide +kernel
theorem dX11_part_117 : decode cX11_part 117 = .ok (.iload 6, 2) := by decide +kernel
theorem dX11_part_119 : decode cX11_part 119 = .ok (.iload 4, 2) := by decide +kernel
theorem dX11_part_121 : decode cX11_part 121 = .ok (.invokevirtual 355, 3) := by decide +kernel
theorem dX11_part_124 : decode cX11_part 124 = .ok (.goto 4, 3) := by decide +kernel
theorem dX11_part_127 : decode cX11_part 127 = .ok (.iconst 0, 1) := by decide +kernel
theorem dX11_part_128 : decode cX11_part 128 = .ok (.isub, 1) := by decide +kernel
theorem dX11_part_129 : decode cX11_part 129 = .ok (.istore 5, 2) := by decide +kernel
theorem dX11_part_131 : decode cX11_part 131 = .ok (.iinc 6 1, 3) := by decide +kernel
theorem dX11_part_134 : decode cX11_part 134 = .ok (.goto (-40), 3) := by decide +kernel
theorem dX11_part_137 : decode cX11_part 137 = .ok (.iload_n 3, 1) := by decide +kernel
theorem dX11_part_138 : decode cX11_part 138 = .ok (.iconst 1, 1) := by decide +kernel
theorem dX11_part_139 : decode cX11_part 139 = .ok (.iload_n 2, 1) := by decide +kernel
theorem dX11_part_140 : decode cX11_part 140 = .ok (.ishl, 1) := by decide +kernel
theorem dX11_part_141 : decode cX11_part 141 = .ok (.iconst 1, 1) := by decide +kernel
theorem dX11_part_142 : decode cX11_part 142 = .ok (.isub, 1) := by decide +kernel
theorem dX11_part_143 : decode cX11_part 143 = .ok (.iand, 1) := by decide +kernel
theorem dX11_part_144 : decode cX11_part 144 = .ok (.ifCond .ne 7, 3) := by decide +kernel
theorem dX11_part_147 : decode cX11_part 147 = .ok (.iconst 1, 1) := by decide +kernel
theorem dX11_part_148 : decode cX11_part 148 = .ok (.goto 4, 3) := by decide +kernel
theorem dX11_part_151 : decode cX11_part 151 = .ok (.iconst 0, 1) := by decide +kernel
theorem dX11_part_152 : decode cX11_part 152 = .ok (.istore 6, 2) := by decide +kernel
theorem dX11_part_154 : decode cX11_part 154 = .ok (.aload_n 0, 1) := by decide +kernel
theorem dX11_part_155 : decode cX11_part 155 = .ok (.iload_n 1, 1) := by decide +kernel
theorem dX11_part_156 : decode cX11_part 156 = .ok (.iload_n 2, 1) := by decide +kernel
theorem dX11_part_157 : decode cX11_part 157 = .ok (.iload 4, 2) := by decide +kernel
theorem dX11_part_159 : decode cX11_part 159 = .ok (.invokevirtual 355, 3) := by decide +kernel
theorem dX11_part_162 : decode cX11_part 162 = .ok (.iload 6, 2) := by decide +kernel
theorem dX11_part_164 : decode cX11_part 164 = .ok (.ifCond .eq 8, 3) := by decide +kernel
theorem dX11_part_167 : decode cX11_part 167 = .ok (.iload 5, 2) := by decide +kernel
theorem dX11_part_169 : decode cX11_part 169 = .ok (.goto 4, 3) := by decide +kernel
theorem dX11_part_172 : decode cX11_part 172 = .ok (.iconst 0, 1) := by decide +kernel
theorem dX11_part_173 : decode cX11_part 173 = .ok (.iadd, 1) := by decide +kernel
theorem dX11_part_174 : decode cX11_part 174 = .ok (.ireturn, 1) := by decide +kernel
theorem dX11_pitsOf_0 : decode cX11_pitsOf 0 = .ok (.iconst 0, 1) := by decide +kernel
theorem dX11_pitsOf_1 : decode cX11_pitsOf 1 = .ok (.istore_n 2, 1) := by decide +kernel
theorem dX11_pitsOf_2 : decode cX11_pitsOf 2 = .ok (.iconst 0, 1) := by decide +kernel
theorem dX11_pitsOf_3 : decode cX11_pitsOf 3 = .ok (.istore_n 3, 1) := by decide +kernel
theorem dX11_pitsOf_4 : decode cX11_pitsOf 4 = .ok (.iload_n 3, 1) := by decide +kernel
theorem dX11_pitsOf_5 : decode cX11_pitsOf 5 = .ok (.aload_n 0, 1) := by decide +kernel
theorem dX11_pitsOf_6 : decode cX11_pitsOf 6 = .ok (.getfield 166, 3) := by decide +kernel
theorem dX11_pitsOf_9 : decode cX11_pitsOf 9 = .ok (.if_icmp .ge 43, 3) := by decide +kernel
theorem dX11_pitsOf_12 : decode cX11_pitsOf 12 = .ok (.iload_n 2, 1) := by decide +kernel
theorem dX11_pitsOf_13 : decode cX11_pitsOf 13 = .ok (.aload_n 0, 1) := by decide +kernel
theorem dX11_pitsOf_14 : decode cX11_pitsOf 14 = .ok (.getfield 47, 3) := by decide +kernel
theorem dX11_pitsOf_17 : decode cX11_pitsOf 17 = .ok (.iload_n 3, 1) := by decide +kernel
theorem dX11_pitsOf_18 : decode cX11_pitsOf 18 = .ok (.iaload, 1) := by decide +kernel
theorem dX11_pitsOf_19 : decode cX11_pitsOf 19 = .ok (.iload_n 1, 1) := by decide +kernel
theorem dX11_pitsOf_20 : decode cX11_pitsOf 20 = .ok (.if_icmp .ne 23, 3) := by decide +kernel
theorem dX11_pitsOf_23 : decode cX11_pitsOf 23 = .ok (.aload_n 0, 1) := by decide +kernel
theorem dX11_pitsOf_24 : decode cX11_pitsOf 24 = .ok (.getfield 50, 3) := by decide +kernel
theorem dX11_pitsOf_27 : decode cX11_pitsOf 27 = .ok (.iload_n 3, 1) := by decide +kernel
theorem dX11_pitsOf_28 : decode cX11_pitsOf 28 = .ok (.iaload, 1) := by decide +kernel
theorem dX11_pitsOf_29 : decode cX11_pitsOf 29 = .ok (.ifCond .lt 14, 3) := by decide +kernel
theorem dX11_pitsOf_32 : decode cX11_pitsOf 32 = .ok (.iconst 1, 1) := by decide +kernel
theorem dX11_pitsOf_33 : decode cX11_pitsOf 33 = .ok (.aload_n 0, 1) := by decide +kernel
theorem dX11_pitsOf_34 : decode cX11_pitsOf 34 = .ok (.getfield 50, 3) := by decide +kernel
theorem dX11_pitsOf_37 : decode cX11_pitsOf 37 = .ok (.iload_n 3, 1) := by decide +kernel
theorem dX11_pitsOf_38 : decode cX11_pitsOf 38 = .ok (.iaload, 1) := by decide +kernel
theorem dX11_pitsOf_39 : decode cX11_pitsOf 39 = .ok (.ishl, 1) := by decide +kernel
theorem dX11_pitsOf_40 : decode cX11_pitsOf 40 = .ok (.goto 4, 3) := by decide +kernel
theorem dX11_pitsOf_43 : decode cX11_pitsOf 43 = .ok (.iconst 0, 1) := by decide +kernel
theorem dX11_pitsOf_44 : decode cX11_pitsOf 44 = .ok (.ior, 1) := by decide +kernel
theorem dX11_pitsOf_45 : decode cX11_pitsOf 45 = .ok (.istore_n 2, 1) := by decide +kernel
theorem dX11_pitsOf_46 : decode cX11_pitsOf 46 = .ok (.iinc 3 1, 3) := by decide +kernel
theorem dX11_pitsOf_49 : decode cX11_pitsOf 49 = .ok (.goto (-45), 3) := by decide +kernel
theorem dX11_pitsOf_52 : decode cX11_pitsOf 52 = .ok (.iload_n 2, 1) := by decide +kernel
theorem dX11_pitsOf_53 : decode cX11_pitsOf 53 = .ok (.ireturn, 1) := by decide +kernel
theorem dX11_work_0 : decode cX11_work 0 = .ok (.iload_n 1, 1) := by decide +kernel
theorem dX11_work_1 : decode cX11_work 1 = .ok (.invokestatic 150, 3) := by decide +kernel
theorem dX11_work_4 : decode cX11_work 4 = .ok (.ifCond .ne 5, 3) := by decide +kernel
theorem dX11_work_7 : decode cX11_work 7 = .ok (.iconst (-1), 1) := by decide +kernel
theorem dX11_work_8 : decode cX11_work 8 = .ok (.ireturn, 1) := by decide +kernel
theorem dX11_work_9 : decode cX11_work 9 = .ok (.iload_n 2, 1) := by decide +kernel
theorem dX11_work_10 : decode cX11_work 10 = .ok (.i2l, 1) := by decide +kernel
theorem dX11_work_11 : decode cX11_work 11 = .ok (.lconst 0, 1) := by decide +kernel
theorem dX11_work_12 : decode cX11_work 12 = .ok (.ldc2_w 183, 3) := by decide +kernel
theorem dX11_work_15 : decode cX11_work 15 = .ok (.invokestatic 140, 3) := by decide +kernel
theorem dX11_work_18 : decode cX11_work 18 = .ok (.ifCond .ne 6, 3) := by decide +kernel
theorem dX11_work_21 : decode cX11_work 21 = .ok (.bipush (-2), 2) := by decide +kernel
theorem dX11_work_23 : decode cX11_work 23 = .ok (.ireturn, 1) := by decide +kernel
theorem dX11_work_24 : decode cX11_work 24 = .ok (.iconst 0, 1) := by decide +kernel
theorem dX11_work_25 : decode cX11_work 25 = .ok (.istore_n 3, 1) := by decide +kernel
theorem dX11_work_26 : decode cX11_work 26 = .ok (.iconst 0, 1) := by decide +kernel
theorem dX11_work_27 : decode cX11_work 27 = .ok (.istore 4, 2) := by decide +kernel
theorem dX11_work_29 : decode cX11_work 29 = .ok (.iconst 0, 1) := by decide +kernel
theorem dX11_work_30 : decode cX11_work 30 = .ok (.istore 5, 2) := by decide +kernel
theorem dX11_work_32 : decode cX11_work 32 = .ok (.iload 5, 2) := by decide +kernel
theorem dX11_work_34 : decode cX11_work 34 = .ok (.aload_n 0, 1) := by decide +kernel
theorem dX11_work_35 : decode cX11_work 35 = .ok (.getfield 166, 3) := by decide +kernel
theorem dX11_work_38 : decode cX11_work 38 = .ok (.if_icmp .ge 70, 3) := by decide +kernel
theorem dX11_work_41 : decode cX11_work 41 = .ok (.iload_n 3, 1) := by decide +kernel
theorem dX11_work_42 : decode cX11_work 42 = .ok (.aload_n 0, 1) := by decide +kernel
theorem dX11_work_43 : decode cX11_work 43 = .ok (.getfield 47, 3) := by decide +kernel
theorem dX11_work_46 : decode cX11_work 46 = .ok (.iload 5, 2) := by decide +kernel
theorem dX11_work_48 : decode cX11_work 48 = .ok (.iaload, 1) := by decide +kernel
theorem dX11_work_49 : decode cX11_work 49 = .ok (.iload_n 1, 1) := by decide +kernel
theorem dX11_work_50 : decode cX11_work 50 = .ok (.if_icmp .ne 17, 3) := by decide +kernel
theorem dX11_work_53 : decode cX11_work 53 = .ok (.aload_n 0, 1) := by decide +kernel
theorem dX11_work_54 : decode cX11_work 54 = .ok (.getfield 50, 3) := by decide +kernel
theorem dX11_work_57 : decode cX11_work 57 = .ok (.iload 5, 2) := by decide +kernel
theorem dX11_work_59 : decode cX11_work 59 = .ok (.iaload, 1) := by decide +kernel
theorem dX11_work_60 : decode cX11_work 60 = .ok (.ifCond .lt 7, 3) := by decide +kernel
theorem dX11_work_63 : decode cX11_work 63 = .ok (.iconst 1, 1) := by decide +kernel
theorem dX11_work_64 : decode cX11_work 64 = .ok (.goto 4, 3) := by decide +kernel
theorem dX11_work_67 : decode cX11_work 67 = .ok (.iconst 0, 1) := by decide +kernel
theorem dX11_work_68 : decode cX11_work 68 = .ok (.iadd, 1) := by decide +kernel
theorem dX11_work_69 : decode cX11_work 69 = .ok (.istore_n 3, 1) := by decide +kernel
theorem dX11_work_70 : decode cX11_work 70 = .ok (.iload 4, 2) := by decide +kernel
theorem dX11_work_72 : decode cX11_work 72 = .ok (.aload_n 0, 1) := by decide +kernel
theorem dX11_work_73 : decode cX11_work 73 = .ok (.getfield 47, 3) := by decide +kernel
theorem dX11_work_76 : decode cX11_work 76 = .ok (.iload 5, 2) := by decide +kernel
theorem dX11_work_78 : decode cX11_work 78 = .ok (.iaload, 1) := by decide +kernel
theorem dX11_work_79 : decode cX11_work 79 = .ok (.iload_n 1, 1) := by decide +kernel
theorem dX11_work_80 : decode cX11_work 80 = .ok (.if_icmp .ne 18, 3) := by decide +kernel
theorem dX11_work_83 : decode cX11_work 83 = .ok (.aload_n 0, 1) := by decide +kernel
theorem dX11_work_84 : decode cX11_work 84 = .ok (.getfield 56, 3) := by decide +kernel
theorem dX11_work_87 : decode cX11_work 87 = .ok (.iload 5, 2) := by decide +kernel
theorem dX11_work_89 : decode cX11_work 89 = .ok (.iaload, 1) := by decide +kernel
theorem dX11_work_90 : decode cX11_work 90 = .ok (.iconst 4, 1) := by decide +kernel
theorem dX11_work_91 : decode cX11_work 91 = .ok (.if_icmp .eq 7, 3) := by decide +kernel
theorem dX11_work_94 : decode cX11_work 94 = .ok (.iconst 1, 1) := by decide +kernel
theorem dX11_work_95 : decode cX11_work 95 = .ok (.goto 4, 3) := by decide +kernel
theorem dX11_work_98 : decode cX11_work 98 = .ok (.iconst 0, 1) := by decide +kernel
theorem dX11_work_99 : decode cX11_work 99 = .ok (.iadd, 1) := by decide +kernel
theorem dX11_work_100 : decode cX11_work 100 = .ok (.istore 4, 2) := by decide +kernel
theorem dX11_work_102 : decode cX11_work 102 = .ok (.iinc 5 1, 3) := by decide +kernel
theorem dX11_work_105 : decode cX11_work 105 = .ok (.goto (-73), 3) := by decide +kernel
theorem dX11_work_108 : decode cX11_work 108 = .ok (.iload_n 2, 1) := by decide +kernel
theorem dX11_work_109 : decode cX11_work 109 = .ok (.ifCond .ne 7, 3) := by decide +kernel
theorem dX11_work_112 : decode cX11_work 112 = .ok (.iload_n 3, 1) := by decide +kernel
theorem dX11_work_113 : decode cX11_work 113 = .ok (.goto 18, 3) := by decide +kernel
theorem dX11_work_116 : decode cX11_work 116 = .ok (.iload_n 2, 1) := by decide +kernel
theorem dX11_work_117 : decode cX11_work 117 = .ok (.iconst 1, 1) := by decide +kernel
theorem dX11_work_118 : decode cX11_work 118 = .ok (.if_icmp .ne 8, 3) := by decide +kernel
theorem dX11_work_121 : decode cX11_work 121 = .ok (.iload 4, 2) := by decide +kernel
theorem dX11_work_123 : decode cX11_work 123 = .ok (.goto 8, 3) := by decide +kernel
theorem dX11_work_126 : decode cX11_work 126 = .ok (.aload_n 0, 1) := by decide +kernel
theorem dX11_work_127 : decode cX11_work 127 = .ok (.iload_n 1, 1) := by decide +kernel
theorem dX11_work_128 : decode cX11_work 128 = .ok (.invokevirtual 358, 3) := by decide +kernel
theorem dX11_work_131 : decode cX11_work 131 = .ok (.ireturn, 1) := by decide +kernel
theorem dX11_lone_0 : decode cX11_lone 0 = .ok (.iconst 0, 1) := by decide +kernel
theorem dX11_lone_1 : decode cX11_lone 1 = .ok (.istore_n 1, 1) := by decide +kernel
theorem dX11_lone_2 : decode cX11_lone 2 = .ok (.iconst 0, 1) := by decide +kernel
theorem dX11_lone_3 : decode cX11_lone 3 = .ok (.istore_n 2, 1) := by decide +kernel
theorem dX11_lone_4 : decode cX11_lone 4 = .ok (.iload_n 2, 1) := by decide +kernel
theorem dX11_lone_5 : decode cX11_lone 5 = .ok (.bipush 6, 2) := by decide +kernel
theorem dX11_lone_7 : decode cX11_lone 7 = .ok (.if_icmp .ge 31, 3) := by decide +kernel
theorem dX11_lone_10 : decode cX11_lone 10 = .ok (.iload_n 1, 1) := by decide +kernel
theorem dX11_lone_11 : decode cX11_lone 11 = .ok (.aload_n 0, 1) := by decide +kernel
theorem dX11_lone_12 : decode cX11_lone 12 = .ok (.iload_n 2, 1) := by decide +kernel
theorem dX11_lone_13 : decode cX11_lone 13 = .ok (.invokevirtual 358, 3) := by decide +kernel
theorem dX11_lone_16 : decode cX11_lone 16 = .ok (.invokestatic 361, 3) := by decide +kernel
theorem dX11_lone_19 : decode cX11_lone 19 = .ok (.iconst 1, 1) := by decide +kernel
theorem dX11_lone_20 : decode cX11_lone 20 = .ok (.if_icmp .ne 9, 3) := by decide +kernel
theorem dX11_lone_23 : decode cX11_lone 23 = .ok (.iconst 1, 1) := by decide +kernel
theorem dX11_lone_24 : decode cX11_lone 24 = .ok (.iload_n 2, 1) := by decide +kernel
theorem dX11_lone_25 : decode cX11_lone 25 = .ok (.ishl, 1) := by decide +kernel
theorem dX11_lone_26 : decode cX11_lone 26 = .ok (.goto 4, 3) := by decide +kernel
theorem dX11_lone_29 : decode cX11_lone 29 = .ok (.iconst 0, 1) := by decide +kernel
theorem dX11_lone_30 : decode cX11_lone 30 = .ok (.ior, 1) := by decide +kernel
theorem dX11_lone_31 : decode cX11_lone 31 = .ok (.istore_n 1, 1) := by decide +kernel
theorem dX11_lone_32 : decode cX11_lone 32 = .ok (.iinc 2 1, 3) := by decide +kernel
theorem dX11_lone_35 : decode cX11_lone 35 = .ok (.goto (-31), 3) := by decide +kernel
theorem dX11_lone_38 : decode cX11_lone 38 = .ok (.iload_n 1, 1) := by decide +kernel
theorem dX11_lone_39 : decode cX11_lone 39 = .ok (.ireturn, 1) := by decide +kernel
theorem dX11_told_0 : decode cX11_told 0 = .ok (.iload_n 1, 1) := by decide +kernel
theorem dX11_told_1 : decode cX11_told 1 = .ok (.i2l, 1) := by decide +kernel
theorem dX11_told_2 : decode cX11_told 2 = .ok (.ldc2_w 364, 3) := by decide +kernel
theorem dX11_told_5 : decode cX11_told 5 = .ok (.ldc2_w 366, 3) := by decide +kernel
theorem dX11_told_8 : decode cX11_told 8 = .ok (.invokestatic 140, 3) := by decide +kernel
theorem dX11_told_11 : decode cX11_told 11 = .ok (.ifCond .eq 13, 3) := by decide +kernel
theorem dX11_told_14 : decode cX11_told 14 = .ok (.aload_n 0, 1) := by decide +kernel
theorem dX11_told_15 : decode cX11_told 15 = .ok (.getfield 59, 3) := by decide +kernel
theorem dX11_told_18 : decode cX11_told 18 = .ok (.iload_n 1, 1) := by decide +kernel
theorem dX11_told_19 : decode cX11_told 19 = .ok (.bipush 20, 2) := by decide +kernel
theorem dX11_told_21 : decode cX11_told 21 = .ok (.isub, 1) := by decide +kernel
theorem dX11_told_22 : decode cX11_told 22 = .ok (.iaload, 1) := by decide +kernel
theorem dX11_told_23 : decode cX11_told 23 = .ok (.ireturn, 1) := by decide +kernel
theorem dX11_told_24 : decode cX11_told 24 = .ok (.iconst 0, 1) := by decide +kernel
theorem dX11_told_25 : decode cX11_told 25 = .ok (.istore_n 2, 1) := by decide +kernel
theorem dX11_told_26 : decode cX11_told 26 = .ok (.iload_n 1, 1) := by decide +kernel
theorem dX11_told_27 : decode cX11_told 27 = .ok (.i2l, 1) := by decide +kernel
theorem dX11_told_28 : decode cX11_told 28 = .ok (.ldc2_w 175, 3) := by decide +kernel
theorem dX11_told_31 : decode cX11_told 31 = .ok (.ldc2_w 179, 3) := by decide +kernel
theorem dX11_told_34 : decode cX11_told 34 = .ok (.invokestatic 140, 3) := by decide +kernel
theorem dX11_told_37 : decode cX11_told 37 = .ok (.ifCond .eq 42, 3) := by decide +kernel
theorem dX11_told_40 : decode cX11_told 40 = .ok (.iconst 0, 1) := by decide +kernel
theorem dX11_told_41 : decode cX11_told 41 = .ok (.istore_n 3, 1) := by decide +kernel
theorem dX11_told_42 : decode cX11_told 42 = .ok (.iload_n 3, 1) := by decide +kernel
theorem dX11_told_43 : decode cX11_told 43 = .ok (.aload_n 0, 1) := by decide +kernel
theorem dX11_told_44 : decode cX11_told 44 = .ok (.getfield 166, 3) := by decide +kernel
theorem dX11_told_47 : decode cX11_told 47 = .ok (.if_icmp .ge 30, 3) := by decide +kernel
theorem dX11_told_50 : decode cX11_told 50 = .ok (.iload_n 2, 1) := by decide +kernel
theorem dX11_told_51 : decode cX11_told 51 = .ok (.aload_n 0, 1) := by decide +kernel
theorem dX11_told_52 : decode cX11_told 52 = .ok (.getfield 56, 3) := by decide +kernel
theorem dX11_told_55 : decode cX11_told 55 = .ok (.iload_n 3, 1) := by decide +kernel
theorem dX11_told_56 : decode cX11_told 56 = .ok (.iaload, 1) := by decide +kernel
theorem dX11_told_57 : decode cX11_told 57 = .ok (.iload_n 1, 1) := by decide +kernel
theorem dX11_told_58 : decode cX11_told 58 = .ok (.bipush 10, 2) := by decide +kernel
theorem dX11_told_60 : decode cX11_told 60 = .ok (.isub, 1) := by decide +kernel
theorem dX11_told_61 : decode cX11_told 61 = .ok (.if_icmp .ne 7, 3) := by decide +kernel
theorem dX11_told_64 : decode cX11_told 64 = .ok (.iconst 1, 1) := by decide +kernel
theorem dX11_told_65 : decode cX11_told 65 = .ok (.goto 4, 3) := by decide +kernel
theorem dX11_told_68 : decode cX11_told 68 = .ok (.iconst 0, 1) := by decide +kernel
theorem dX11_told_69 : decode cX11_told 69 = .ok (.iadd, 1) := by decide +kernel
theorem dX11_told_70 : decode cX11_told 70 = .ok (.istore_n 2, 1) := by decide +kernel
theorem dX11_told_71 : decode cX11_told 71 = .ok (.iinc 3 1, 3) := by decide +kernel
theorem dX11_told_74 : decode cX11_told 74 = .ok (.goto (-32), 3) := by decide +kernel
theorem dX11_told_77 : decode cX11_told 77 = .ok (.iload_n 2, 1) := by decide +kernel
theorem dX11_told_78 : decode cX11_told 78 = .ok (.ireturn, 1) := by decide +kernel
theorem dX11_told_79 : decode cX11_told 79 = .ok (.iconst 0, 1) := by decide +kernel
theorem dX11_told_80 : decode cX11_told 80 = .ok (.istore_n 3, 1) := by decide +kernel
theorem dX11_told_81 : decode cX11_told 81 = .ok (.iload_n 3, 1) := by decide +kernel
theorem dX11_told_82 : decode cX11_told 82 = .ok (.aload_n 0, 1) := by decide +kernel
theorem dX11_told_83 : decode cX11_told 83 = .ok (.getfield 144, 3) := by decide +kernel
theorem dX11_told_86 : decode cX11_told 86 = .ok (.if_icmp .ge 28, 3) := by decide +kernel
theorem dX11_told_89 : decode cX11_told 89 = .ok (.iload_n 2, 1) := by decide +kernel
theorem dX11_told_90 : decode cX11_told 90 = .ok (.aload_n 0, 1) := by decide +kernel
theorem dX11_told_91 : decode cX11_told 91 = .ok (.getfield 31, 3) := by decide +kernel
theorem dX11_told_94 : decode cX11_told 94 = .ok (.iload_n 3, 1) := by decide +kernel
theorem dX11_told_95 : decode cX11_told 95 = .ok (.baload, 1) := by decide +kernel
theorem dX11_told_96 : decode cX11_told 96 = .ok (.ifCond .eq 9, 3) := by decide +kernel
theorem dX11_told_99 : decode cX11_told 99 = .ok (.iconst 1, 1) := by decide +kernel
theorem dX11_told_100 : decode cX11_told 100 = .ok (.iload_n 3, 1) := by decide +kernel
theorem dX11_told_101 : decode cX11_told 101 = .ok (.ishl, 1) := by decide +kernel
theorem dX11_told_102 : decode cX11_told 102 = .ok (.goto 4, 3) := by decide +kernel
theorem dX11_told_105 : decode cX11_told 105 = .ok (.iconst 0, 1) := by decide +kernel
theorem dX11_told_106 : decode cX11_told 106 = .ok (.ior, 1) := by decide +kernel
theorem dX11_told_107 : decode cX11_told 107 = .ok (.istore_n 2, 1) := by decide +kernel
theorem dX11_told_108 : decode cX11_told 108 = .ok (.iinc 3 1, 3) := by decide +kernel
theorem dX11_told_111 : decode cX11_told 111 = .ok (.goto (-30), 3) := by decide +kernel
theorem dX11_told_114 : decode cX11_told 114 = .ok (.iload_n 1, 1) := by decide +kernel
theorem dX11_told_115 : decode cX11_told 115 = .ok (.tableswitch 93 0 8 #[49, 54, 59, 66, 71, 76, 81, 86, 91], 49) := by decide +kernel
theorem dX11_told_164 : decode cX11_told 164 = .ok (.aload_n 0, 1) := by decide +kernel
theorem dX11_told_165 : decode cX11_told 165 = .ok (.getfield 144, 3) := by decide +kernel
theorem dX11_told_168 : decode cX11_told 168 = .ok (.ireturn, 1) := by decide +kernel
theorem dX11_told_169 : decode cX11_told 169 = .ok (.aload_n 0, 1) := by decide +kernel
theorem dX11_told_170 : decode cX11_told 170 = .ok (.getfield 166, 3) := by decide +kernel
theorem dX11_told_173 : decode cX11_told 173 = .ok (.ireturn, 1) := by decide +kernel
theorem dX11_told_174 : decode cX11_told 174 = .ok (.aload_n 0, 1) := by decide +kernel
theorem dX11_told_175 : decode cX11_told 175 = .ok (.getfield 65, 3) := by decide +kernel
theorem dX11_told_178 : decode cX11_told 178 = .ok (.iconst 3, 1) := by decide +kernel
theorem dX11_told_179 : decode cX11_told 179 = .ok (.iaload, 1) := by decide +kernel
theorem dX11_told_180 : decode cX11_told 180 = .ok (.ireturn, 1) := by decide +kernel
theorem dX11_told_181 : decode cX11_told 181 = .ok (.aload_n 0, 1) := by decide +kernel
theorem dX11_told_182 : decode cX11_told 182 = .ok (.getfield 293, 3) := by decide +kernel
theorem dX11_told_185 : decode cX11_told 185 = .ok (.ireturn, 1) := by decide +kernel
theorem dX11_told_186 : decode cX11_told 186 = .ok (.aload_n 0, 1) := by decide +kernel
theorem dX11_told_187 : decode cX11_told 187 = .ok (.getfield 343, 3) := by decide +kernel
theorem dX11_told_190 : decode cX11_told 190 = .ok (.ireturn, 1) := by decide +kernel
theorem dX11_told_191 : decode cX11_told 191 = .ok (.aload_n 0, 1) := by decide +kernel
theorem dX11_told_192 : decode cX11_told 192 = .ok (.getfield 314, 3) := by decide +kernel
theorem dX11_told_195 : decode cX11_told 195 = .ok (.ireturn, 1) := by decide +kernel
theorem dX11_told_196 : decode cX11_told 196 = .ok (.aload_n 0, 1) := by decide +kernel
theorem dX11_told_197 : decode cX11_told 197 = .ok (.getfield 300, 3) := by decide +kernel
theorem dX11_told_200 : decode cX11_told 200 = .ok (.ireturn, 1) := by decide +kernel
theorem dX11_told_201 : decode cX11_told 201 = .ok (.aload_n 0, 1) := by decide +kernel
theorem dX11_told_202 : decode cX11_told 202 = .ok (.getfield 303, 3) := by decide +kernel
theorem dX11_told_205 : decode cX11_told 205 = .ok (.ireturn, 1) := by decide +kernel
theorem dX11_told_206 : decode cX11_told 206 = .ok (.iload_n 2, 1) := by decide +kernel
theorem dX11_told_207 : decode cX11_told 207 = .ok (.ireturn, 1) := by decide +kernel
theorem dX11_told_208 : decode cX11_told 208 = .ok (.bipush (-2), 2) := by decide +kernel
theorem dX11_told_210 : decode cX11_told 210 = .ok (.ireturn, 1) := by decide +kernel
theorem dJ6_bitCount_0f7a4_0 : decode cJ6_bitCount_0f7a4 0 = .ok (.iload_n 0, 1) := by decide +kernel
theorem dJ6_bitCount_0f7a4_1 : decode cJ6_bitCount_0f7a4 1 = .ok (.iload_n 0, 1) := by decide +kernel
theorem dJ6_bitCount_0f7a4_2 : decode cJ6_bitCount_0f7a4 2 = .ok (.iconst 1, 1) := by decide +kernel
theorem dJ6_bitCount_0f7a4_3 : decode cJ6_bitCount_0f7a4 3 = .ok (.iushr, 1) := by decide +kernel
theorem dJ6_bitCount_0f7a4_4 : decode cJ6_bitCount_0f7a4 4 = .ok (.ldc_w 265, 3) := by decide +kernel
theorem dJ6_bitCount_0f7a4_7 : decode cJ6_bitCount_0f7a4 7 = .ok (.iand, 1) := by decide +kernel
theorem dJ6_bitCount_0f7a4_8 : decode cJ6_bitCount_0f7a4 8 = .ok (.isub, 1) := by decide +kernel
theorem dJ6_bitCount_0f7a4_9 : decode cJ6_bitCount_0f7a4 9 = .ok (.istore_n 0, 1) := by decide +kernel
theorem dJ6_bitCount_0f7a4_10 : decode cJ6_bitCount_0f7a4 10 = .ok (.iload_n 0, 1) := by decide +kernel
theorem dJ6_bitCount_0f7a4_11 : decode cJ6_bitCount_0f7a4 11 = .ok (.ldc_w 266, 3) := by decide +kernel
theorem dJ6_bitCount_0f7a4_14 : decode cJ6_bitCount_0f7a4 14 = .ok (.iand, 1) := by decide +kernel
theorem dJ6_bitCount_0f7a4_15 : decode cJ6_bitCount_0f7a4 15 = .ok (.iload_n 0, 1) := by decide +kernel
theorem dJ6_bitCount_0f7a4_16 : decode cJ6_bitCount_0f7a4 16 = .ok (.iconst 2, 1) := by decide +kernel
theorem dJ6_bitCount_0f7a4_17 : decode cJ6_bitCount_0f7a4 17 = .ok (.iushr, 1) := by decide +kernel
theorem dJ6_bitCount_0f7a4_18 : decode cJ6_bitCount_0f7a4 18 = .ok (.ldc_w 266, 3) := by decide +kernel
theorem dJ6_bitCount_0f7a4_21 : decode cJ6_bitCount_0f7a4 21 = .ok (.iand, 1) := by decide +kernel
theorem dJ6_bitCount_0f7a4_22 : decode cJ6_bitCount_0f7a4 22 = .ok (.iadd, 1) := by decide +kernel
theorem dJ6_bitCount_0f7a4_23 : decode cJ6_bitCount_0f7a4 23 = .ok (.istore_n 0, 1) := by decide +kernel
theorem dJ6_bitCount_0f7a4_24 : decode cJ6_bitCount_0f7a4 24 = .ok (.iload_n 0, 1) := by decide +kernel
theorem dJ6_bitCount_0f7a4_25 : decode cJ6_bitCount_0f7a4 25 = .ok (.iload_n 0, 1) := by decide +kernel
theorem dJ6_bitCount_0f7a4_26 : decode cJ6_bitCount_0f7a4 26 = .ok (.iconst 4, 1) := by decide +kernel
theorem dJ6_bitCount_0f7a4_27 : decode cJ6_bitCount_0f7a4 27 = .ok (.iushr, 1) := by decide +kernel
theorem dJ6_bitCount_0f7a4_28 : decode cJ6_bitCount_0f7a4 28 = .ok (.iadd, 1) := by decide +kernel
theorem dJ6_bitCount_0f7a4_29 : decode cJ6_bitCount_0f7a4 29 = .ok (.ldc_w 267, 3) := by decide +kernel
theorem dJ6_bitCount_0f7a4_32 : decode cJ6_bitCount_0f7a4 32 = .ok (.iand, 1) := by decide +kernel
theorem dJ6_bitCount_0f7a4_33 : decode cJ6_bitCount_0f7a4 33 = .ok (.istore_n 0, 1) := by decide +kernel
theorem dJ6_bitCount_0f7a4_34 : decode cJ6_bitCount_0f7a4 34 = .ok (.iload_n 0, 1) := by decide +kernel
theorem dJ6_bitCount_0f7a4_35 : decode cJ6_bitCount_0f7a4 35 = .ok (.iload_n 0, 1) := by decide +kernel
theorem dJ6_bitCount_0f7a4_36 : decode cJ6_bitCount_0f7a4 36 = .ok (.bipush 8, 2) := by decide +kernel
theorem dJ6_bitCount_0f7a4_38 : decode cJ6_bitCount_0f7a4 38 = .ok (.iushr, 1) := by decide +kernel
theorem dJ6_bitCount_0f7a4_39 : decode cJ6_bitCount_0f7a4 39 = .ok (.iadd, 1) := by decide +kernel
theorem dJ6_bitCount_0f7a4_40 : decode cJ6_bitCount_0f7a4 40 = .ok (.istore_n 0, 1) := by decide +kernel
theorem dJ6_bitCount_0f7a4_41 : decode cJ6_bitCount_0f7a4 41 = .ok (.iload_n 0, 1) := by decide +kernel
theorem dJ6_bitCount_0f7a4_42 : decode cJ6_bitCount_0f7a4 42 = .ok (.iload_n 0, 1) := by decide +kernel
theorem dJ6_bitCount_0f7a4_43 : decode cJ6_bitCount_0f7a4 43 = .ok (.bipush 16, 2) := by decide +kernel
theorem dJ6_bitCount_0f7a4_45 : decode cJ6_bitCount_0f7a4 45 = .ok (.iushr, 1) := by decide +kernel
theorem dJ6_bitCount_0f7a4_46 : decode cJ6_bitCount_0f7a4 46 = .ok (.iadd, 1) := by decide +kernel
theorem dJ6_bitCount_0f7a4_47 : decode cJ6_bitCount_0f7a4 47 = .ok (.istore_n 0, 1) := by decide +kernel
theorem dJ6_bitCount_0f7a4_48 : decode cJ6_bitCount_0f7a4 48 = .ok (.iload_n 0, 1) := by decide +kernel
theorem dJ6_bitCount_0f7a4_49 : decode cJ6_bitCount_0f7a4 49 = .ok (.bipush 63, 2) := by decide +kernel
theorem dJ6_bitCount_0f7a4_51 : decode cJ6_bitCount_0f7a4 51 = .ok (.iand, 1) := by decide +kernel
theorem dJ6_bitCount_0f7a4_52 : decode cJ6_bitCount_0f7a4 52 = .ok (.ireturn, 1) := by decide +kernel
theorem dJ9_abs_0f7a4_0 : decode cJ9_abs_0f7a4 0 = .ok (.iload_n 0, 1) := by decide +kernel
theorem dJ9_abs_0f7a4_1 : decode cJ9_abs_0f7a4 1 = .ok (.ifCond .ge 8, 3) := by decide +kernel
theorem dJ9_abs_0f7a4_4 : decode cJ9_abs_0f7a4 4 = .ok (.iload_n 0, 1) := by decide +kernel
theorem dJ9_abs_0f7a4_5 : decode cJ9_abs_0f7a4 5 = .ok (.ineg, 1) := by decide +kernel
theorem dJ9_abs_0f7a4_6 : decode cJ9_abs_0f7a4 6 = .ok (.goto 4, 3) := by decide +kernel
theorem dJ9_abs_0f7a4_9 : decode cJ9_abs_0f7a4 9 = .ok (.iload_n 0, 1) := by decide +kernel
theorem dJ9_abs_0f7a4_10 : decode cJ9_abs_0f7a4 10 = .ok (.ireturn, 1) := by decide +kernel
theorem dJ9_max_7cf53_0 : decode cJ9_max_7cf53 0 = .ok (.iload_n 0, 1) := by decide +kernel
theorem dJ9_max_7cf53_1 : decode cJ9_max_7cf53 1 = .ok (.iload_n 1, 1) := by decide +kernel
theorem dJ9_max_7cf53_2 : decode cJ9_max_7cf53 2 = .ok (.if_icmp .lt 7, 3) := by decide +kernel
theorem dJ9_max_7cf53_5 : decode cJ9_max_7cf53 5 = .ok (.iload_n 0, 1) := by decide +kernel
theorem dJ9_max_7cf53_6 : decode cJ9_max_7cf53 6 = .ok (.goto 4, 3) := by decide +kernel
theorem dJ9_max_7cf53_9 : decode cJ9_max_7cf53 9 = .ok (.iload_n 1, 1) := by decide +kernel
theorem dJ9_max_7cf53_10 : decode cJ9_max_7cf53 10 = .ok (.ireturn, 1) := by decide +kernel
theorem dJ9_max_f86c9_0 : decode cJ9_max_f86c9 0 = .ok (.lload_n 0, 1) := by decide +kernel
theorem dJ9_max_f86c9_1 : decode cJ9_max_f86c9 1 = .ok (.lload_n 2, 1) := by decide +kernel
theorem dJ9_max_f86c9_2 : decode cJ9_max_f86c9 2 = .ok (.lcmp, 1) := by decide +kernel
theorem dJ9_max_f86c9_3 : decode cJ9_max_f86c9 3 = .ok (.ifCond .lt 7, 3) := by decide +kernel
theorem dJ9_max_f86c9_6 : decode cJ9_max_f86c9 6 = .ok (.lload_n 0, 1) := by decide +kernel
theorem dJ9_max_f86c9_7 : decode cJ9_max_f86c9 7 = .ok (.goto 4, 3) := by decide +kernel
theorem dJ9_max_f86c9_10 : decode cJ9_max_f86c9 10 = .ok (.lload_n 2, 1) := by decide +kernel
theorem dJ9_max_f86c9_11 : decode cJ9_max_f86c9 11 = .ok (.lreturn, 1) := by decide +kernel
theorem dJ9_min_7cf53_0 : decode cJ9_min_7cf53 0 = .ok (.iload_n 0, 1) := by decide +kernel
theorem dJ9_min_7cf53_1 : decode cJ9_min_7cf53 1 = .ok (.iload_n 1, 1) := by decide +kernel
theorem dJ9_min_7cf53_2 : decode cJ9_min_7cf53 2 = .ok (.if_icmp .gt 7, 3) := by decide +kernel
theorem dJ9_min_7cf53_5 : decode cJ9_min_7cf53 5 = .ok (.iload_n 0, 1) := by decide +kernel
theorem dJ9_min_7cf53_6 : decode cJ9_min_7cf53 6 = .ok (.goto 4, 3) := by decide +kernel
theorem dJ9_min_7cf53_9 : decode cJ9_min_7cf53 9 = .ok (.iload_n 1, 1) := by decide +kernel
theorem dJ9_min_7cf53_10 : decode cJ9_min_7cf53 10 = .ok (.ireturn, 1) := by decide +kernel
theorem dJ9_min_f86c9_0 : decode cJ9_min_f86c9 0 = .ok (.lload_n 0, 1) := by decide +kernel
theorem dJ9_min_f86c9_1 : decode cJ9_min_f86c9 1 = .ok (.lload_n 2, 1) := by decide +kernel
theorem dJ9_min_f86c9_2 : decode cJ9_min_f86c9 2 = .ok (.lcmp, 1) := by decide +kernel
theorem dJ9_min_f86c9_3 : decode cJ9_min_f86c9 3 = .ok (.ifCond .gt 7, 3) := by decide +kernel
theorem dJ9_min_f86c9_6 : decode cJ9_min_f86c9 6 = .ok (.lload_n 0, 1) := by decide +kernel
theorem dJ9_min_f86c9_7 : decode cJ9_min_f86c9 7 = .ok (.goto 4, 3) := by decide +kernel
theorem dJ9_min_f86c9_10 : decode cJ9_min_f86c9 10 = .ok (.lload_n 2, 1) := by decide +kernel
theorem dJ9_min_f86c9_11 : decode cJ9_min_f86c9 11 = .ok (.lreturn, 1) := by decide +kernel
theorem dL_law_0 : decode cL_law 0 = .ok (.new 7, 3) := by decide +kernel
theorem dL_law_3 : decode cL_law 3 = .ok (.dup, 1) := by decide +kernel
theorem dL_law_4 : decode cL_law 4 = .ok (.invokespecial 9, 3) := by decide +kernel
theorem dL_law_7 : decode cL_law 7 = .ok (.astore_n 1, 1) := by decide +kernel
theorem dL_law_8 : decode cL_law 8 = .ok (.new 10, 3) := by decide +kernel
theorem dL_law_11 : decode cL_law 11 = .ok (.dup, 1) := by decide +kernel
theorem dL_law_12 : decode cL_law 12 = .ok (.invokespecial 12, 3) := by decide +kernel
theorem dL_law_15 : decode cL_law 15 = .ok (.astore_n 2, 1) := by decide +kernel
theorem dL_law_16 : decode cL_law 16 = .ok (.iconst 0, 1) := by decide +kernel
theorem dL_law_17 : decode cL_law 17 = .ok (.istore_n 3, 1) := by decide +kernel
theorem dL_law_18 : decode cL_law 18 = .ok (.iload_n 3, 1) := by decide +kernel
theorem dL_law_19 : decode cL_law 19 = .ok (.aload_n 0, 1) := by decide +kernel
theorem dL_law_20 : decode cL_law 20 = .ok (.arraylength, 1) := by decide +kernel
theorem dL_law_21 : decode cL_law 21 = .ok (.bipush 7, 2) := by decide +kernel
theorem dL_law_23 : decode cL_law 23 = .ok (.isub, 1) := by decide +kernel
theorem dL_law_24 : decode cL_law 24 = .ok (.if_icmp .gt 1228, 3) := by decide +kernel
theorem dL_law_27 : decode cL_law 27 = .ok (.aload_n 0, 1) := by decide +kernel
theorem dL_law_28 : decode cL_law 28 = .ok (.iload_n 3, 1) := by decide +kernel
theorem dL_law_29 : decode cL_law 29 = .ok (.iaload, 1) := by decide +kernel
theorem dL_law_30 : decode cL_law 30 = .ok (.bipush 31, 2) := by decide +kernel
theorem dL_law_32 : decode cL_law 32 = .ok (.iand, 1) := by decide +kernel
theorem dL_law_33 : decode cL_law 33 = .ok (.tableswitch 1213 0 31 #[143, 186, 249, 282, 373, 406, 429, 472, 505, 518, 541, 554, 567, 590, 623, 656, 679, 712, 761, 804, 827, 860, 903, 936, 959, 992, 1035, 1088, 1111, 1144, 1177, 1190], 143) := by decide +kernel
theorem dL_law_176 : decode cL_law 176 = .ok (.aload_n 1, 1) := by decide +kernel
theorem dL_law_177 : decode cL_law 177 = .ok (.aload_n 0, 1) := by decide +kernel
theorem dL_law_178 : decode cL_law 178 = .ok (.iload_n 3, 1) := by decide +kernel
theorem dL_law_179 : decode cL_law 179 = .ok (.iconst 1, 1) := by decide +kernel
theorem dL_law_180 : decode cL_law 180 = .ok (.iadd, 1) := by decide +kernel
theorem dL_law_181 : decode cL_law 181 = .ok (.iaload, 1) := by decide +kernel
theorem dL_law_182 : decode cL_law 182 = .ok (.aload_n 0, 1) := by decide +kernel
theorem dL_law_183 : decode cL_law 183 = .ok (.iload_n 3, 1) := by decide +kernel
theorem dL_law_184 : decode cL_law 184 = .ok (.iconst 2, 1) := by decide +kernel
theorem dL_law_185 : decode cL_law 185 = .ok (.iadd, 1) := by decide +kernel
theorem dL_law_186 : decode cL_law 186 = .ok (.iaload, 1) := by decide +kernel
theorem dL_law_187 : decode cL_law 187 = .ok (.aload_n 0, 1) := by decide +kernel
theorem dL_law_188 : decode cL_law 188 = .ok (.iload_n 3, 1) := by decide +kernel
theorem dL_law_189 : decode cL_law 189 = .ok (.iconst 3, 1) := by decide +kernel
theorem dL_law_190 : decode cL_law 190 = .ok (.iadd, 1) := by decide +kernel
theorem dL_law_191 : decode cL_law 191 = .ok (.iaload, 1) := by decide +kernel
theorem dL_law_192 : decode cL_law 192 = .ok (.invokevirtual 13, 3) := by decide +kernel
theorem dL_law_195 : decode cL_law 195 = .ok (.aload_n 2, 1) := by decide +kernel
theorem dL_law_196 : decode cL_law 196 = .ok (.aload_n 0, 1) := by decide +kernel
theorem dL_law_197 : decode cL_law 197 = .ok (.iload_n 3, 1) := by decide +kernel
theorem dL_law_198 : decode cL_law 198 = .ok (.iconst 1, 1) := by decide +kernel
theorem dL_law_199 : decode cL_law 199 = .ok (.iadd, 1) := by decide +kernel
theorem dL_law_200 : decode cL_law 200 = .ok (.iaload, 1) := by decide +kernel
theorem dL_law_201 : decode cL_law 201 = .ok (.aload_n 0, 1) := by decide +kernel
theorem dL_law_202 : decode cL_law 202 = .ok (.iload_n 3, 1) := by decide +kernel
theorem dL_law_203 : decode cL_law 203 = .ok (.iconst 2, 1) := by decide +kernel
theorem dL_law_204 : decode cL_law 204 = .ok (.iadd, 1) := by decide +kernel
theorem dL_law_205 : decode cL_law 205 = .ok (.iaload, 1) := by decide +kernel
theorem dL_law_206 : decode cL_law 206 = .ok (.aload_n 0, 1) := by decide +kernel
theorem dL_law_207 : decode cL_law 207 = .ok (.iload_n 3, 1) := by decide +kernel
theorem dL_law_208 : decode cL_law 208 = .ok (.iconst 3, 1) := by decide +kernel
theorem dL_law_209 : decode cL_law 209 = .ok (.iadd, 1) := by decide +kernel
theorem dL_law_210 : decode cL_law 210 = .ok (.iaload, 1) := by decide +kernel
theorem dL_law_211 : decode cL_law 211 = .ok (.invokevirtual 17, 3) := by decide +kernel
theorem dL_law_214 : decode cL_law 214 = .ok (.if_icmp .eq 1032, 3) := by decide +kernel
theorem dL_law_217 : decode cL_law 217 = .ok (.iconst 0, 1) := by decide +kernel
theorem dL_law_218 : decode cL_law 218 = .ok (.ireturn, 1) := by decide +kernel
theorem dL_law_219 : decode cL_law 219 = .ok (.aload_n 1, 1) := by decide +kernel
theorem dL_law_220 : decode cL_law 220 = .ok (.aload_n 0, 1) := by decide +kernel
theorem dL_law_221 : decode cL_law 221 = .ok (.iload_n 3, 1) := by decide +kernel
theorem dL_law_222 : decode cL_law 222 = .ok (.iconst 1, 1) := by decide +kernel
theorem dL_law_223 : decode cL_law 223 = .ok (.iadd, 1) := by decide +kernel
theorem dL_law_224 : decode cL_law 224 = .ok (.iaload, 1) := by decide +kernel
theorem dL_law_225 : decode cL_law 225 = .ok (.aload_n 0, 1) := by decide +kernel
theorem dL_law_226 : decode cL_law 226 = .ok (.iload_n 3, 1) := by decide +kernel
theorem dL_law_227 : decode cL_law 227 = .ok (.iconst 2, 1) := by decide +kernel
theorem dL_law_228 : decode cL_law 228 = .ok (.iadd, 1) := by decide +kernel
theorem dL_law_229 : decode cL_law 229 = .ok (.iaload, 1) := by decide +kernel
theorem dL_law_230 : decode cL_law 230 = .ok (.aload_n 0, 1) := by decide +kernel
theorem dL_law_231 : decode cL_law 231 = .ok (.iload_n 3, 1) := by decide +kernel
theorem dL_law_232 : decode cL_law 232 = .ok (.iconst 3, 1) := by decide +kernel
theorem dL_law_233 : decode cL_law 233 = .ok (.iadd, 1) := by decide +kernel
theorem dL_law_234 : decode cL_law 234 = .ok (.iaload, 1) := by decide +kernel
theorem dL_law_235 : decode cL_law 235 = .ok (.aload_n 0, 1) := by decide +kernel
theorem dL_law_236 : decode cL_law 236 = .ok (.iload_n 3, 1) := by decide +kernel
theorem dL_law_237 : decode cL_law 237 = .ok (.iconst 4, 1) := by decide +kernel
theorem dL_law_238 : decode cL_law 238 = .ok (.iadd, 1) := by decide +kernel
theorem dL_law_239 : decode cL_law 239 = .ok (.iaload, 1) := by decide +kernel
theorem dL_law_240 : decode cL_law 240 = .ok (.aload_n 0, 1) := by decide +kernel
theorem dL_law_241 : decode cL_law 241 = .ok (.iload_n 3, 1) := by decide +kernel
theorem dL_law_242 : decode cL_law 242 = .ok (.iconst 5, 1) := by decide +kernel
theorem dL_law_243 : decode cL_law 243 = .ok (.iadd, 1) := by decide +kernel
theorem dL_law_244 : decode cL_law 244 = .ok (.iaload, 1) := by decide +kernel
theorem dL_law_245 : decode cL_law 245 = .ok (.invokevirtual 18, 3) := by decide +kernel
theorem dL_law_248 : decode cL_law 248 = .ok (.aload_n 2, 1) := by decide +kernel
theorem dL_law_249 : decode cL_law 249 = .ok (.aload_n 0, 1) := by decide +kernel
theorem dL_law_250 : decode cL_law 250 = .ok (.iload_n 3, 1) := by decide +kernel
theorem dL_law_251 : decode cL_law 251 = .ok (.iconst 1, 1) := by decide +kernel
theorem dL_law_252 : decode cL_law 252 = .ok (.iadd, 1) := by decide +kernel
theorem dL_law_253 : decode cL_law 253 = .ok (.iaload, 1) := by decide +kernel
theorem dL_law_254 : decode cL_law 254 = .ok (.aload_n 0, 1) := by decide +kernel
theorem dL_law_255 : decode cL_law 255 = .ok (.iload_n 3, 1) := by decide +kernel
theorem dL_law_256 : decode cL_law 256 = .ok (.iconst 2, 1) := by decide +kernel
theorem dL_law_257 : decode cL_law 257 = .ok (.iadd, 1) := by decide +kernel
theorem dL_law_258 : decode cL_law 258 = .ok (.iaload, 1) := by decide +kernel
theorem dL_law_259 : decode cL_law 259 = .ok (.aload_n 0, 1) := by decide +kernel
theorem dL_law_260 : decode cL_law 260 = .ok (.iload_n 3, 1) := by decide +kernel
theorem dL_law_261 : decode cL_law 261 = .ok (.iconst 3, 1) := by decide +kernel
theorem dL_law_262 : decode cL_law 262 = .ok (.iadd, 1) := by decide +kernel
theorem dL_law_263 : decode cL_law 263 = .ok (.iaload, 1) := by decide +kernel
theorem dL_law_264 : decode cL_law 264 = .ok (.aload_n 0, 1) := by decide +kernel
theorem dL_law_265 : decode cL_law 265 = .ok (.iload_n 3, 1) := by decide +kernel
theorem dL_law_266 : decode cL_law 266 = .ok (.iconst 4, 1) := by decide +kernel
theorem dL_law_267 : decode cL_law 267 = .ok (.iadd, 1) := by decide +kernel
theorem dL_law_268 : decode cL_law 268 = .ok (.iaload, 1) := by decide +kernel
theorem dL_law_269 : decode cL_law 269 = .ok (.aload_n 0, 1) := by decide +kernel
theorem dL_law_270 : decode cL_law 270 = .ok (.iload_n 3, 1) := by decide +kernel
theorem dL_law_271 : decode cL_law 271 = .ok (.iconst 5, 1) := by decide +kernel
theorem dL_law_272 : decode cL_law 272 = .ok (.iadd, 1) := by decide +kernel
theorem dL_law_273 : decode cL_law 273 = .ok (.iaload, 1) := by decide +kernel
theorem dL_law_274 : decode cL_law 274 = .ok (.invokevirtual 22, 3) := by decide +kernel
theorem dL_law_277 : decode cL_law 277 = .ok (.if_icmp .eq 969, 3) := by decide +kernel
theorem dL_law_280 : decode cL_law 280 = .ok (.iconst 0, 1) := by decide +kernel
theorem dL_law_281 : decode cL_law 281 = .ok (.ireturn, 1) := by decide +kernel
theorem dL_law_282 : decode cL_law 282 = .ok (.aload_n 1, 1) := by decide +kernel
theorem dL_law_283 : decode cL_law 283 = .ok (.aload_n 0, 1) := by decide +kernel
theorem dL_law_284 : decode cL_law 284 = .ok (.iload_n 3, 1) := by decide +kernel
theorem dL_law_285 : decode cL_law 285 = .ok (.iconst 1, 1) := by decide +kernel
theorem dL_law_286 : decode cL_law 286 = .ok (.iadd, 1) := by decide +kernel
theorem dL_law_287 : decode cL_law 287 = .ok (.iaload, 1) := by decide +kernel
theorem dL_law_288 : decode cL_law 288 = .ok (.aload_n 0, 1) := by decide +kernel
theorem dL_law_289 : decode cL_law 289 = .ok (.iload_n 3, 1) := by decide +kernel
theorem dL_law_290 : decode cL_law 290 = .ok (.iconst 2, 1) := by decide +kernel
theorem dL_law_291 : decode cL_law 291 = .ok (.iadd, 1) := by decide +kernel
theorem dL_law_292 : decode cL_law 292 = .ok (.iaload, 1) := by decide +kernel
theorem dL_law_293 : decode cL_law 293 = .ok (.invokevirtual 23, 3) := by decide +kernel
theorem dL_law_296 : decode cL_law 296 = .ok (.aload_n 2, 1) := by decide +kernel
theorem dL_law_297 : decode cL_law 297 = .ok (.aload_n 0, 1) := by decide +kernel
theorem dL_law_298 : decode cL_law 298 = .ok (.iload_n 3, 1) := by decide +kernel
theorem dL_law_299 : decode cL_law 299 = .ok (.iconst 1, 1) := by decide +kernel
theorem dL_law_300 : decode cL_law 300 = .ok (.iadd, 1) := by decide +kernel
theorem dL_law_301 : decode cL_law 301 = .ok (.iaload, 1) := by decide +kernel
theorem dL_law_302 : decode cL_law 302 = .ok (.aload_n 0, 1) := by decide +kernel
theorem dL_law_303 : decode cL_law 303 = .ok (.iload_n 3, 1) := by decide +kernel
theorem dL_law_304 : decode cL_law 304 = .ok (.iconst 2, 1) := by decide +kernel
theorem dL_law_305 : decode cL_law 305 = .ok (.iadd, 1) := by decide +kernel
theorem dL_law_306 : decode cL_law 306 = .ok (.iaload, 1) := by decide +kernel
theorem dL_law_307 : decode cL_law 307 = .ok (.invokevirtual 27, 3) := by decide +kernel
theorem dL_law_310 : decode cL_law 310 = .ok (.if_icmp .eq 936, 3) := by decide +kernel
theorem dL_law_313 : decode cL_law 313 = .ok (.iconst 0, 1) := by decide +kernel
theorem dL_law_314 : decode cL_law 314 = .ok (.ireturn, 1) := by decide +kernel
theorem dL_law_315 : decode cL_law 315 = .ok (.aload_n 1, 1) := by decide +kernel
theorem dL_law_316 : decode cL_law 316 = .ok (.aload_n 0, 1) := by decide +kernel
theorem dL_law_317 : decode cL_law 317 = .ok (.iload_n 3, 1) := by decide +kernel
theorem dL_law_318 : decode cL_law 318 = .ok (.iconst 1, 1) := by decide +kernel
theorem dL_law_319 : decode cL_law 319 = .ok (.iadd, 1) := by decide +kernel
theorem dL_law_320 : decode cL_law 320 = .ok (.iaload, 1) := by decide +kernel
theorem dL_law_321 : decode cL_law 321 = .ok (.aload_n 0, 1) := by decide +kernel
theorem dL_law_322 : decode cL_law 322 = .ok (.iload_n 3, 1) := by decide +kernel
theorem dL_law_323 : decode cL_law 323 = .ok (.iconst 2, 1) := by decide +kernel
theorem dL_law_324 : decode cL_law 324 = .ok (.iadd, 1) := by decide +kernel
theorem dL_law_325 : decode cL_law 325 = .ok (.iaload, 1) := by decide +kernel
theorem dL_law_326 : decode cL_law 326 = .ok (.aload_n 0, 1) := by decide +kernel
theorem dL_law_327 : decode cL_law 327 = .ok (.iload_n 3, 1) := by decide +kernel
theorem dL_law_328 : decode cL_law 328 = .ok (.iconst 3, 1) := by decide +kernel
theorem dL_law_329 : decode cL_law 329 = .ok (.iadd, 1) := by decide +kernel
theorem dL_law_330 : decode cL_law 330 = .ok (.iaload, 1) := by decide +kernel
theorem dL_law_331 : decode cL_law 331 = .ok (.aload_n 0, 1) := by decide +kernel
theorem dL_law_332 : decode cL_law 332 = .ok (.iload_n 3, 1) := by decide +kernel
theorem dL_law_333 : decode cL_law 333 = .ok (.iconst 4, 1) := by decide +kernel
theorem dL_law_334 : decode cL_law 334 = .ok (.iadd, 1) := by decide +kernel
theorem dL_law_335 : decode cL_law 335 = .ok (.iaload, 1) := by decide +kernel
theorem dL_law_336 : decode cL_law 336 = .ok (.aload_n 0, 1) := by decide +kernel
theorem dL_law_337 : decode cL_law 337 = .ok (.iload_n 3, 1) := by decide +kernel
theorem dL_law_338 : decode cL_law 338 = .ok (.iconst 5, 1) := by decide +kernel
theorem dL_law_339 : decode cL_law 339 = .ok (.iadd, 1) := by decide +kernel
theorem dL_law_340 : decode cL_law 340 = .ok (.iaload, 1) := by decide +kernel
theorem dL_law_341 : decode cL_law 341 = .ok (.aload_n 0, 1) := by decide +kernel
theorem dL_law_342 : decode cL_law 342 = .ok (.iload_n 3, 1) := by decide +kernel
theorem dL_law_343 : decode cL_law 343 = .ok (.bipush 6, 2) := by decide +kernel
theorem dL_law_345 : decode cL_law 345 = .ok (.iadd, 1) := by decide +kernel
theorem dL_law_346 : decode cL_law 346 = .ok (.iaload, 1) := by decide +kernel
theorem dL_law_347 : decode cL_law 347 = .ok (.ifCond .eq 7, 3) := by decide +kernel
theorem dL_law_350 : decode cL_law 350 = .ok (.iconst 1, 1) := by decide +kernel
theorem dL_law_351 : decode cL_law 351 = .ok (.goto 4, 3) := by decide +kernel
theorem dL_law_354 : decode cL_law 354 = .ok (.iconst 0, 1) := by decide +kernel
theorem dL_law_355 : decode cL_law 355 = .ok (.invokevirtual 28, 3) := by decide +kernel
theorem dL_law_358 : decode cL_law 358 = .ok (.aload_n 2, 1) := by decide +kernel
theorem dL_law_359 : decode cL_law 359 = .ok (.aload_n 0, 1) := by decide +kernel
theorem dL_law_360 : decode cL_law 360 = .ok (.iload_n 3, 1) := by decide +kernel
theorem dL_law_361 : decode cL_law 361 = .ok (.iconst 1, 1) := by decide +kernel
theorem dL_law_362 : decode cL_law 362 = .ok (.iadd, 1) := by decide +kernel
theorem dL_law_363 : decode cL_law 363 = .ok (.iaload, 1) := by decide +kernel
theorem dL_law_364 : decode cL_law 364 = .ok (.aload_n 0, 1) := by decide +kernel
theorem dL_law_365 : decode cL_law 365 = .ok (.iload_n 3, 1) := by decide +kernel
theorem dL_law_366 : decode cL_law 366 = .ok (.iconst 2, 1) := by decide +kernel
theorem dL_law_367 : decode cL_law 367 = .ok (.iadd, 1) := by decide +kernel
theorem dL_law_368 : decode cL_law 368 = .ok (.iaload, 1) := by decide +kernel
theorem dL_law_369 : decode cL_law 369 = .ok (.aload_n 0, 1) := by decide +kernel
theorem dL_law_370 : decode cL_law 370 = .ok (.iload_n 3, 1) := by decide +kernel
theorem dL_law_371 : decode cL_law 371 = .ok (.iconst 3, 1) := by decide +kernel
theorem dL_law_372 : decode cL_law 372 = .ok (.iadd, 1) := by decide +kernel
theorem dL_law_373 : decode cL_law 373 = .ok (.iaload, 1) := by decide +kernel
theorem dL_law_374 : decode cL_law 374 = .ok (.aload_n 0, 1) := by decide +kernel
theorem dL_law_375 : decode cL_law 375 = .ok (.iload_n 3, 1) := by decide +kernel
theorem dL_law_376 : decode cL_law 376 = .ok (.iconst 4, 1) := by decide +kernel
theorem dL_law_377 : decode cL_law 377 = .ok (.iadd, 1) := by decide +kernel
theorem dL_law_378 : decode cL_law 378 = .ok (.iaload, 1) := by decide +kernel
theorem dL_law_379 : decode cL_law 379 = .ok (.aload_n 0, 1) := by decide +kernel
theorem dL_law_380 : decode cL_law 380 = .ok (.iload_n 3, 1) := by decide +kernel
theorem dL_law_381 : decode cL_law 381 = .ok (.iconst 5, 1) := by decide +kernel
theorem dL_law_382 : decode cL_law 382 = .ok (.iadd, 1) := by decide +kernel
theorem dL_law_383 : decode cL_law 383 = .ok (.iaload, 1) := by decide +kernel
theorem dL_law_384 : decode cL_law 384 = .ok (.aload_n 0, 1) := by decide +kernel
theorem dL_law_385 : decode cL_law 385 = .ok (.iload_n 3, 1) := by decide +kernel
theorem dL_law_386 : decode cL_law 386 = .ok (.bipush 6, 2) := by decide +kernel
theorem dL_law_388 : decode cL_law 388 = .ok (.iadd, 1) := by decide +kernel
theorem dL_law_389 : decode cL_law 389 = .ok (.iaload, 1) := by decide +kernel
theorem dL_law_390 : decode cL_law 390 = .ok (.ifCond .eq 7, 3) := by decide +kernel
theorem dL_law_393 : decode cL_law 393 = .ok (.iconst 1, 1) := by decide +kernel
theorem dL_law_394 : decode cL_law 394 = .ok (.goto 4, 3) := by decide +kernel
theorem dL_law_397 : decode cL_law 397 = .ok (.iconst 0, 1) := by decide +kernel
theorem dL_law_398 : decode cL_law 398 = .ok (.invokevirtual 32, 3) := by decide +kernel
theorem dL_law_401 : decode cL_law 401 = .ok (.if_icmp .eq 845, 3) := by decide +kernel
theorem dL_law_404 : decode cL_law 404 = .ok (.iconst 0, 1) := by decide +kernel
theorem dL_law_405 : decode cL_law 405 = .ok (.ireturn, 1) := by decide +kernel
theorem dL_law_406 : decode cL_law 406 = .ok (.aload_n 1, 1) := by decide +kernel
theorem dL_law_407 : decode cL_law 407 = .ok (.aload_n 0, 1) := by decide +kernel
theorem dL_law_408 : decode cL_law 408 = .ok (.iload_n 3, 1) := by decide +kernel
theorem dL_law_409 : decode cL_law 409 = .ok (.iconst 1, 1) := by decide +kernel
theorem dL_law_410 : decode cL_law 410 = .ok (.iadd, 1) := by decide +kernel
theorem dL_law_411 : decode cL_law 411 = .ok (.iaload, 1) := by decide +kernel
theorem dL_law_412 : decode cL_law 412 = .ok (.aload_n 0, 1) := by decide +kernel
theorem dL_law_413 : decode cL_law 413 = .ok (.iload_n 3, 1) := by decide +kernel
theorem dL_law_414 : decode cL_law 414 = .ok (.iconst 2, 1) := by decide +kernel
theorem dL_law_415 : decode cL_law 415 = .ok (.iadd, 1) := by decide +kernel
theorem dL_law_416 : decode cL_law 416 = .ok (.iaload, 1) := by decide +kernel
theorem dL_law_417 : decode cL_law 417 = .ok (.invokevirtual 33, 3) := by decide +kernel
theorem dL_law_420 : decode cL_law 420 = .ok (.aload_n 2, 1) := by decide +kernel
theorem dL_law_421 : decode cL_law 421 = .ok (.aload_n 0, 1) := by decide +kernel
theorem dL_law_422 : decode cL_law 422 = .ok (.iload_n 3, 1) := by decide +kernel
theorem dL_law_423 : decode cL_law 423 = .ok (.iconst 1, 1) := by decide +kernel
theorem dL_law_424 : decode cL_law 424 = .ok (.iadd, 1) := by decide +kernel
theorem dL_law_425 : decode cL_law 425 = .ok (.iaload, 1) := by decide +kernel
theorem dL_law_426 : decode cL_law 426 = .ok (.aload_n 0, 1) := by decide +kernel
theorem dL_law_427 : decode cL_law 427 = .ok (.iload_n 3, 1) := by decide +kernel
theorem dL_law_428 : decode cL_law 428 = .ok (.iconst 2, 1) := by decide +kernel
theorem dL_law_429 : decode cL_law 429 = .ok (.iadd, 1) := by decide +kernel
theorem dL_law_430 : decode cL_law 430 = .ok (.iaload, 1) := by decide +kernel
theorem dL_law_431 : decode cL_law 431 = .ok (.invokevirtual 36, 3) := by decide +kernel
theorem dL_law_434 : decode cL_law 434 = .ok (.if_icmp .eq 812, 3) := by decide +kernel
theorem dL_law_437 : decode cL_law 437 = .ok (.iconst 0, 1) := by decide +kernel
theorem dL_law_438 : decode cL_law 438 = .ok (.ireturn, 1) := by decide +kernel
theorem dL_law_439 : decode cL_law 439 = .ok (.aload_n 1, 1) := by decide +kernel
theorem dL_law_440 : decode cL_law 440 = .ok (.aload_n 0, 1) := by decide +kernel
theorem dL_law_441 : decode cL_law 441 = .ok (.iload_n 3, 1) := by decide +kernel
theorem dL_law_442 : decode cL_law 442 = .ok (.iconst 1, 1) := by decide +kernel
theorem dL_law_443 : decode cL_law 443 = .ok (.iadd, 1) := by decide +kernel
theorem dL_law_444 : decode cL_law 444 = .ok (.iaload, 1) := by decide +kernel
theorem dL_law_445 : decode cL_law 445 = .ok (.invokevirtual 37, 3) := by decide +kernel
theorem dL_law_448 : decode cL_law 448 = .ok (.aload_n 2, 1) := by decide +kernel
theorem dL_law_449 : decode cL_law 449 = .ok (.aload_n 0, 1) := by decide +kernel
theorem dL_law_450 : decode cL_law 450 = .ok (.iload_n 3, 1) := by decide +kernel
theorem dL_law_451 : decode cL_law 451 = .ok (.iconst 1, 1) := by decide +kernel
theorem dL_law_452 : decode cL_law 452 = .ok (.iadd, 1) := by decide +kernel
theorem dL_law_453 : decode cL_law 453 = .ok (.iaload, 1) := by decide +kernel
theorem dL_law_454 : decode cL_law 454 = .ok (.invokevirtual 41, 3) := by decide +kernel
theorem dL_law_457 : decode cL_law 457 = .ok (.if_icmp .eq 789, 3) := by decide +kernel
theorem dL_law_460 : decode cL_law 460 = .ok (.iconst 0, 1) := by decide +kernel
theorem dL_law_461 : decode cL_law 461 = .ok (.ireturn, 1) := by decide +kernel
theorem dL_law_462 : decode cL_law 462 = .ok (.aload_n 1, 1) := by decide +kernel
theorem dL_law_463 : decode cL_law 463 = .ok (.aload_n 0, 1) := by decide +kernel
theorem dL_law_464 : decode cL_law 464 = .ok (.iload_n 3, 1) := by decide +kernel
theorem dL_law_465 : decode cL_law 465 = .ok (.iconst 1, 1) := by decide +kernel
theorem dL_law_466 : decode cL_law 466 = .ok (.iadd, 1) := by decide +kernel
theorem dL_law_467 : decode cL_law 467 = .ok (.iaload, 1) := by decide +kernel
theorem dL_law_468 : decode cL_law 468 = .ok (.aload_n 0, 1) := by decide +kernel
theorem dL_law_469 : decode cL_law 469 = .ok (.iload_n 3, 1) := by decide +kernel
theorem dL_law_470 : decode cL_law 470 = .ok (.iconst 2, 1) := by decide +kernel
theorem dL_law_471 : decode cL_law 471 = .ok (.iadd, 1) := by decide +kernel
theorem dL_law_472 : decode cL_law 472 = .ok (.iaload, 1) := by decide +kernel
theorem dL_law_473 : decode cL_law 473 = .ok (.aload_n 0, 1) := by decide +kernel
theorem dL_law_474 : decode cL_law 474 = .ok (.iload_n 3, 1) := by decide +kernel
theorem dL_law_475 : decode cL_law 475 = .ok (.iconst 3, 1) := by decide +kernel
theorem dL_law_476 : decode cL_law 476 = .ok (.iadd, 1) := by decide +kernel
theorem dL_law_477 : decode cL_law 477 = .ok (.iaload, 1) := by decide +kernel
theorem dL_law_478 : decode cL_law 478 = .ok (.invokevirtual 42, 3) := by decide +kernel
theorem dL_law_481 : decode cL_law 481 = .ok (.aload_n 2, 1) := by decide +kernel
theorem dL_law_482 : decode cL_law 482 = .ok (.aload_n 0, 1) := by decide +kernel
theorem dL_law_483 : decode cL_law 483 = .ok (.iload_n 3, 1) := by decide +kernel
theorem dL_law_484 : decode cL_law 484 = .ok (.iconst 1, 1) := by decide +kernel
theorem dL_law_485 : decode cL_law 485 = .ok (.iadd, 1) := by decide +kernel
theorem dL_law_486 : decode cL_law 486 = .ok (.iaload, 1) := by decide +kernel
theorem dL_law_487 : decode cL_law 487 = .ok (.aload_n 0, 1) := by decide +kernel
theorem dL_law_488 : decode cL_law 488 = .ok (.iload_n 3, 1) := by decide +kernel
theorem dL_law_489 : decode cL_law 489 = .ok (.iconst 2, 1) := by decide +kernel
theorem dL_law_490 : decode cL_law 490 = .ok (.iadd, 1) := by decide +kernel
theorem dL_law_491 : decode cL_law 491 = .ok (.iaload, 1) := by decide +kernel
theorem dL_law_492 : decode cL_law 492 = .ok (.aload_n 0, 1) := by decide +kernel
theorem dL_law_493 : decode cL_law 493 = .ok (.iload_n 3, 1) := by decide +kernel
theorem dL_law_494 : decode cL_law 494 = .ok (.iconst 3, 1) := by decide +kernel
theorem dL_law_495 : decode cL_law 495 = .ok (.iadd, 1) := by decide +kernel
theorem dL_law_496 : decode cL_law 496 = .ok (.iaload, 1) := by decide +kernel
theorem dL_law_497 : decode cL_law 497 = .ok (.invokevirtual 45, 3) := by decide +kernel
theorem dL_law_500 : decode cL_law 500 = .ok (.if_icmp .eq 746, 3) := by decide +kernel
theorem dL_law_503 : decode cL_law 503 = .ok (.iconst 0, 1) := by decide +kernel
theorem dL_law_504 : decode cL_law 504 = .ok (.ireturn, 1) := by decide +kernel
theorem dL_law_505 : decode cL_law 505 = .ok (.aload_n 1, 1) := by decide +kernel
theorem dL_law_506 : decode cL_law 506 = .ok (.aload_n 0, 1) := by decide +kernel
theorem dL_law_507 : decode cL_law 507 = .ok (.iload_n 3, 1) := by decide +kernel
theorem dL_law_508 : decode cL_law 508 = .ok (.iconst 1, 1) := by decide +kernel
theorem dL_law_509 : decode cL_law 509 = .ok (.iadd, 1) := by decide +kernel
theorem dL_law_510 : decode cL_law 510 = .ok (.iaload, 1) := by decide +kernel
theorem dL_law_511 : decode cL_law 511 = .ok (.aload_n 0, 1) := by decide +kernel
theorem dL_law_512 : decode cL_law 512 = .ok (.iload_n 3, 1) := by decide +kernel
theorem dL_law_513 : decode cL_law 513 = .ok (.iconst 2, 1) := by decide +kernel
theorem dL_law_514 : decode cL_law 514 = .ok (.iadd, 1) := by decide +kernel
theorem dL_law_515 : decode cL_law 515 = .ok (.iaload, 1) := by decide +kernel
theorem dL_law_516 : decode cL_law 516 = .ok (.invokevirtual 46, 3) := by decide +kernel
theorem dL_law_519 : decode cL_law 519 = .ok (.aload_n 2, 1) := by decide +kernel
theorem dL_law_520 : decode cL_law 520 = .ok (.aload_n 0, 1) := by decide +kernel
theorem dL_law_521 : decode cL_law 521 = .ok (.iload_n 3, 1) := by decide +kernel
theorem dL_law_522 : decode cL_law 522 = .ok (.iconst 1, 1) := by decide +kernel
theorem dL_law_523 : decode cL_law 523 = .ok (.iadd, 1) := by decide +kernel
theorem dL_law_524 : decode cL_law 524 = .ok (.iaload, 1) := by decide +kernel
theorem dL_law_525 : decode cL_law 525 = .ok (.aload_n 0, 1) := by decide +kernel
theorem dL_law_526 : decode cL_law 526 = .ok (.iload_n 3, 1) := by decide +kernel
theorem dL_law_527 : decode cL_law 527 = .ok (.iconst 2, 1) := by decide +kernel
theorem dL_law_528 : decode cL_law 528 = .ok (.iadd, 1) := by decide +kernel
theorem dL_law_529 : decode cL_law 529 = .ok (.iaload, 1) := by decide +kernel
theorem dL_law_530 : decode cL_law 530 = .ok (.invokevirtual 49, 3) := by decide +kernel
theorem dL_law_533 : decode cL_law 533 = .ok (.if_icmp .eq 713, 3) := by decide +kernel
theorem dL_law_536 : decode cL_law 536 = .ok (.iconst 0, 1) := by decide +kernel
theorem dL_law_537 : decode cL_law 537 = .ok (.ireturn, 1) := by decide +kernel
theorem dL_law_538 : decode cL_law 538 = .ok (.aload_n 1, 1) := by decide +kernel
theorem dL_law_539 : decode cL_law 539 = .ok (.invokevirtual 50, 3) := by decide +kernel
theorem dL_law_542 : decode cL_law 542 = .ok (.aload_n 2, 1) := by decide +kernel
theorem dL_law_543 : decode cL_law 543 = .ok (.invokevirtual 54, 3) := by decide +kernel
theorem dL_law_546 : decode cL_law 546 = .ok (.if_icmp .eq 700, 3) := by decide +kernel
theorem dL_law_549 : decode cL_law 549 = .ok (.iconst 0, 1) := by decide +kernel
theorem dL_law_550 : decode cL_law 550 = .ok (.ireturn, 1) := by decide +kernel
theorem dL_law_551 : decode cL_law 551 = .ok (.aload_n 1, 1) := by decide +kernel
theorem dL_law_552 : decode cL_law 552 = .ok (.aload_n 0, 1) := by decide +kernel
theorem dL_law_553 : decode cL_law 553 = .ok (.iload_n 3, 1) := by decide +kernel
theorem dL_law_554 : decode cL_law 554 = .ok (.iconst 1, 1) := by decide +kernel
theorem dL_law_555 : decode cL_law 555 = .ok (.iadd, 1) := by decide +kernel
theorem dL_law_556 : decode cL_law 556 = .ok (.iaload, 1) := by decide +kernel
theorem dL_law_557 : decode cL_law 557 = .ok (.invokevirtual 55, 3) := by decide +kernel
theorem dL_law_560 : decode cL_law 560 = .ok (.aload_n 2, 1) := by decide +kernel
theorem dL_law_561 : decode cL_law 561 = .ok (.aload_n 0, 1) := by decide +kernel
theorem dL_law_562 : decode cL_law 562 = .ok (.iload_n 3, 1) := by decide +kernel
theorem dL_law_563 : decode cL_law 563 = .ok (.iconst 1, 1) := by decide +kernel
theorem dL_law_564 : decode cL_law 564 = .ok (.iadd, 1) := by decide +kernel
theorem dL_law_565 : decode cL_law 565 = .ok (.iaload, 1) := by decide +kernel
theorem dL_law_566 : decode cL_law 566 = .ok (.invokevirtual 58, 3) := by decide +kernel
theorem dL_law_569 : decode cL_law 569 = .ok (.if_icmp .eq 677, 3) := by decide +kernel
theorem dL_law_572 : decode cL_law 572 = .ok (.iconst 0, 1) := by decide +kernel
theorem dL_law_573 : decode cL_law 573 = .ok (.ireturn, 1) := by decide +kernel
theorem dL_law_574 : decode cL_law 574 = .ok (.aload_n 1, 1) := by decide +kernel
theorem dL_law_575 : decode cL_law 575 = .ok (.invokevirtual 59, 3) := by decide +kernel
theorem dL_law_578 : decode cL_law 578 = .ok (.aload_n 2, 1) := by decide +kernel
theorem dL_law_579 : decode cL_law 579 = .ok (.invokevirtual 62, 3) := by decide +kernel
theorem dL_law_582 : decode cL_law 582 = .ok (.if_icmp .eq 664, 3) := by decide +kernel
theorem dL_law_585 : decode cL_law 585 = .ok (.iconst 0, 1) := by decide +kernel
theorem dL_law_586 : decode cL_law 586 = .ok (.ireturn, 1) := by decide +kernel
theorem dL_law_587 : decode cL_law 587 = .ok (.aload_n 1, 1) := by decide +kernel
theorem dL_law_588 : decode cL_law 588 = .ok (.invokevirtual 63, 3) := by decide +kernel
theorem dL_law_591 : decode cL_law 591 = .ok (.aload_n 2, 1) := by decide +kernel
theorem dL_law_592 : decode cL_law 592 = .ok (.invokevirtual 66, 3) := by decide +kernel
theorem dL_law_595 : decode cL_law 595 = .ok (.if_icmp .eq 651, 3) := by decide +kernel
theorem dL_law_598 : decode cL_law 598 = .ok (.iconst 0, 1) := by decide +kernel
theorem dL_law_599 : decode cL_law 599 = .ok (.ireturn, 1) := by decide +kernel
theorem dL_law_600 : decode cL_law 600 = .ok (.aload_n 1, 1) := by decide +kernel
theorem dL_law_601 : decode cL_law 601 = .ok (.aload_n 0, 1) := by decide +kernel
theorem dL_law_602 : decode cL_law 602 = .ok (.iload_n 3, 1) := by decide +kernel
theorem dL_law_603 : decode cL_law 603 = .ok (.iconst 1, 1) := by decide +kernel
theorem dL_law_604 : decode cL_law 604 = .ok (.iadd, 1) := by decide +kernel
theorem dL_law_605 : decode cL_law 605 = .ok (.iaload, 1) := by decide +kernel
theorem dL_law_606 : decode cL_law 606 = .ok (.invokevirtual 67, 3) := by decide +kernel
theorem dL_law_609 : decode cL_law 609 = .ok (.aload_n 2, 1) := by decide +kernel
theorem dL_law_610 : decode cL_law 610 = .ok (.aload_n 0, 1) := by decide +kernel
theorem dL_law_611 : decode cL_law 611 = .ok (.iload_n 3, 1) := by decide +kernel
theorem dL_law_612 : decode cL_law 612 = .ok (.iconst 1, 1) := by decide +kernel
theorem dL_law_613 : decode cL_law 613 = .ok (.iadd, 1) := by decide +kernel
theorem dL_law_614 : decode cL_law 614 = .ok (.iaload, 1) := by decide +kernel
theorem dL_law_615 : decode cL_law 615 = .ok (.invokevirtual 70, 3) := by decide +kernel
theorem dL_law_618 : decode cL_law 618 = .ok (.if_icmp .eq 628, 3) := by decide +kernel
theorem dL_law_621 : decode cL_law 621 = .ok (.iconst 0, 1) := by decide +kernel
theorem dL_law_622 : decode cL_law 622 = .ok (.ireturn, 1) := by decide +kernel
theorem dL_law_623 : decode cL_law 623 = .ok (.aload_n 1, 1) := by decide +kernel
theorem dL_law_624 : decode cL_law 624 = .ok (.aload_n 0, 1) := by decide +kernel
theorem dL_law_625 : decode cL_law 625 = .ok (.iload_n 3, 1) := by decide +kernel
theorem dL_law_626 : decode cL_law 626 = .ok (.iconst 1, 1) := by decide +kernel
theorem dL_law_627 : decode cL_law 627 = .ok (.iadd, 1) := by decide +kernel
theorem dL_law_628 : decode cL_law 628 = .ok (.iaload, 1) := by decide +kernel
theorem dL_law_629 : decode cL_law 629 = .ok (.aload_n 0, 1) := by decide +kernel
theorem dL_law_630 : decode cL_law 630 = .ok (.iload_n 3, 1) := by decide +kernel
theorem dL_law_631 : decode cL_law 631 = .ok (.iconst 2, 1) := by decide +kernel
theorem dL_law_632 : decode cL_law 632 = .ok (.iadd, 1) := by decide +kernel
theorem dL_law_633 : decode cL_law 633 = .ok (.iaload, 1) := by decide +kernel
theorem dL_law_634 : decode cL_law 634 = .ok (.invokevirtual 71, 3) := by decide +kernel
theorem dL_law_637 : decode cL_law 637 = .ok (.aload_n 2, 1) := by decide +kernel
theorem dL_law_638 : decode cL_law 638 = .ok (.aload_n 0, 1) := by decide +kernel
theorem dL_law_639 : decode cL_law 639 = .ok (.iload_n 3, 1) := by decide +kernel
theorem dL_law_640 : decode cL_law 640 = .ok (.iconst 1, 1) := by decide +kernel
theorem dL_law_641 : decode cL_law 641 = .ok (.iadd, 1) := by decide +kernel
theorem dL_law_642 : decode cL_law 642 = .ok (.iaload, 1) := by decide +kernel
theorem dL_law_643 : decode cL_law 643 = .ok (.aload_n 0, 1) := by decide +kernel
theorem dL_law_644 : decode cL_law 644 = .ok (.iload_n 3, 1) := by decide +kernel
theorem dL_law_645 : decode cL_law 645 = .ok (.iconst 2, 1) := by decide +kernel
theorem dL_law_646 : decode cL_law 646 = .ok (.iadd, 1) := by decide +kernel
theorem dL_law_647 : decode cL_law 647 = .ok (.iaload, 1) := by decide +kernel
theorem dL_law_648 : decode cL_law 648 = .ok (.invokevirtual 74, 3) := by decide +kernel
theorem dL_law_651 : decode cL_law 651 = .ok (.if_icmp .eq 595, 3) := by decide +kernel
theorem dL_law_654 : decode cL_law 654 = .ok (.iconst 0, 1) := by decide +kernel
theorem dL_law_655 : decode cL_law 655 = .ok (.ireturn, 1) := by decide +kernel
theorem dL_law_656 : decode cL_law 656 = .ok (.aload_n 1, 1) := by decide +kernel
theorem dL_law_657 : decode cL_law 657 = .ok (.aload_n 0, 1) := by decide +kernel
theorem dL_law_658 : decode cL_law 658 = .ok (.iload_n 3, 1) := by decide +kernel
theorem dL_law_659 : decode cL_law 659 = .ok (.iconst 1, 1) := by decide +kernel
theorem dL_law_660 : decode cL_law 660 = .ok (.iadd, 1) := by decide +kernel
theorem dL_law_661 : decode cL_law 661 = .ok (.iaload, 1) := by decide +kernel
theorem dL_law_662 : decode cL_law 662 = .ok (.aload_n 0, 1) := by decide +kernel
theorem dL_law_663 : decode cL_law 663 = .ok (.iload_n 3, 1) := by decide +kernel
theorem dL_law_664 : decode cL_law 664 = .ok (.iconst 2, 1) := by decide +kernel
theorem dL_law_665 : decode cL_law 665 = .ok (.iadd, 1) := by decide +kernel
theorem dL_law_666 : decode cL_law 666 = .ok (.iaload, 1) := by decide +kernel
theorem dL_law_667 : decode cL_law 667 = .ok (.invokevirtual 75, 3) := by decide +kernel
theorem dL_law_670 : decode cL_law 670 = .ok (.aload_n 2, 1) := by decide +kernel
theorem dL_law_671 : decode cL_law 671 = .ok (.aload_n 0, 1) := by decide +kernel
theorem dL_law_672 : decode cL_law 672 = .ok (.iload_n 3, 1) := by decide +kernel
theorem dL_law_673 : decode cL_law 673 = .ok (.iconst 1, 1) := by decide +kernel
theorem dL_law_674 : decode cL_law 674 = .ok (.iadd, 1) := by decide +kernel
theorem dL_law_675 : decode cL_law 675 = .ok (.iaload, 1) := by decide +kernel
theorem dL_law_676 : decode cL_law 676 = .ok (.aload_n 0, 1) := by decide +kernel
theorem dL_law_677 : decode cL_law 677 = .ok (.iload_n 3, 1) := by decide +kernel
theorem dL_law_678 : decode cL_law 678 = .ok (.iconst 2, 1) := by decide +kernel
theorem dL_law_679 : decode cL_law 679 = .ok (.iadd, 1) := by decide +kernel
theorem dL_law_680 : decode cL_law 680 = .ok (.iaload, 1) := by decide +kernel
theorem dL_law_681 : decode cL_law 681 = .ok (.invokevirtual 78, 3) := by decide +kernel
theorem dL_law_684 : decode cL_law 684 = .ok (.if_icmp .eq 562, 3) := by decide +kernel
theorem dL_law_687 : decode cL_law 687 = .ok (.iconst 0, 1) := by decide +kernel
theorem dL_law_688 : decode cL_law 688 = .ok (.ireturn, 1) := by decide +kernel
theorem dL_law_689 : decode cL_law 689 = .ok (.aload_n 1, 1) := by decide +kernel
theorem dL_law_690 : decode cL_law 690 = .ok (.aload_n 0, 1) := by decide +kernel
theorem dL_law_691 : decode cL_law 691 = .ok (.iload_n 3, 1) := by decide +kernel
theorem dL_law_692 : decode cL_law 692 = .ok (.iconst 1, 1) := by decide +kernel
theorem dL_law_693 : decode cL_law 693 = .ok (.iadd, 1) := by decide +kernel
theorem dL_law_694 : decode cL_law 694 = .ok (.iaload, 1) := by decide +kernel
theorem dL_law_695 : decode cL_law 695 = .ok (.invokevirtual 79, 3) := by decide +kernel
theorem dL_law_698 : decode cL_law 698 = .ok (.aload_n 2, 1) := by decide +kernel
theorem dL_law_699 : decode cL_law 699 = .ok (.aload_n 0, 1) := by decide +kernel
theorem dL_law_700 : decode cL_law 700 = .ok (.iload_n 3, 1) := by decide +kernel
theorem dL_law_701 : decode cL_law 701 = .ok (.iconst 1, 1) := by decide +kernel
theorem dL_law_702 : decode cL_law 702 = .ok (.iadd, 1) := by decide +kernel
theorem dL_law_703 : decode cL_law 703 = .ok (.iaload, 1) := by decide +kernel
theorem dL_law_704 : decode cL_law 704 = .ok (.invokevirtual 82, 3) := by decide +kernel
theorem dL_law_707 : decode cL_law 707 = .ok (.if_icmp .eq 539, 3) := by decide +kernel
theorem dL_law_710 : decode cL_law 710 = .ok (.iconst 0, 1) := by decide +kernel
theorem dL_law_711 : decode cL_law 711 = .ok (.ireturn, 1) := by decide +kernel
theorem dL_law_712 : decode cL_law 712 = .ok (.aload_n 1, 1) := by decide +kernel
theorem dL_law_713 : decode cL_law 713 = .ok (.aload_n 0, 1) := by decide +kernel
theorem dL_law_714 : decode cL_law 714 = .ok (.iload_n 3, 1) := by decide +kernel
theorem dL_law_715 : decode cL_law 715 = .ok (.iconst 1, 1) := by decide +kernel
theorem dL_law_716 : decode cL_law 716 = .ok (.iadd, 1) := by decide +kernel
theorem dL_law_717 : decode cL_law 717 = .ok (.iaload, 1) := by decide +kernel
theorem dL_law_718 : decode cL_law 718 = .ok (.aload_n 0, 1) := by decide +kernel
theorem dL_law_719 : decode cL_law 719 = .ok (.iload_n 3, 1) := by decide +kernel
theorem dL_law_720 : decode cL_law 720 = .ok (.iconst 2, 1) := by decide +kernel
theorem dL_law_721 : decode cL_law 721 = .ok (.iadd, 1) := by decide +kernel
theorem dL_law_722 : decode cL_law 722 = .ok (.iaload, 1) := by decide +kernel
theorem dL_law_723 : decode cL_law 723 = .ok (.invokevirtual 83, 3) := by decide +kernel
theorem dL_law_726 : decode cL_law 726 = .ok (.aload_n 2, 1) := by decide +kernel
theorem dL_law_727 : decode cL_law 727 = .ok (.aload_n 0, 1) := by decide +kernel
theorem dL_law_728 : decode cL_law 728 = .ok (.iload_n 3, 1) := by decide +kernel
theorem dL_law_729 : decode cL_law 729 = .ok (.iconst 1, 1) := by decide +kernel
theorem dL_law_730 : decode cL_law 730 = .ok (.iadd, 1) := by decide +kernel
theorem dL_law_731 : decode cL_law 731 = .ok (.iaload, 1) := by decide +kernel
theorem dL_law_732 : decode cL_law 732 = .ok (.aload_n 0, 1) := by decide +kernel
theorem dL_law_733 : decode cL_law 733 = .ok (.iload_n 3, 1) := by decide +kernel
theorem dL_law_734 : decode cL_law 734 = .ok (.iconst 2, 1) := by decide +kernel
theorem dL_law_735 : decode cL_law 735 = .ok (.iadd, 1) := by decide +kernel
theorem dL_law_736 : decode cL_law 736 = .ok (.iaload, 1) := by decide +kernel
theorem dL_law_737 : decode cL_law 737 = .ok (.invokevirtual 86, 3) := by decide +kernel
theorem dL_law_740 : decode cL_law 740 = .ok (.if_icmp .eq 506, 3) := by decide +kernel
theorem dL_law_743 : decode cL_law 743 = .ok (.iconst 0, 1) := by decide +kernel
theorem dL_law_744 : decode cL_law 744 = .ok (.ireturn, 1) := by decide +kernel
theorem dL_law_745 : decode cL_law 745 = .ok (.aload_n 1, 1) := by decide +kernel
theorem dL_law_746 : decode cL_law 746 = .ok (.aload_n 0, 1) := by decide +kernel
theorem dL_law_747 : decode cL_law 747 = .ok (.iload_n 3, 1) := by decide +kernel
theorem dL_law_748 : decode cL_law 748 = .ok (.iconst 1, 1) := by decide +kernel
theorem dL_law_749 : decode cL_law 749 = .ok (.iadd, 1) := by decide +kernel
theorem dL_law_750 : decode cL_law 750 = .ok (.iaload, 1) := by decide +kernel
theorem dL_law_751 : decode cL_law 751 = .ok (.aload_n 0, 1) := by decide +kernel
theorem dL_law_752 : decode cL_law 752 = .ok (.iload_n 3, 1) := by decide +kernel
theorem dL_law_753 : decode cL_law 753 = .ok (.iconst 2, 1) := by decide +kernel
theorem dL_law_754 : decode cL_law 754 = .ok (.iadd, 1) := by decide +kernel
theorem dL_law_755 : decode cL_law 755 = .ok (.iaload, 1) := by decide +kernel
theorem dL_law_756 : decode cL_law 756 = .ok (.ifCond .eq 7, 3) := by decide +kernel
theorem dL_law_759 : decode cL_law 759 = .ok (.iconst 1, 1) := by decide +kernel
theorem dL_law_760 : decode cL_law 760 = .ok (.goto 4, 3) := by decide +kernel
theorem dL_law_763 : decode cL_law 763 = .ok (.iconst 0, 1) := by decide +kernel
theorem dL_law_764 : decode cL_law 764 = .ok (.invokevirtual 87, 3) := by decide +kernel
theorem dL_law_767 : decode cL_law 767 = .ok (.aload_n 2, 1) := by decide +kernel
theorem dL_law_768 : decode cL_law 768 = .ok (.aload_n 0, 1) := by decide +kernel
theorem dL_law_769 : decode cL_law 769 = .ok (.iload_n 3, 1) := by decide +kernel
theorem dL_law_770 : decode cL_law 770 = .ok (.iconst 1, 1) := by decide +kernel
theorem dL_law_771 : decode cL_law 771 = .ok (.iadd, 1) := by decide +kernel
theorem dL_law_772 : decode cL_law 772 = .ok (.iaload, 1) := by decide +kernel
theorem dL_law_773 : decode cL_law 773 = .ok (.aload_n 0, 1) := by decide +kernel
theorem dL_law_774 : decode cL_law 774 = .ok (.iload_n 3, 1) := by decide +kernel
theorem dL_law_775 : decode cL_law 775 = .ok (.iconst 2, 1) := by decide +kernel
theorem dL_law_776 : decode cL_law 776 = .ok (.iadd, 1) := by decide +kernel
theorem dL_law_777 : decode cL_law 777 = .ok (.iaload, 1) := by decide +kernel
theorem dL_law_778 : decode cL_law 778 = .ok (.ifCond .eq 7, 3) := by decide +kernel
theorem dL_law_781 : decode cL_law 781 = .ok (.iconst 1, 1) := by decide +kernel
theorem dL_law_782 : decode cL_law 782 = .ok (.goto 4, 3) := by decide +kernel
theorem dL_law_785 : decode cL_law 785 = .ok (.iconst 0, 1) := by decide +kernel
theorem dL_law_786 : decode cL_law 786 = .ok (.invokevirtual 91, 3) := by decide +kernel
theorem dL_law_789 : decode cL_law 789 = .ok (.if_icmp .eq 457, 3) := by decide +kernel
theorem dL_law_792 : decode cL_law 792 = .ok (.iconst 0, 1) := by decide +kernel
theorem dL_law_793 : decode cL_law 793 = .ok (.ireturn, 1) := by decide +kernel
theorem dL_law_794 : decode cL_law 794 = .ok (.aload_n 1, 1) := by decide +kernel
theorem dL_law_795 : decode cL_law 795 = .ok (.aload_n 0, 1) := by decide +kernel
theorem dL_law_796 : decode cL_law 796 = .ok (.iload_n 3, 1) := by decide +kernel
theorem dL_law_797 : decode cL_law 797 = .ok (.iconst 1, 1) := by decide +kernel
theorem dL_law_798 : decode cL_law 798 = .ok (.iadd, 1) := by decide +kernel
theorem dL_law_799 : decode cL_law 799 = .ok (.iaload, 1) := by decide +kernel
theorem dL_law_800 : decode cL_law 800 = .ok (.aload_n 0, 1) := by decide +kernel
theorem dL_law_801 : decode cL_law 801 = .ok (.iload_n 3, 1) := by decide +kernel
theorem dL_law_802 : decode cL_law 802 = .ok (.iconst 2, 1) := by decide +kernel
theorem dL_law_803 : decode cL_law 803 = .ok (.iadd, 1) := by decide +kernel
theorem dL_law_804 : decode cL_law 804 = .ok (.iaload, 1) := by decide +kernel
theorem dL_law_805 : decode cL_law 805 = .ok (.aload_n 0, 1) := by decide +kernel
theorem dL_law_806 : decode cL_law 806 = .ok (.iload_n 3, 1) := by decide +kernel
theorem dL_law_807 : decode cL_law 807 = .ok (.iconst 3, 1) := by decide +kernel
theorem dL_law_808 : decode cL_law 808 = .ok (.iadd, 1) := by decide +kernel
theorem dL_law_809 : decode cL_law 809 = .ok (.iaload, 1) := by decide +kernel
theorem dL_law_810 : decode cL_law 810 = .ok (.invokevirtual 92, 3) := by decide +kernel
theorem dL_law_813 : decode cL_law 813 = .ok (.aload_n 2, 1) := by decide +kernel
theorem dL_law_814 : decode cL_law 814 = .ok (.aload_n 0, 1) := by decide +kernel
theorem dL_law_815 : decode cL_law 815 = .ok (.iload_n 3, 1) := by decide +kernel
theorem dL_law_816 : decode cL_law 816 = .ok (.iconst 1, 1) := by decide +kernel
theorem dL_law_817 : decode cL_law 817 = .ok (.iadd, 1) := by decide +kernel
theorem dL_law_818 : decode cL_law 818 = .ok (.iaload, 1) := by decide +kernel
theorem dL_law_819 : decode cL_law 819 = .ok (.aload_n 0, 1) := by decide +kernel
theorem dL_law_820 : decode cL_law 820 = .ok (.iload_n 3, 1) := by decide +kernel
theorem dL_law_821 : decode cL_law 821 = .ok (.iconst 2, 1) := by decide +kernel
theorem dL_law_822 : decode cL_law 822 = .ok (.iadd, 1) := by decide +kernel
theorem dL_law_823 : decode cL_law 823 = .ok (.iaload, 1) := by decide +kernel
theorem dL_law_824 : decode cL_law 824 = .ok (.aload_n 0, 1) := by decide +kernel
theorem dL_law_825 : decode cL_law 825 = .ok (.iload_n 3, 1) := by decide +kernel
theorem dL_law_826 : decode cL_law 826 = .ok (.iconst 3, 1) := by decide +kernel
theorem dL_law_827 : decode cL_law 827 = .ok (.iadd, 1) := by decide +kernel
theorem dL_law_828 : decode cL_law 828 = .ok (.iaload, 1) := by decide +kernel
theorem dL_law_829 : decode cL_law 829 = .ok (.invokevirtual 95, 3) := by decide +kernel
theorem dL_law_832 : decode cL_law 832 = .ok (.if_icmp .eq 414, 3) := by decide +kernel
theorem dL_law_835 : decode cL_law 835 = .ok (.iconst 0, 1) := by decide +kernel
theorem dL_law_836 : decode cL_law 836 = .ok (.ireturn, 1) := by decide +kernel
theorem dL_law_837 : decode cL_law 837 = .ok (.aload_n 1, 1) := by decide +kernel
theorem dL_law_838 : decode cL_law 838 = .ok (.aload_n 0, 1) := by decide +kernel
theorem dL_law_839 : decode cL_law 839 = .ok (.iload_n 3, 1) := by decide +kernel
theorem dL_law_840 : decode cL_law 840 = .ok (.iconst 1, 1) := by decide +kernel
theorem dL_law_841 : decode cL_law 841 = .ok (.iadd, 1) := by decide +kernel
theorem dL_law_842 : decode cL_law 842 = .ok (.iaload, 1) := by decide +kernel
theorem dL_law_843 : decode cL_law 843 = .ok (.invokevirtual 96, 3) := by decide +kernel
theorem dL_law_846 : decode cL_law 846 = .ok (.aload_n 2, 1) := by decide +kernel
theorem dL_law_847 : decode cL_law 847 = .ok (.aload_n 0, 1) := by decide +kernel
theorem dL_law_848 : decode cL_law 848 = .ok (.iload_n 3, 1) := by decide +kernel
theorem dL_law_849 : decode cL_law 849 = .ok (.iconst 1, 1) := by decide +kernel
theorem dL_law_850 : decode cL_law 850 = .ok (.iadd, 1) := by decide +kernel
theorem dL_law_851 : decode cL_law 851 = .ok (.iaload, 1) := by decide +kernel
theorem dL_law_852 : decode cL_law 852 = .ok (.invokevirtual 99, 3) := by decide +kernel
theorem dL_law_855 : decode cL_law 855 = .ok (.if_icmp .eq 391, 3) := by decide +kernel
theorem dL_law_858 : decode cL_law 858 = .ok (.iconst 0, 1) := by decide +kernel
theorem dL_law_859 : decode cL_law 859 = .ok (.ireturn, 1) := by decide +kernel
theorem dL_law_860 : decode cL_law 860 = .ok (.aload_n 1, 1) := by decide +kernel
theorem dL_law_861 : decode cL_law 861 = .ok (.aload_n 0, 1) := by decide +kernel
theorem dL_law_862 : decode cL_law 862 = .ok (.iload_n 3, 1) := by decide +kernel
theorem dL_law_863 : decode cL_law 863 = .ok (.iconst 1, 1) := by decide +kernel
theorem dL_law_864 : decode cL_law 864 = .ok (.iadd, 1) := by decide +kernel
theorem dL_law_865 : decode cL_law 865 = .ok (.iaload, 1) := by decide +kernel
theorem dL_law_866 : decode cL_law 866 = .ok (.aload_n 0, 1) := by decide +kernel
theorem dL_law_867 : decode cL_law 867 = .ok (.iload_n 3, 1) := by decide +kernel
theorem dL_law_868 : decode cL_law 868 = .ok (.iconst 2, 1) := by decide +kernel
theorem dL_law_869 : decode cL_law 869 = .ok (.iadd, 1) := by decide +kernel
theorem dL_law_870 : decode cL_law 870 = .ok (.iaload, 1) := by decide +kernel
theorem dL_law_871 : decode cL_law 871 = .ok (.invokevirtual 100, 3) := by decide +kernel
theorem dL_law_874 : decode cL_law 874 = .ok (.aload_n 2, 1) := by decide +kernel
theorem dL_law_875 : decode cL_law 875 = .ok (.aload_n 0, 1) := by decide +kernel
theorem dL_law_876 : decode cL_law 876 = .ok (.iload_n 3, 1) := by decide +kernel
theorem dL_law_877 : decode cL_law 877 = .ok (.iconst 1, 1) := by decide +kernel
theorem dL_law_878 : decode cL_law 878 = .ok (.iadd, 1) := by decide +kernel
theorem dL_law_879 : decode cL_law 879 = .ok (.iaload, 1) := by decide +kernel
theorem dL_law_880 : decode cL_law 880 = .ok (.aload_n 0, 1) := by decide +kernel
theorem dL_law_881 : decode cL_law 881 = .ok (.iload_n 3, 1) := by decide +kernel
theorem dL_law_882 : decode cL_law 882 = .ok (.iconst 2, 1) := by decide +kernel
theorem dL_law_883 : decode cL_law 883 = .ok (.iadd, 1) := by decide +kernel
theorem dL_law_884 : decode cL_law 884 = .ok (.iaload, 1) := by decide +kernel
theorem dL_law_885 : decode cL_law 885 = .ok (.invokevirtual 103, 3) := by decide +kernel
theorem dL_law_888 : decode cL_law 888 = .ok (.if_icmp .eq 358, 3) := by decide +kernel
theorem dL_law_891 : decode cL_law 891 = .ok (.iconst 0, 1) := by decide +kernel
theorem dL_law_892 : decode cL_law 892 = .ok (.ireturn, 1) := by decide +kernel
theorem dL_law_893 : decode cL_law 893 = .ok (.aload_n 1, 1) := by decide +kernel
theorem dL_law_894 : decode cL_law 894 = .ok (.aload_n 0, 1) := by decide +kernel
theorem dL_law_895 : decode cL_law 895 = .ok (.iload_n 3, 1) := by decide +kernel
theorem dL_law_896 : decode cL_law 896 = .ok (.iconst 1, 1) := by decide +kernel
theorem dL_law_897 : decode cL_law 897 = .ok (.iadd, 1) := by decide +kernel
theorem dL_law_898 : decode cL_law 898 = .ok (.iaload, 1) := by decide +kernel
theorem dL_law_899 : decode cL_law 899 = .ok (.aload_n 0, 1) := by decide +kernel
theorem dL_law_900 : decode cL_law 900 = .ok (.iload_n 3, 1) := by decide +kernel
theorem dL_law_901 : decode cL_law 901 = .ok (.iconst 2, 1) := by decide +kernel
theorem dL_law_902 : decode cL_law 902 = .ok (.iadd, 1) := by decide +kernel
theorem dL_law_903 : decode cL_law 903 = .ok (.iaload, 1) := by decide +kernel
theorem dL_law_904 : decode cL_law 904 = .ok (.aload_n 0, 1) := by decide +kernel
theorem dL_law_905 : decode cL_law 905 = .ok (.iload_n 3, 1) := by decide +kernel
theorem dL_law_906 : decode cL_law 906 = .ok (.iconst 3, 1) := by decide +kernel
theorem dL_law_907 : decode cL_law 907 = .ok (.iadd, 1) := by decide +kernel
theorem dL_law_908 : decode cL_law 908 = .ok (.iaload, 1) := by decide +kernel
theorem dL_law_909 : decode cL_law 909 = .ok (.invokevirtual 104, 3) := by decide +kernel
theorem dL_law_912 : decode cL_law 912 = .ok (.aload_n 2, 1) := by decide +kernel
theorem dL_law_913 : decode cL_law 913 = .ok (.aload_n 0, 1) := by decide +kernel
theorem dL_law_914 : decode cL_law 914 = .ok (.iload_n 3, 1) := by decide +kernel
theorem dL_law_915 : decode cL_law 915 = .ok (.iconst 1, 1) := by decide +kernel
theorem dL_law_916 : decode cL_law 916 = .ok (.iadd, 1) := by decide +kernel
theorem dL_law_917 : decode cL_law 917 = .ok (.iaload, 1) := by decide +kernel
theorem dL_law_918 : decode cL_law 918 = .ok (.aload_n 0, 1) := by decide +kernel
theorem dL_law_919 : decode cL_law 919 = .ok (.iload_n 3, 1) := by decide +kernel
theorem dL_law_920 : decode cL_law 920 = .ok (.iconst 2, 1) := by decide +kernel
theorem dL_law_921 : decode cL_law 921 = .ok (.iadd, 1) := by decide +kernel
theorem dL_law_922 : decode cL_law 922 = .ok (.iaload, 1) := by decide +kernel
theorem dL_law_923 : decode cL_law 923 = .ok (.aload_n 0, 1) := by decide +kernel
theorem dL_law_924 : decode cL_law 924 = .ok (.iload_n 3, 1) := by decide +kernel
theorem dL_law_925 : decode cL_law 925 = .ok (.iconst 3, 1) := by decide +kernel
theorem dL_law_926 : decode cL_law 926 = .ok (.iadd, 1) := by decide +kernel
theorem dL_law_927 : decode cL_law 927 = .ok (.iaload, 1) := by decide +kernel
theorem dL_law_928 : decode cL_law 928 = .ok (.invokevirtual 107, 3) := by decide +kernel
theorem dL_law_931 : decode cL_law 931 = .ok (.if_icmp .eq 315, 3) := by decide +kernel
theorem dL_law_934 : decode cL_law 934 = .ok (.iconst 0, 1) := by decide +kernel
theorem dL_law_935 : decode cL_law 935 = .ok (.ireturn, 1) := by decide +kernel
theorem dL_law_936 : decode cL_law 936 = .ok (.aload_n 1, 1) := by decide +kernel
theorem dL_law_937 : decode cL_law 937 = .ok (.aload_n 0, 1) := by decide +kernel
theorem dL_law_938 : decode cL_law 938 = .ok (.iload_n 3, 1) := by decide +kernel
theorem dL_law_939 : decode cL_law 939 = .ok (.iconst 1, 1) := by decide +kernel
theorem dL_law_940 : decode cL_law 940 = .ok (.iadd, 1) := by decide +kernel
theorem dL_law_941 : decode cL_law 941 = .ok (.iaload, 1) := by decide +kernel
theorem dL_law_942 : decode cL_law 942 = .ok (.aload_n 0, 1) := by decide +kernel
theorem dL_law_943 : decode cL_law 943 = .ok (.iload_n 3, 1) := by decide +kernel
theorem dL_law_944 : decode cL_law 944 = .ok (.iconst 2, 1) := by decide +kernel
theorem dL_law_945 : decode cL_law 945 = .ok (.iadd, 1) := by decide +kernel
theorem dL_law_946 : decode cL_law 946 = .ok (.iaload, 1) := by decide +kernel
theorem dL_law_947 : decode cL_law 947 = .ok (.invokevirtual 108, 3) := by decide +kernel
theorem dL_law_950 : decode cL_law 950 = .ok (.aload_n 2, 1) := by decide +kernel
theorem dL_law_951 : decode cL_law 951 = .ok (.aload_n 0, 1) := by decide +kernel
theorem dL_law_952 : decode cL_law 952 = .ok (.iload_n 3, 1) := by decide +kernel
theorem dL_law_953 : decode cL_law 953 = .ok (.iconst 1, 1) := by decide +kernel
theorem dL_law_954 : decode cL_law 954 = .ok (.iadd, 1) := by decide +kernel
theorem dL_law_955 : decode cL_law 955 = .ok (.iaload, 1) := by decide +kernel
theorem dL_law_956 : decode cL_law 956 = .ok (.aload_n 0, 1) := by decide +kernel
theorem dL_law_957 : decode cL_law 957 = .ok (.iload_n 3, 1) := by decide +kernel
theorem dL_law_958 : decode cL_law 958 = .ok (.iconst 2, 1) := by decide +kernel
theorem dL_law_959 : decode cL_law 959 = .ok (.iadd, 1) := by decide +kernel
theorem dL_law_960 : decode cL_law 960 = .ok (.iaload, 1) := by decide +kernel
theorem dL_law_961 : decode cL_law 961 = .ok (.invokevirtual 111, 3) := by decide +kernel
theorem dL_law_964 : decode cL_law 964 = .ok (.if_icmp .eq 282, 3) := by decide +kernel
theorem dL_law_967 : decode cL_law 967 = .ok (.iconst 0, 1) := by decide +kernel
theorem dL_law_968 : decode cL_law 968 = .ok (.ireturn, 1) := by decide +kernel
theorem dL_law_969 : decode cL_law 969 = .ok (.aload_n 1, 1) := by decide +kernel
theorem dL_law_970 : decode cL_law 970 = .ok (.aload_n 0, 1) := by decide +kernel
theorem dL_law_971 : decode cL_law 971 = .ok (.iload_n 3, 1) := by decide +kernel
theorem dL_law_972 : decode cL_law 972 = .ok (.iconst 1, 1) := by decide +kernel
theorem dL_law_973 : decode cL_law 973 = .ok (.iadd, 1) := by decide +kernel
theorem dL_law_974 : decode cL_law 974 = .ok (.iaload, 1) := by decide +kernel
theorem dL_law_975 : decode cL_law 975 = .ok (.invokevirtual 112, 3) := by decide +kernel
theorem dL_law_978 : decode cL_law 978 = .ok (.aload_n 2, 1) := by decide +kernel
theorem dL_law_979 : decode cL_law 979 = .ok (.aload_n 0, 1) := by decide +kernel
theorem dL_law_980 : decode cL_law 980 = .ok (.iload_n 3, 1) := by decide +kernel
theorem dL_law_981 : decode cL_law 981 = .ok (.iconst 1, 1) := by decide +kernel
theorem dL_law_982 : decode cL_law 982 = .ok (.iadd, 1) := by decide +kernel
theorem dL_law_983 : decode cL_law 983 = .ok (.iaload, 1) := by decide +kernel
theorem dL_law_984 : decode cL_law 984 = .ok (.invokevirtual 115, 3) := by decide +kernel
theorem dL_law_987 : decode cL_law 987 = .ok (.if_icmp .eq 259, 3) := by decide +kernel
theorem dL_law_990 : decode cL_law 990 = .ok (.iconst 0, 1) := by decide +kernel
theorem dL_law_991 : decode cL_law 991 = .ok (.ireturn, 1) := by decide +kernel
theorem dL_law_992 : decode cL_law 992 = .ok (.aload_n 1, 1) := by decide +kernel
theorem dL_law_993 : decode cL_law 993 = .ok (.aload_n 0, 1) := by decide +kernel
theorem dL_law_994 : decode cL_law 994 = .ok (.iload_n 3, 1) := by decide +kernel
theorem dL_law_995 : decode cL_law 995 = .ok (.iconst 1, 1) := by decide +kernel
theorem dL_law_996 : decode cL_law 996 = .ok (.iadd, 1) := by decide +kernel
theorem dL_law_997 : decode cL_law 997 = .ok (.iaload, 1) := by decide +kernel
theorem dL_law_998 : decode cL_law 998 = .ok (.aload_n 0, 1) := by decide +kernel
theorem dL_law_999 : decode cL_law 999 = .ok (.iload_n 3, 1) := by decide +kernel
theorem dL_law_1000 : decode cL_law 1000 = .ok (.iconst 2, 1) := by decide +kernel
theorem dL_law_1001 : decode cL_law 1001 = .ok (.iadd, 1) := by decide +kernel
theorem dL_law_1002 : decode cL_law 1002 = .ok (.iaload, 1) := by decide +kernel
theorem dL_law_1003 : decode cL_law 1003 = .ok (.invokevirtual 116, 3) := by decide +kernel
theorem dL_law_1006 : decode cL_law 1006 = .ok (.aload_n 2, 1) := by decide +kernel
theorem dL_law_1007 : decode cL_law 1007 = .ok (.aload_n 0, 1) := by decide +kernel
theorem dL_law_1008 : decode cL_law 1008 = .ok (.iload_n 3, 1) := by decide +kernel
theorem dL_law_1009 : decode cL_law 1009 = .ok (.iconst 1, 1) := by decide +kernel
theorem dL_law_1010 : decode cL_law 1010 = .ok (.iadd, 1) := by decide +kernel
theorem dL_law_1011 : decode cL_law 1011 = .ok (.iaload, 1) := by decide +kernel
theorem dL_law_1012 : decode cL_law 1012 = .ok (.aload_n 0, 1) := by decide +kernel
theorem dL_law_1013 : decode cL_law 1013 = .ok (.iload_n 3, 1) := by decide +kernel
theorem dL_law_1014 : decode cL_law 1014 = .ok (.iconst 2, 1) := by decide +kernel
theorem dL_law_1015 : decode cL_law 1015 = .ok (.iadd, 1) := by decide +kernel
theorem dL_law_1016 : decode cL_law 1016 = .ok (.iaload, 1) := by decide +kernel
theorem dL_law_1017 : decode cL_law 1017 = .ok (.invokevirtual 119, 3) := by decide +kernel
theorem dL_law_1020 : decode cL_law 1020 = .ok (.if_icmp .eq 226, 3) := by decide +kernel
theorem dL_law_1023 : decode cL_law 1023 = .ok (.iconst 0, 1) := by decide +kernel
theorem dL_law_1024 : decode cL_law 1024 = .ok (.ireturn, 1) := by decide +kernel
theorem dL_law_1025 : decode cL_law 1025 = .ok (.aload_n 1, 1) := by decide +kernel
theorem dL_law_1026 : decode cL_law 1026 = .ok (.aload_n 0, 1) := by decide +kernel
theorem dL_law_1027 : decode cL_law 1027 = .ok (.iload_n 3, 1) := by decide +kernel
theorem dL_law_1028 : decode cL_law 1028 = .ok (.iconst 1, 1) := by decide +kernel
theorem dL_law_1029 : decode cL_law 1029 = .ok (.iadd, 1) := by decide +kernel
theorem dL_law_1030 : decode cL_law 1030 = .ok (.iaload, 1) := by decide +kernel
theorem dL_law_1031 : decode cL_law 1031 = .ok (.aload_n 0, 1) := by decide +kernel
theorem dL_law_1032 : decode cL_law 1032 = .ok (.iload_n 3, 1) := by decide +kernel
theorem dL_law_1033 : decode cL_law 1033 = .ok (.iconst 2, 1) := by decide +kernel
theorem dL_law_1034 : decode cL_law 1034 = .ok (.iadd, 1) := by decide +kernel
theorem dL_law_1035 : decode cL_law 1035 = .ok (.iaload, 1) := by decide +kernel
theorem dL_law_1036 : decode cL_law 1036 = .ok (.aload_n 0, 1) := by decide +kernel
theorem dL_law_1037 : decode cL_law 1037 = .ok (.iload_n 3, 1) := by decide +kernel
theorem dL_law_1038 : decode cL_law 1038 = .ok (.iconst 3, 1) := by decide +kernel
theorem dL_law_1039 : decode cL_law 1039 = .ok (.iadd, 1) := by decide +kernel
theorem dL_law_1040 : decode cL_law 1040 = .ok (.iaload, 1) := by decide +kernel
theorem dL_law_1041 : decode cL_law 1041 = .ok (.invokevirtual 120, 3) := by decide +kernel
theorem dL_law_1044 : decode cL_law 1044 = .ok (.aload_n 2, 1) := by decide +kernel
theorem dL_law_1045 : decode cL_law 1045 = .ok (.aload_n 0, 1) := by decide +kernel
theorem dL_law_1046 : decode cL_law 1046 = .ok (.iload_n 3, 1) := by decide +kernel
theorem dL_law_1047 : decode cL_law 1047 = .ok (.iconst 1, 1) := by decide +kernel
theorem dL_law_1048 : decode cL_law 1048 = .ok (.iadd, 1) := by decide +kernel
theorem dL_law_1049 : decode cL_law 1049 = .ok (.iaload, 1) := by decide +kernel
theorem dL_law_1050 : decode cL_law 1050 = .ok (.aload_n 0, 1) := by decide +kernel
theorem dL_law_1051 : decode cL_law 1051 = .ok (.iload_n 3, 1) := by decide +kernel
theorem dL_law_1052 : decode cL_law 1052 = .ok (.iconst 2, 1) := by decide +kernel
theorem dL_law_1053 : decode cL_law 1053 = .ok (.iadd, 1) := by decide +kernel
theorem dL_law_1054 : decode cL_law 1054 = .ok (.iaload, 1) := by decide +kernel
theorem dL_law_1055 : decode cL_law 1055 = .ok (.aload_n 0, 1) := by decide +kernel
theorem dL_law_1056 : decode cL_law 1056 = .ok (.iload_n 3, 1) := by decide +kernel
theorem dL_law_1057 : decode cL_law 1057 = .ok (.iconst 3, 1) := by decide +kernel
theorem dL_law_1058 : decode cL_law 1058 = .ok (.iadd, 1) := by decide +kernel
theorem dL_law_1059 : decode cL_law 1059 = .ok (.iaload, 1) := by decide +kernel
theorem dL_law_1060 : decode cL_law 1060 = .ok (.invokevirtual 123, 3) := by decide +kernel
theorem dL_law_1063 : decode cL_law 1063 = .ok (.if_icmp .eq 183, 3) := by decide +kernel
theorem dL_law_1066 : decode cL_law 1066 = .ok (.iconst 0, 1) := by decide +kernel
theorem dL_law_1067 : decode cL_law 1067 = .ok (.ireturn, 1) := by decide +kernel
theorem dL_law_1068 : decode cL_law 1068 = .ok (.aload_n 1, 1) := by decide +kernel
theorem dL_law_1069 : decode cL_law 1069 = .ok (.aload_n 0, 1) := by decide +kernel
theorem dL_law_1070 : decode cL_law 1070 = .ok (.iload_n 3, 1) := by decide +kernel
theorem dL_law_1071 : decode cL_law 1071 = .ok (.iconst 1, 1) := by decide +kernel
theorem dL_law_1072 : decode cL_law 1072 = .ok (.iadd, 1) := by decide +kernel
theorem dL_law_1073 : decode cL_law 1073 = .ok (.iaload, 1) := by decide +kernel
theorem dL_law_1074 : decode cL_law 1074 = .ok (.aload_n 0, 1) := by decide +kernel
theorem dL_law_1075 : decode cL_law 1075 = .ok (.iload_n 3, 1) := by decide +kernel
theorem dL_law_1076 : decode cL_law 1076 = .ok (.iconst 2, 1) := by decide +kernel
theorem dL_law_1077 : decode cL_law 1077 = .ok (.iadd, 1) := by decide +kernel
theorem dL_law_1078 : decode cL_law 1078 = .ok (.iaload, 1) := by decide +kernel
theorem dL_law_1079 : decode cL_law 1079 = .ok (.aload_n 0, 1) := by decide +kernel
theorem dL_law_1080 : decode cL_law 1080 = .ok (.iload_n 3, 1) := by decide +kernel
theorem dL_law_1081 : decode cL_law 1081 = .ok (.iconst 3, 1) := by decide +kernel
theorem dL_law_1082 : decode cL_law 1082 = .ok (.iadd, 1) := by decide +kernel
theorem dL_law_1083 : decode cL_law 1083 = .ok (.iaload, 1) := by decide +kernel
theorem dL_law_1084 : decode cL_law 1084 = .ok (.aload_n 0, 1) := by decide +kernel
theorem dL_law_1085 : decode cL_law 1085 = .ok (.iload_n 3, 1) := by decide +kernel
theorem dL_law_1086 : decode cL_law 1086 = .ok (.iconst 4, 1) := by decide +kernel
theorem dL_law_1087 : decode cL_law 1087 = .ok (.iadd, 1) := by decide +kernel
theorem dL_law_1088 : decode cL_law 1088 = .ok (.iaload, 1) := by decide +kernel
theorem dL_law_1089 : decode cL_law 1089 = .ok (.invokevirtual 124, 3) := by decide +kernel
theorem dL_law_1092 : decode cL_law 1092 = .ok (.aload_n 2, 1) := by decide +kernel
theorem dL_law_1093 : decode cL_law 1093 = .ok (.aload_n 0, 1) := by decide +kernel
theorem dL_law_1094 : decode cL_law 1094 = .ok (.iload_n 3, 1) := by decide +kernel
theorem dL_law_1095 : decode cL_law 1095 = .ok (.iconst 1, 1) := by decide +kernel
theorem dL_law_1096 : decode cL_law 1096 = .ok (.iadd, 1) := by decide +kernel
theorem dL_law_1097 : decode cL_law 1097 = .ok (.iaload, 1) := by decide +kernel
theorem dL_law_1098 : decode cL_law 1098 = .ok (.aload_n 0, 1) := by decide +kernel
theorem dL_law_1099 : decode cL_law 1099 = .ok (.iload_n 3, 1) := by decide +kernel
theorem dL_law_1100 : decode cL_law 1100 = .ok (.iconst 2, 1) := by decide +kernel
theorem dL_law_1101 : decode cL_law 1101 = .ok (.iadd, 1) := by decide +kernel
theorem dL_law_1102 : decode cL_law 1102 = .ok (.iaload, 1) := by decide +kernel
theorem dL_law_1103 : decode cL_law 1103 = .ok (.aload_n 0, 1) := by decide +kernel
theorem dL_law_1104 : decode cL_law 1104 = .ok (.iload_n 3, 1) := by decide +kernel
theorem dL_law_1105 : decode cL_law 1105 = .ok (.iconst 3, 1) := by decide +kernel
theorem dL_law_1106 : decode cL_law 1106 = .ok (.iadd, 1) := by decide +kernel
theorem dL_law_1107 : decode cL_law 1107 = .ok (.iaload, 1) := by decide +kernel
theorem dL_law_1108 : decode cL_law 1108 = .ok (.aload_n 0, 1) := by decide +kernel
theorem dL_law_1109 : decode cL_law 1109 = .ok (.iload_n 3, 1) := by decide +kernel
theorem dL_law_1110 : decode cL_law 1110 = .ok (.iconst 4, 1) := by decide +kernel
theorem dL_law_1111 : decode cL_law 1111 = .ok (.iadd, 1) := by decide +kernel
theorem dL_law_1112 : decode cL_law 1112 = .ok (.iaload, 1) := by decide +kernel
theorem dL_law_1113 : decode cL_law 1113 = .ok (.invokevirtual 128, 3) := by decide +kernel
theorem dL_law_1116 : decode cL_law 1116 = .ok (.if_icmp .eq 130, 3) := by decide +kernel
theorem dL_law_1119 : decode cL_law 1119 = .ok (.iconst 0, 1) := by decide +kernel
theorem dL_law_1120 : decode cL_law 1120 = .ok (.ireturn, 1) := by decide +kernel
theorem dL_law_1121 : decode cL_law 1121 = .ok (.aload_n 1, 1) := by decide +kernel
theorem dL_law_1122 : decode cL_law 1122 = .ok (.aload_n 0, 1) := by decide +kernel
theorem dL_law_1123 : decode cL_law 1123 = .ok (.iload_n 3, 1) := by decide +kernel
theorem dL_law_1124 : decode cL_law 1124 = .ok (.iconst 1, 1) := by decide +kernel
theorem dL_law_1125 : decode cL_law 1125 = .ok (.iadd, 1) := by decide +kernel
theorem dL_law_1126 : decode cL_law 1126 = .ok (.iaload, 1) := by decide +kernel
theorem dL_law_1127 : decode cL_law 1127 = .ok (.invokevirtual 129, 3) := by decide +kernel
theorem dL_law_1130 : decode cL_law 1130 = .ok (.aload_n 2, 1) := by decide +kernel
theorem dL_law_1131 : decode cL_law 1131 = .ok (.aload_n 0, 1) := by decide +kernel
theorem dL_law_1132 : decode cL_law 1132 = .ok (.iload_n 3, 1) := by decide +kernel
theorem dL_law_1133 : decode cL_law 1133 = .ok (.iconst 1, 1) := by decide +kernel
theorem dL_law_1134 : decode cL_law 1134 = .ok (.iadd, 1) := by decide +kernel
theorem dL_law_1135 : decode cL_law 1135 = .ok (.iaload, 1) := by decide +kernel
theorem dL_law_1136 : decode cL_law 1136 = .ok (.invokevirtual 132, 3) := by decide +kernel
theorem dL_law_1139 : decode cL_law 1139 = .ok (.if_icmp .eq 107, 3) := by decide +kernel
theorem dL_law_1142 : decode cL_law 1142 = .ok (.iconst 0, 1) := by decide +kernel
theorem dL_law_1143 : decode cL_law 1143 = .ok (.ireturn, 1) := by decide +kernel
theorem dL_law_1144 : decode cL_law 1144 = .ok (.aload_n 1, 1) := by decide +kernel
theorem dL_law_1145 : decode cL_law 1145 = .ok (.aload_n 0, 1) := by decide +kernel
theorem dL_law_1146 : decode cL_law 1146 = .ok (.iload_n 3, 1) := by decide +kernel
theorem dL_law_1147 : decode cL_law 1147 = .ok (.iconst 1, 1) := by decide +kernel
theorem dL_law_1148 : decode cL_law 1148 = .ok (.iadd, 1) := by decide +kernel
theorem dL_law_1149 : decode cL_law 1149 = .ok (.iaload, 1) := by decide +kernel
theorem dL_law_1150 : decode cL_law 1150 = .ok (.aload_n 0, 1) := by decide +kernel
theorem dL_law_1151 : decode cL_law 1151 = .ok (.iload_n 3, 1) := by decide +kernel
theorem dL_law_1152 : decode cL_law 1152 = .ok (.iconst 2, 1) := by decide +kernel
theorem dL_law_1153 : decode cL_law 1153 = .ok (.iadd, 1) := by decide +kernel
theorem dL_law_1154 : decode cL_law 1154 = .ok (.iaload, 1) := by decide +kernel
theorem dL_law_1155 : decode cL_law 1155 = .ok (.invokevirtual 133, 3) := by decide +kernel
theorem dL_law_1158 : decode cL_law 1158 = .ok (.aload_n 2, 1) := by decide +kernel
theorem dL_law_1159 : decode cL_law 1159 = .ok (.aload_n 0, 1) := by decide +kernel
theorem dL_law_1160 : decode cL_law 1160 = .ok (.iload_n 3, 1) := by decide +kernel
theorem dL_law_1161 : decode cL_law 1161 = .ok (.iconst 1, 1) := by decide +kernel
theorem dL_law_1162 : decode cL_law 1162 = .ok (.iadd, 1) := by decide +kernel
theorem dL_law_1163 : decode cL_law 1163 = .ok (.iaload, 1) := by decide +kernel
theorem dL_law_1164 : decode cL_law 1164 = .ok (.aload_n 0, 1) := by decide +kernel
theorem dL_law_1165 : decode cL_law 1165 = .ok (.iload_n 3, 1) := by decide +kernel
theorem dL_law_1166 : decode cL_law 1166 = .ok (.iconst 2, 1) := by decide +kernel
theorem dL_law_1167 : decode cL_law 1167 = .ok (.iadd, 1) := by decide +kernel
theorem dL_law_1168 : decode cL_law 1168 = .ok (.iaload, 1) := by decide +kernel
theorem dL_law_1169 : decode cL_law 1169 = .ok (.invokevirtual 136, 3) := by decide +kernel
theorem dL_law_1172 : decode cL_law 1172 = .ok (.if_icmp .eq 74, 3) := by decide +kernel
theorem dL_law_1175 : decode cL_law 1175 = .ok (.iconst 0, 1) := by decide +kernel
theorem dL_law_1176 : decode cL_law 1176 = .ok (.ireturn, 1) := by decide +kernel
theorem dL_law_1177 : decode cL_law 1177 = .ok (.aload_n 1, 1) := by decide +kernel
theorem dL_law_1178 : decode cL_law 1178 = .ok (.aload_n 0, 1) := by decide +kernel
theorem dL_law_1179 : decode cL_law 1179 = .ok (.iload_n 3, 1) := by decide +kernel
theorem dL_law_1180 : decode cL_law 1180 = .ok (.iconst 1, 1) := by decide +kernel
theorem dL_law_1181 : decode cL_law 1181 = .ok (.iadd, 1) := by decide +kernel
theorem dL_law_1182 : decode cL_law 1182 = .ok (.iaload, 1) := by decide +kernel
theorem dL_law_1183 : decode cL_law 1183 = .ok (.aload_n 0, 1) := by decide +kernel
theorem dL_law_1184 : decode cL_law 1184 = .ok (.iload_n 3, 1) := by decide +kernel
theorem dL_law_1185 : decode cL_law 1185 = .ok (.iconst 2, 1) := by decide +kernel
theorem dL_law_1186 : decode cL_law 1186 = .ok (.iadd, 1) := by decide +kernel
theorem dL_law_1187 : decode cL_law 1187 = .ok (.iaload, 1) := by decide +kernel
theorem dL_law_1188 : decode cL_law 1188 = .ok (.invokevirtual 137, 3) := by decide +kernel
theorem dL_law_1191 : decode cL_law 1191 = .ok (.aload_n 2, 1) := by decide +kernel
theorem dL_law_1192 : decode cL_law 1192 = .ok (.aload_n 0, 1) := by decide +kernel
theorem dL_law_1193 : decode cL_law 1193 = .ok (.iload_n 3, 1) := by decide +kernel
theorem dL_law_1194 : decode cL_law 1194 = .ok (.iconst 1, 1) := by decide +kernel
theorem dL_law_1195 : decode cL_law 1195 = .ok (.iadd, 1) := by decide +kernel
theorem dL_law_1196 : decode cL_law 1196 = .ok (.iaload, 1) := by decide +kernel
theorem dL_law_1197 : decode cL_law 1197 = .ok (.aload_n 0, 1) := by decide +kernel
theorem dL_law_1198 : decode cL_law 1198 = .ok (.iload_n 3, 1) := by decide +kernel
theorem dL_law_1199 : decode cL_law 1199 = .ok (.iconst 2, 1) := by decide +kernel
theorem dL_law_1200 : decode cL_law 1200 = .ok (.iadd, 1) := by decide +kernel
theorem dL_law_1201 : decode cL_law 1201 = .ok (.iaload, 1) := by decide +kernel
theorem dL_law_1202 : decode cL_law 1202 = .ok (.invokevirtual 140, 3) := by decide +kernel
theorem dL_law_1205 : decode cL_law 1205 = .ok (.if_icmp .eq 41, 3) := by decide +kernel
theorem dL_law_1208 : decode cL_law 1208 = .ok (.iconst 0, 1) := by decide +kernel
theorem dL_law_1209 : decode cL_law 1209 = .ok (.ireturn, 1) := by decide +kernel
theorem dL_law_1210 : decode cL_law 1210 = .ok (.aload_n 1, 1) := by decide +kernel
theorem dL_law_1211 : decode cL_law 1211 = .ok (.invokevirtual 141, 3) := by decide +kernel
theorem dL_law_1214 : decode cL_law 1214 = .ok (.aload_n 2, 1) := by decide +kernel
theorem dL_law_1215 : decode cL_law 1215 = .ok (.invokevirtual 144, 3) := by decide +kernel
theorem dL_law_1218 : decode cL_law 1218 = .ok (.if_icmp .eq 28, 3) := by decide +kernel
theorem dL_law_1221 : decode cL_law 1221 = .ok (.iconst 0, 1) := by decide +kernel
theorem dL_law_1222 : decode cL_law 1222 = .ok (.ireturn, 1) := by decide +kernel
theorem dL_law_1223 : decode cL_law 1223 = .ok (.aload_n 1, 1) := by decide +kernel
theorem dL_law_1224 : decode cL_law 1224 = .ok (.aload_n 0, 1) := by decide +kernel
theorem dL_law_1225 : decode cL_law 1225 = .ok (.iload_n 3, 1) := by decide +kernel
theorem dL_law_1226 : decode cL_law 1226 = .ok (.iconst 1, 1) := by decide +kernel
theorem dL_law_1227 : decode cL_law 1227 = .ok (.iadd, 1) := by decide +kernel
theorem dL_law_1228 : decode cL_law 1228 = .ok (.iaload, 1) := by decide +kernel
theorem dL_law_1229 : decode cL_law 1229 = .ok (.invokevirtual 145, 3) := by decide +kernel
theorem dL_law_1232 : decode cL_law 1232 = .ok (.aload_n 2, 1) := by decide +kernel
theorem dL_law_1233 : decode cL_law 1233 = .ok (.aload_n 0, 1) := by decide +kernel
theorem dL_law_1234 : decode cL_law 1234 = .ok (.iload_n 3, 1) := by decide +kernel
theorem dL_law_1235 : decode cL_law 1235 = .ok (.iconst 1, 1) := by decide +kernel
theorem dL_law_1236 : decode cL_law 1236 = .ok (.iadd, 1) := by decide +kernel
theorem dL_law_1237 : decode cL_law 1237 = .ok (.iaload, 1) := by decide +kernel
theorem dL_law_1238 : decode cL_law 1238 = .ok (.invokevirtual 148, 3) := by decide +kernel
theorem dL_law_1241 : decode cL_law 1241 = .ok (.if_icmp .eq 5, 3) := by decide +kernel
theorem dL_law_1244 : decode cL_law 1244 = .ok (.iconst 0, 1) := by decide +kernel
theorem dL_law_1245 : decode cL_law 1245 = .ok (.ireturn, 1) := by decide +kernel
theorem dL_law_1246 : decode cL_law 1246 = .ok (.iinc 3 7, 3) := by decide +kernel
theorem dL_law_1249 : decode cL_law 1249 = .ok (.goto (-1231), 3) := by decide +kernel
theorem dL_law_1252 : decode cL_law 1252 = .ok (.iconst 1, 1) := by decide +kernel
theorem dL_law_1253 : decode cL_law 1253 = .ok (.ireturn, 1) := by decide +kernel
