theorem dX0_init_0 : decode cX0_init 0 = .ok (.aload_n 0, 1) := by decide +kernel
theorem dX0_init_1 : decode cX0_init 1 = .ok (.invokespecial 3, 3) := by decide +kernel
theorem dX0_init_4 : decode cX0_init 4 = .ok (.aload_n 0, 1) := by decide +kernel
theorem dX0_init_5 : decode cX0_init 5 = .ok (.new 9, 3) := by decide +kernel
theorem dX0_init_8 : decode cX0_init 8 = .ok (.dup, 1) := by decide +kernel
theorem dX0_init_9 : decode cX0_init 9 = .ok (.invokespecial 11, 3) := by decide +kernel
theorem dX0_init_12 : decode cX0_init 12 = .ok (.putfield 12, 3) := by decide +kernel
theorem dX0_init_15 : decode cX0_init 15 = .ok (.return_, 1) := by decide +kernel
theorem dX0_because_0 : decode cX0_because 0 = .ok (.aload_n 0, 1) := by decide +kernel
theorem dX0_because_1 : decode cX0_because 1 = .ok (.iload_n 2, 1) := by decide +kernel
theorem dX0_because_2 : decode cX0_because 2 = .ok (.putfield 18, 3) := by decide +kernel
theorem dX0_because_5 : decode cX0_because 5 = .ok (.iload_n 1, 1) := by decide +kernel
theorem dX0_because_6 : decode cX0_because 6 = .ok (.ireturn, 1) := by decide +kernel
theorem dX0_adding_0 : decode cX0_adding 0 = .ok (.ldc 22, 2) := by decide +kernel
theorem dX0_adding_2 : decode cX0_adding 2 = .ok (.iload_n 1, 1) := by decide +kernel
theorem dX0_adding_3 : decode cX0_adding 3 = .ok (.invokevirtual 24, 3) := by decide +kernel
theorem dX0_adding_6 : decode cX0_adding 6 = .ok (.ifCond .lt 14, 3) := by decide +kernel
theorem dX0_adding_9 : decode cX0_adding 9 = .ok (.iload_n 2, 1) := by decide +kernel
theorem dX0_adding_10 : decode cX0_adding 10 = .ok (.iconst 1, 1) := by decide +kernel
theorem dX0_adding_11 : decode cX0_adding 11 = .ok (.if_icmp .lt 9, 3) := by decide +kernel
theorem dX0_adding_14 : decode cX0_adding 14 = .ok (.iload_n 2, 1) := by decide +kernel
theorem dX0_adding_15 : decode cX0_adding 15 = .ok (.bipush 9, 2) := by decide +kernel
theorem dX0_adding_17 : decode cX0_adding 17 = .ok (.if_icmp .le 6, 3) := by decide +kernel
theorem dX0_adding_20 : decode cX0_adding 20 = .ok (.bipush (-2), 2) := by decide +kernel
theorem dX0_adding_22 : decode cX0_adding 22 = .ok (.ireturn, 1) := by decide +kernel
theorem dX0_adding_23 : decode cX0_adding 23 = .ok (.aload_n 0, 1) := by decide +kernel
theorem dX0_adding_24 : decode cX0_adding 24 = .ok (.getfield 12, 3) := by decide +kernel
theorem dX0_adding_27 : decode cX0_adding 27 = .ok (.getfield 30, 3) := by decide +kernel
theorem dX0_adding_30 : decode cX0_adding 30 = .ok (.bipush 14, 2) := by decide +kernel
theorem dX0_adding_32 : decode cX0_adding 32 = .ok (.if_icmp .lt 13, 3) := by decide +kernel
theorem dX0_adding_35 : decode cX0_adding 35 = .ok (.aload_n 0, 1) := by decide +kernel
theorem dX0_adding_36 : decode cX0_adding 36 = .ok (.iconst 1, 1) := by decide +kernel
theorem dX0_adding_37 : decode cX0_adding 37 = .ok (.bipush 14, 2) := by decide +kernel
theorem dX0_adding_39 : decode cX0_adding 39 = .ok (.invokevirtual 33, 3) := by decide +kernel
theorem dX0_adding_42 : decode cX0_adding 42 = .ok (.goto 4, 3) := by decide +kernel
theorem dX0_adding_45 : decode cX0_adding 45 = .ok (.iconst 0, 1) := by decide +kernel
theorem dX0_adding_46 : decode cX0_adding 46 = .ok (.ireturn, 1) := by decide +kernel
theorem dX0_applying_0 : decode cX0_applying 0 = .ok (.aload_n 0, 1) := by decide +kernel
theorem dX0_applying_1 : decode cX0_applying 1 = .ok (.getfield 12, 3) := by decide +kernel
theorem dX0_applying_4 : decode cX0_applying 4 = .ok (.iload_n 1, 1) := by decide +kernel
theorem dX0_applying_5 : decode cX0_applying 5 = .ok (.invokevirtual 37, 3) := by decide +kernel
theorem dX0_applying_8 : decode cX0_applying 8 = .ok (.ifCond .eq 10, 3) := by decide +kernel
theorem dX0_applying_11 : decode cX0_applying 11 = .ok (.iload_n 2, 1) := by decide +kernel
theorem dX0_applying_12 : decode cX0_applying 12 = .ok (.invokestatic 41, 3) := by decide +kernel
theorem dX0_applying_15 : decode cX0_applying 15 = .ok (.ifCond .ne 5, 3) := by decide +kernel
theorem dX0_applying_18 : decode cX0_applying 18 = .ok (.iconst (-1), 1) := by decide +kernel
theorem dX0_applying_19 : decode cX0_applying 19 = .ok (.ireturn, 1) := by decide +kernel
theorem dX0_applying_20 : decode cX0_applying 20 = .ok (.aload_n 0, 1) := by decide +kernel
theorem dX0_applying_21 : decode cX0_applying 21 = .ok (.getfield 12, 3) := by decide +kernel
theorem dX0_applying_24 : decode cX0_applying 24 = .ok (.getfield 44, 3) := by decide +kernel
theorem dX0_applying_27 : decode cX0_applying 27 = .ok (.iload_n 1, 1) := by decide +kernel
theorem dX0_applying_28 : decode cX0_applying 28 = .ok (.iaload, 1) := by decide +kernel
theorem dX0_applying_29 : decode cX0_applying 29 = .ok (.ifCond .eq 20, 3) := by decide +kernel
theorem dX0_applying_32 : decode cX0_applying 32 = .ok (.aload_n 0, 1) := by decide +kernel
theorem dX0_applying_33 : decode cX0_applying 33 = .ok (.iconst 2, 1) := by decide +kernel
theorem dX0_applying_34 : decode cX0_applying 34 = .ok (.aload_n 0, 1) := by decide +kernel
theorem dX0_applying_35 : decode cX0_applying 35 = .ok (.getfield 12, 3) := by decide +kernel
theorem dX0_applying_38 : decode cX0_applying 38 = .ok (.getfield 48, 3) := by decide +kernel
theorem dX0_applying_41 : decode cX0_applying 41 = .ok (.iload_n 1, 1) := by decide +kernel
theorem dX0_applying_42 : decode cX0_applying 42 = .ok (.iaload, 1) := by decide +kernel
theorem dX0_applying_43 : decode cX0_applying 43 = .ok (.invokevirtual 33, 3) := by decide +kernel
theorem dX0_applying_46 : decode cX0_applying 46 = .ok (.goto 4, 3) := by decide +kernel
theorem dX0_applying_49 : decode cX0_applying 49 = .ok (.iconst 0, 1) := by decide +kernel
theorem dX0_applying_50 : decode cX0_applying 50 = .ok (.ireturn, 1) := by decide +kernel
theorem dX0_withdrawing_0 : decode cX0_withdrawing 0 = .ok (.aload_n 0, 1) := by decide +kernel
theorem dX0_withdrawing_1 : decode cX0_withdrawing 1 = .ok (.getfield 12, 3) := by decide +kernel
theorem dX0_withdrawing_4 : decode cX0_withdrawing 4 = .ok (.iload_n 1, 1) := by decide +kernel
theorem dX0_withdrawing_5 : decode cX0_withdrawing 5 = .ok (.invokevirtual 37, 3) := by decide +kernel
theorem dX0_withdrawing_8 : decode cX0_withdrawing 8 = .ok (.ifCond .ne 5, 3) := by decide +kernel
theorem dX0_withdrawing_11 : decode cX0_withdrawing 11 = .ok (.iconst (-1), 1) := by decide +kernel
theorem dX0_withdrawing_12 : decode cX0_withdrawing 12 = .ok (.ireturn, 1) := by decide +kernel
theorem dX0_withdrawing_13 : decode cX0_withdrawing 13 = .ok (.aload_n 0, 1) := by decide +kernel
theorem dX0_withdrawing_14 : decode cX0_withdrawing 14 = .ok (.getfield 12, 3) := by decide +kernel
theorem dX0_withdrawing_17 : decode cX0_withdrawing 17 = .ok (.iload_n 1, 1) := by decide +kernel
theorem dX0_withdrawing_18 : decode cX0_withdrawing 18 = .ok (.invokevirtual 51, 3) := by decide +kernel
theorem dX0_withdrawing_21 : decode cX0_withdrawing 21 = .ok (.ifCond .eq 7, 3) := by decide +kernel
theorem dX0_withdrawing_24 : decode cX0_withdrawing 24 = .ok (.iconst 0, 1) := by decide +kernel
theorem dX0_withdrawing_25 : decode cX0_withdrawing 25 = .ok (.goto 9, 3) := by decide +kernel
theorem dX0_withdrawing_28 : decode cX0_withdrawing 28 = .ok (.aload_n 0, 1) := by decide +kernel
theorem dX0_withdrawing_29 : decode cX0_withdrawing 29 = .ok (.iconst 3, 1) := by decide +kernel
theorem dX0_withdrawing_30 : decode cX0_withdrawing 30 = .ok (.iload_n 1, 1) := by decide +kernel
theorem dX0_withdrawing_31 : decode cX0_withdrawing 31 = .ok (.invokevirtual 33, 3) := by decide +kernel
theorem dX0_withdrawing_34 : decode cX0_withdrawing 34 = .ok (.ireturn, 1) := by decide +kernel
theorem dX0_appealing_0 : decode cX0_appealing 0 = .ok (.aload_n 0, 1) := by decide +kernel
theorem dX0_appealing_1 : decode cX0_appealing 1 = .ok (.getfield 12, 3) := by decide +kernel
theorem dX0_appealing_4 : decode cX0_appealing 4 = .ok (.iload_n 1, 1) := by decide +kernel
theorem dX0_appealing_5 : decode cX0_appealing 5 = .ok (.invokevirtual 37, 3) := by decide +kernel
theorem dX0_appealing_8 : decode cX0_appealing 8 = .ok (.ifCond .ne 5, 3) := by decide +kernel
theorem dX0_appealing_11 : decode cX0_appealing 11 = .ok (.iconst (-1), 1) := by decide +kernel
theorem dX0_appealing_12 : decode cX0_appealing 12 = .ok (.ireturn, 1) := by decide +kernel
theorem dX0_appealing_13 : decode cX0_appealing 13 = .ok (.aload_n 0, 1) := by decide +kernel
theorem dX0_appealing_14 : decode cX0_appealing 14 = .ok (.getfield 12, 3) := by decide +kernel
theorem dX0_appealing_17 : decode cX0_appealing 17 = .ok (.getfield 44, 3) := by decide +kernel
theorem dX0_appealing_20 : decode cX0_appealing 20 = .ok (.iload_n 1, 1) := by decide +kernel
theorem dX0_appealing_21 : decode cX0_appealing 21 = .ok (.iaload, 1) := by decide +kernel
theorem dX0_appealing_22 : decode cX0_appealing 22 = .ok (.iconst 2, 1) := by decide +kernel
theorem dX0_appealing_23 : decode cX0_appealing 23 = .ok (.if_icmp .eq 10, 3) := by decide +kernel
theorem dX0_appealing_26 : decode cX0_appealing 26 = .ok (.aload_n 0, 1) := by decide +kernel
theorem dX0_appealing_27 : decode cX0_appealing 27 = .ok (.iconst 4, 1) := by decide +kernel
theorem dX0_appealing_28 : decode cX0_appealing 28 = .ok (.iload_n 1, 1) := by decide +kernel
theorem dX0_appealing_29 : decode cX0_appealing 29 = .ok (.invokevirtual 33, 3) := by decide +kernel
theorem dX0_appealing_32 : decode cX0_appealing 32 = .ok (.ireturn, 1) := by decide +kernel
theorem dX0_appealing_33 : decode cX0_appealing 33 = .ok (.aload_n 0, 1) := by decide +kernel
theorem dX0_appealing_34 : decode cX0_appealing 34 = .ok (.getfield 12, 3) := by decide +kernel
theorem dX0_appealing_37 : decode cX0_appealing 37 = .ok (.getfield 54, 3) := by decide +kernel
theorem dX0_appealing_40 : decode cX0_appealing 40 = .ok (.iload_n 1, 1) := by decide +kernel
theorem dX0_appealing_41 : decode cX0_appealing 41 = .ok (.iaload, 1) := by decide +kernel
theorem dX0_appealing_42 : decode cX0_appealing 42 = .ok (.iconst 3, 1) := by decide +kernel
theorem dX0_appealing_43 : decode cX0_appealing 43 = .ok (.if_icmp .lt 20, 3) := by decide +kernel
theorem dX0_appealing_46 : decode cX0_appealing 46 = .ok (.aload_n 0, 1) := by decide +kernel
theorem dX0_appealing_47 : decode cX0_appealing 47 = .ok (.iconst 5, 1) := by decide +kernel
theorem dX0_appealing_48 : decode cX0_appealing 48 = .ok (.aload_n 0, 1) := by decide +kernel
theorem dX0_appealing_49 : decode cX0_appealing 49 = .ok (.getfield 12, 3) := by decide +kernel
theorem dX0_appealing_52 : decode cX0_appealing 52 = .ok (.getfield 48, 3) := by decide +kernel
theorem dX0_appealing_55 : decode cX0_appealing 55 = .ok (.iload_n 1, 1) := by decide +kernel
theorem dX0_appealing_56 : decode cX0_appealing 56 = .ok (.iaload, 1) := by decide +kernel
theorem dX0_appealing_57 : decode cX0_appealing 57 = .ok (.invokevirtual 33, 3) := by decide +kernel
theorem dX0_appealing_60 : decode cX0_appealing 60 = .ok (.goto 4, 3) := by decide +kernel
theorem dX0_appealing_63 : decode cX0_appealing 63 = .ok (.iconst 0, 1) := by decide +kernel
theorem dX0_appealing_64 : decode cX0_appealing 64 = .ok (.ireturn, 1) := by decide +kernel
theorem dX0_deciding_0 : decode cX0_deciding 0 = .ok (.iload_n 1, 1) := by decide +kernel
theorem dX0_deciding_1 : decode cX0_deciding 1 = .ok (.invokestatic 41, 3) := by decide +kernel
theorem dX0_deciding_4 : decode cX0_deciding 4 = .ok (.ifCond .eq 7, 3) := by decide +kernel
theorem dX0_deciding_7 : decode cX0_deciding 7 = .ok (.iconst 0, 1) := by decide +kernel
theorem dX0_deciding_8 : decode cX0_deciding 8 = .ok (.goto 4, 3) := by decide +kernel
theorem dX0_deciding_11 : decode cX0_deciding 11 = .ok (.iconst (-1), 1) := by decide +kernel
theorem dX0_deciding_12 : decode cX0_deciding 12 = .ok (.ireturn, 1) := by decide +kernel
theorem dX0_renewing_0 : decode cX0_renewing 0 = .ok (.aload_n 0, 1) := by decide +kernel
theorem dX0_renewing_1 : decode cX0_renewing 1 = .ok (.getfield 12, 3) := by decide +kernel
theorem dX0_renewing_4 : decode cX0_renewing 4 = .ok (.iload_n 1, 1) := by decide +kernel
theorem dX0_renewing_5 : decode cX0_renewing 5 = .ok (.invokevirtual 37, 3) := by decide +kernel
theorem dX0_renewing_8 : decode cX0_renewing 8 = .ok (.ifCond .ne 5, 3) := by decide +kernel
theorem dX0_renewing_11 : decode cX0_renewing 11 = .ok (.iconst (-1), 1) := by decide +kernel
theorem dX0_renewing_12 : decode cX0_renewing 12 = .ok (.ireturn, 1) := by decide +kernel
theorem dX0_renewing_13 : decode cX0_renewing 13 = .ok (.iload_n 2, 1) := by decide +kernel
theorem dX0_renewing_14 : decode cX0_renewing 14 = .ok (.iconst 1, 1) := by decide +kernel
theorem dX0_renewing_15 : decode cX0_renewing 15 = .ok (.if_icmp .lt 9, 3) := by decide +kernel
theorem dX0_renewing_18 : decode cX0_renewing 18 = .ok (.iload_n 2, 1) := by decide +kernel
theorem dX0_renewing_19 : decode cX0_renewing 19 = .ok (.bipush 9, 2) := by decide +kernel
theorem dX0_renewing_21 : decode cX0_renewing 21 = .ok (.if_icmp .le 6, 3) := by decide +kernel
theorem dX0_renewing_24 : decode cX0_renewing 24 = .ok (.bipush (-2), 2) := by decide +kernel
theorem dX0_renewing_26 : decode cX0_renewing 26 = .ok (.ireturn, 1) := by decide +kernel
theorem dX0_renewing_27 : decode cX0_renewing 27 = .ok (.aload_n 0, 1) := by decide +kernel
theorem dX0_renewing_28 : decode cX0_renewing 28 = .ok (.getfield 12, 3) := by decide +kernel
theorem dX0_renewing_31 : decode cX0_renewing 31 = .ok (.getfield 44, 3) := by decide +kernel
theorem dX0_renewing_34 : decode cX0_renewing 34 = .ok (.iload_n 1, 1) := by decide +kernel
theorem dX0_renewing_35 : decode cX0_renewing 35 = .ok (.iaload, 1) := by decide +kernel
theorem dX0_renewing_36 : decode cX0_renewing 36 = .ok (.iconst 3, 1) := by decide +kernel
theorem dX0_renewing_37 : decode cX0_renewing 37 = .ok (.if_icmp .eq 11, 3) := by decide +kernel
theorem dX0_renewing_40 : decode cX0_renewing 40 = .ok (.aload_n 0, 1) := by decide +kernel
theorem dX0_renewing_41 : decode cX0_renewing 41 = .ok (.bipush 6, 2) := by decide +kernel
theorem dX0_renewing_43 : decode cX0_renewing 43 = .ok (.iload_n 1, 1) := by decide +kernel
theorem dX0_renewing_44 : decode cX0_renewing 44 = .ok (.invokevirtual 33, 3) := by decide +kernel
theorem dX0_renewing_47 : decode cX0_renewing 47 = .ok (.ireturn, 1) := by decide +kernel
theorem dX0_renewing_48 : decode cX0_renewing 48 = .ok (.aload_n 0, 1) := by decide +kernel
theorem dX0_renewing_49 : decode cX0_renewing 49 = .ok (.getfield 12, 3) := by decide +kernel
theorem dX0_renewing_52 : decode cX0_renewing 52 = .ok (.getfield 57, 3) := by decide +kernel
theorem dX0_renewing_55 : decode cX0_renewing 55 = .ok (.iload_n 1, 1) := by decide +kernel
theorem dX0_renewing_56 : decode cX0_renewing 56 = .ok (.iaload, 1) := by decide +kernel
theorem dX0_renewing_57 : decode cX0_renewing 57 = .ok (.istore_n 3, 1) := by decide +kernel
theorem dX0_renewing_58 : decode cX0_renewing 58 = .ok (.iload_n 3, 1) := by decide +kernel
theorem dX0_renewing_59 : decode cX0_renewing 59 = .ok (.iload_n 2, 1) := by decide +kernel
theorem dX0_renewing_60 : decode cX0_renewing 60 = .ok (.iadd, 1) := by decide +kernel
theorem dX0_renewing_61 : decode cX0_renewing 61 = .ok (.aload_n 0, 1) := by decide +kernel
theorem dX0_renewing_62 : decode cX0_renewing 62 = .ok (.getfield 12, 3) := by decide +kernel
theorem dX0_renewing_65 : decode cX0_renewing 65 = .ok (.getfield 60, 3) := by decide +kernel
theorem dX0_renewing_68 : decode cX0_renewing 68 = .ok (.bipush 20, 2) := by decide +kernel
theorem dX0_renewing_70 : decode cX0_renewing 70 = .ok (.iadd, 1) := by decide +kernel
theorem dX0_renewing_71 : decode cX0_renewing 71 = .ok (.if_icmp .le 13, 3) := by decide +kernel
theorem dX0_renewing_74 : decode cX0_renewing 74 = .ok (.aload_n 0, 1) := by decide +kernel
theorem dX0_renewing_75 : decode cX0_renewing 75 = .ok (.bipush 7, 2) := by decide +kernel
theorem dX0_renewing_77 : decode cX0_renewing 77 = .ok (.iload_n 3, 1) := by decide +kernel
theorem dX0_renewing_78 : decode cX0_renewing 78 = .ok (.invokevirtual 33, 3) := by decide +kernel
theorem dX0_renewing_81 : decode cX0_renewing 81 = .ok (.goto 4, 3) := by decide +kernel
theorem dX0_renewing_84 : decode cX0_renewing 84 = .ok (.iconst 0, 1) := by decide +kernel
theorem dX0_renewing_85 : decode cX0_renewing 85 = .ok (.ireturn, 1) := by decide +kernel
theorem dX0_leaving_0 : decode cX0_leaving 0 = .ok (.aload_n 0, 1) := by decide +kernel
theorem dX0_leaving_1 : decode cX0_leaving 1 = .ok (.getfield 12, 3) := by decide +kernel
theorem dX0_leaving_4 : decode cX0_leaving 4 = .ok (.iload_n 1, 1) := by decide +kernel
theorem dX0_leaving_5 : decode cX0_leaving 5 = .ok (.invokevirtual 37, 3) := by decide +kernel
theorem dX0_leaving_8 : decode cX0_leaving 8 = .ok (.ifCond .ne 5, 3) := by decide +kernel
theorem dX0_leaving_11 : decode cX0_leaving 11 = .ok (.iconst (-1), 1) := by decide +kernel
theorem dX0_leaving_12 : decode cX0_leaving 12 = .ok (.ireturn, 1) := by decide +kernel
theorem dX0_leaving_13 : decode cX0_leaving 13 = .ok (.aload_n 0, 1) := by decide +kernel
theorem dX0_leaving_14 : decode cX0_leaving 14 = .ok (.getfield 12, 3) := by decide +kernel
theorem dX0_leaving_17 : decode cX0_leaving 17 = .ok (.getfield 44, 3) := by decide +kernel
theorem dX0_leaving_20 : decode cX0_leaving 20 = .ok (.iload_n 1, 1) := by decide +kernel
theorem dX0_leaving_21 : decode cX0_leaving 21 = .ok (.iaload, 1) := by decide +kernel
theorem dX0_leaving_22 : decode cX0_leaving 22 = .ok (.iconst 3, 1) := by decide +kernel
theorem dX0_leaving_23 : decode cX0_leaving 23 = .ok (.if_icmp .eq 11, 3) := by decide +kernel
theorem dX0_leaving_26 : decode cX0_leaving 26 = .ok (.aload_n 0, 1) := by decide +kernel
theorem dX0_leaving_27 : decode cX0_leaving 27 = .ok (.bipush 6, 2) := by decide +kernel
theorem dX0_leaving_29 : decode cX0_leaving 29 = .ok (.iload_n 1, 1) := by decide +kernel
theorem dX0_leaving_30 : decode cX0_leaving 30 = .ok (.invokevirtual 33, 3) := by decide +kernel
theorem dX0_leaving_33 : decode cX0_leaving 33 = .ok (.ireturn, 1) := by decide +kernel
theorem dX0_leaving_34 : decode cX0_leaving 34 = .ok (.aload_n 0, 1) := by decide +kernel
theorem dX0_leaving_35 : decode cX0_leaving 35 = .ok (.getfield 12, 3) := by decide +kernel
theorem dX0_leaving_38 : decode cX0_leaving 38 = .ok (.getfield 63, 3) := by decide +kernel
theorem dX0_leaving_41 : decode cX0_leaving 41 = .ok (.iload_n 1, 1) := by decide +kernel
theorem dX0_leaving_42 : decode cX0_leaving 42 = .ok (.iaload, 1) := by decide +kernel
theorem dX0_leaving_43 : decode cX0_leaving 43 = .ok (.istore_n 2, 1) := by decide +kernel
theorem dX0_leaving_44 : decode cX0_leaving 44 = .ok (.iload_n 2, 1) := by decide +kernel
theorem dX0_leaving_45 : decode cX0_leaving 45 = .ok (.iconst (-1), 1) := by decide +kernel
theorem dX0_leaving_46 : decode cX0_leaving 46 = .ok (.if_icmp .eq 13, 3) := by decide +kernel
theorem dX0_leaving_49 : decode cX0_leaving 49 = .ok (.aload_n 0, 1) := by decide +kernel
theorem dX0_leaving_50 : decode cX0_leaving 50 = .ok (.bipush 8, 2) := by decide +kernel
theorem dX0_leaving_52 : decode cX0_leaving 52 = .ok (.iload_n 2, 1) := by decide +kernel
theorem dX0_leaving_53 : decode cX0_leaving 53 = .ok (.invokevirtual 33, 3) := by decide +kernel
theorem dX0_leaving_56 : decode cX0_leaving 56 = .ok (.goto 4, 3) := by decide +kernel
theorem dX0_leaving_59 : decode cX0_leaving 59 = .ok (.iconst 0, 1) := by decide +kernel
theorem dX0_leaving_60 : decode cX0_leaving 60 = .ok (.ireturn, 1) := by decide +kernel
theorem dX0_moving_0 : decode cX0_moving 0 = .ok (.iload_n 2, 1) := by decide +kernel
theorem dX0_moving_1 : decode cX0_moving 1 = .ok (.invokestatic 41, 3) := by decide +kernel
theorem dX0_moving_4 : decode cX0_moving 4 = .ok (.ifCond .ne 5, 3) := by decide +kernel
theorem dX0_moving_7 : decode cX0_moving 7 = .ok (.iconst (-1), 1) := by decide +kernel
theorem dX0_moving_8 : decode cX0_moving 8 = .ok (.ireturn, 1) := by decide +kernel
theorem dX0_moving_9 : decode cX0_moving 9 = .ok (.aload_n 0, 1) := by decide +kernel
theorem dX0_moving_10 : decode cX0_moving 10 = .ok (.iload_n 1, 1) := by decide +kernel
theorem dX0_moving_11 : decode cX0_moving 11 = .ok (.invokevirtual 66, 3) := by decide +kernel
theorem dX0_moving_14 : decode cX0_moving 14 = .ok (.istore_n 3, 1) := by decide +kernel
theorem dX0_moving_15 : decode cX0_moving 15 = .ok (.iload_n 3, 1) := by decide +kernel
theorem dX0_moving_16 : decode cX0_moving 16 = .ok (.ifCond .eq 7, 3) := by decide +kernel
theorem dX0_moving_19 : decode cX0_moving 19 = .ok (.iload_n 3, 1) := by decide +kernel
theorem dX0_moving_20 : decode cX0_moving 20 = .ok (.goto 18, 3) := by decide +kernel
theorem dX0_moving_23 : decode cX0_moving 23 = .ok (.aload_n 0, 1) := by decide +kernel
theorem dX0_moving_24 : decode cX0_moving 24 = .ok (.iload_n 1, 1) := by decide +kernel
theorem dX0_moving_25 : decode cX0_moving 25 = .ok (.aload_n 0, 1) := by decide +kernel
theorem dX0_moving_26 : decode cX0_moving 26 = .ok (.getfield 12, 3) := by decide +kernel
theorem dX0_moving_29 : decode cX0_moving 29 = .ok (.getfield 48, 3) := by decide +kernel
theorem dX0_moving_32 : decode cX0_moving 32 = .ok (.iload_n 1, 1) := by decide +kernel
theorem dX0_moving_33 : decode cX0_moving 33 = .ok (.iaload, 1) := by decide +kernel
theorem dX0_moving_34 : decode cX0_moving 34 = .ok (.iload_n 2, 1) := by decide +kernel
theorem dX0_moving_35 : decode cX0_moving 35 = .ok (.invokevirtual 69, 3) := by decide +kernel
theorem dX0_moving_38 : decode cX0_moving 38 = .ok (.ireturn, 1) := by decide +kernel
theorem dX0_crossing_0 : decode cX0_crossing 0 = .ok (.aload_n 0, 1) := by decide +kernel
theorem dX0_crossing_1 : decode cX0_crossing 1 = .ok (.getfield 12, 3) := by decide +kernel
theorem dX0_crossing_4 : decode cX0_crossing 4 = .ok (.iload_n 2, 1) := by decide +kernel
theorem dX0_crossing_5 : decode cX0_crossing 5 = .ok (.iload_n 3, 1) := by decide +kernel
theorem dX0_crossing_6 : decode cX0_crossing 6 = .ok (.invokevirtual 73, 3) := by decide +kernel
theorem dX0_crossing_9 : decode cX0_crossing 9 = .ok (.istore 4, 2) := by decide +kernel
theorem dX0_crossing_11 : decode cX0_crossing 11 = .ok (.iload 4, 2) := by decide +kernel
theorem dX0_crossing_13 : decode cX0_crossing 13 = .ok (.ifCond .ne 11, 3) := by decide +kernel
theorem dX0_crossing_16 : decode cX0_crossing 16 = .ok (.aload_n 0, 1) := by decide +kernel
theorem dX0_crossing_17 : decode cX0_crossing 17 = .ok (.bipush 12, 2) := by decide +kernel
theorem dX0_crossing_19 : decode cX0_crossing 19 = .ok (.iload_n 2, 1) := by decide +kernel
theorem dX0_crossing_20 : decode cX0_crossing 20 = .ok (.invokevirtual 33, 3) := by decide +kernel
theorem dX0_crossing_23 : decode cX0_crossing 23 = .ok (.ireturn, 1) := by decide +kernel
theorem dX0_crossing_24 : decode cX0_crossing 24 = .ok (.aload_n 0, 1) := by decide +kernel
theorem dX0_crossing_25 : decode cX0_crossing 25 = .ok (.getfield 12, 3) := by decide +kernel
theorem dX0_crossing_28 : decode cX0_crossing 28 = .ok (.iconst 3, 1) := by decide +kernel
theorem dX0_crossing_29 : decode cX0_crossing 29 = .ok (.iload_n 2, 1) := by decide +kernel
theorem dX0_crossing_30 : decode cX0_crossing 30 = .ok (.invokevirtual 76, 3) := by decide +kernel
theorem dX0_crossing_33 : decode cX0_crossing 33 = .ok (.istore 5, 2) := by decide +kernel
theorem dX0_crossing_35 : decode cX0_crossing 35 = .ok (.iload 4, 2) := by decide +kernel
theorem dX0_crossing_37 : decode cX0_crossing 37 = .ok (.bipush 120, 2) := by decide +kernel
theorem dX0_crossing_39 : decode cX0_crossing 39 = .ok (.if_icmp .ne 26, 3) := by decide +kernel
theorem dX0_crossing_42 : decode cX0_crossing 42 = .ok (.aload_n 0, 1) := by decide +kernel
theorem dX0_crossing_43 : decode cX0_crossing 43 = .ok (.getfield 12, 3) := by decide +kernel
theorem dX0_crossing_46 : decode cX0_crossing 46 = .ok (.iconst 3, 1) := by decide +kernel
theorem dX0_crossing_47 : decode cX0_crossing 47 = .ok (.iload_n 3, 1) := by decide +kernel
theorem dX0_crossing_48 : decode cX0_crossing 48 = .ok (.invokevirtual 76, 3) := by decide +kernel
theorem dX0_crossing_51 : decode cX0_crossing 51 = .ok (.iload 5, 2) := by decide +kernel
theorem dX0_crossing_53 : decode cX0_crossing 53 = .ok (.if_icmp .lt 12, 3) := by decide +kernel
theorem dX0_crossing_56 : decode cX0_crossing 56 = .ok (.aload_n 0, 1) := by decide +kernel
theorem dX0_crossing_57 : decode cX0_crossing 57 = .ok (.bipush 13, 2) := by decide +kernel
theorem dX0_crossing_59 : decode cX0_crossing 59 = .ok (.iload 5, 2) := by decide +kernel
theorem dX0_crossing_61 : decode cX0_crossing 61 = .ok (.invokevirtual 33, 3) := by decide +kernel
theorem dX0_crossing_64 : decode cX0_crossing 64 = .ok (.ireturn, 1) := by decide +kernel
theorem dX0_crossing_65 : decode cX0_crossing 65 = .ok (.aload_n 0, 1) := by decide +kernel
theorem dX0_crossing_66 : decode cX0_crossing 66 = .ok (.getfield 12, 3) := by decide +kernel
theorem dX0_crossing_69 : decode cX0_crossing 69 = .ok (.iload_n 3, 1) := by decide +kernel
theorem dX0_crossing_70 : decode cX0_crossing 70 = .ok (.invokevirtual 79, 3) := by decide +kernel
theorem dX0_crossing_73 : decode cX0_crossing 73 = .ok (.ifCond .ne 19, 3) := by decide +kernel
theorem dX0_crossing_76 : decode cX0_crossing 76 = .ok (.aload_n 0, 1) := by decide +kernel
theorem dX0_crossing_77 : decode cX0_crossing 77 = .ok (.bipush 14, 2) := by decide +kernel
theorem dX0_crossing_79 : decode cX0_crossing 79 = .ok (.aload_n 0, 1) := by decide +kernel
theorem dX0_crossing_80 : decode cX0_crossing 80 = .ok (.getfield 12, 3) := by decide +kernel
theorem dX0_crossing_83 : decode cX0_crossing 83 = .ok (.getfield 82, 3) := by decide +kernel
theorem dX0_crossing_86 : decode cX0_crossing 86 = .ok (.iload_n 3, 1) := by decide +kernel
theorem dX0_crossing_87 : decode cX0_crossing 87 = .ok (.iaload, 1) := by decide +kernel
theorem dX0_crossing_88 : decode cX0_crossing 88 = .ok (.invokevirtual 33, 3) := by decide +kernel
theorem dX0_crossing_91 : decode cX0_crossing 91 = .ok (.ireturn, 1) := by decide +kernel
theorem dX0_crossing_92 : decode cX0_crossing 92 = .ok (.aload_n 0, 1) := by decide +kernel
theorem dX0_crossing_93 : decode cX0_crossing 93 = .ok (.getfield 12, 3) := by decide +kernel
theorem dX0_crossing_96 : decode cX0_crossing 96 = .ok (.iload_n 3, 1) := by decide +kernel
theorem dX0_crossing_97 : decode cX0_crossing 97 = .ok (.aload_n 0, 1) := by decide +kernel
theorem dX0_crossing_98 : decode cX0_crossing 98 = .ok (.getfield 12, 3) := by decide +kernel
theorem dX0_crossing_101 : decode cX0_crossing 101 = .ok (.iload_n 1, 1) := by decide +kernel
theorem dX0_crossing_102 : decode cX0_crossing 102 = .ok (.invokevirtual 85, 3) := by decide +kernel
theorem dX0_crossing_105 : decode cX0_crossing 105 = .ok (.invokevirtual 89, 3) := by decide +kernel
theorem dX0_crossing_108 : decode cX0_crossing 108 = .ok (.ifCond .eq 13, 3) := by decide +kernel
theorem dX0_crossing_111 : decode cX0_crossing 111 = .ok (.aload_n 0, 1) := by decide +kernel
theorem dX0_crossing_112 : decode cX0_crossing 112 = .ok (.bipush 15, 2) := by decide +kernel
theorem dX0_crossing_114 : decode cX0_crossing 114 = .ok (.iload_n 1, 1) := by decide +kernel
theorem dX0_crossing_115 : decode cX0_crossing 115 = .ok (.invokevirtual 33, 3) := by decide +kernel
theorem dX0_crossing_118 : decode cX0_crossing 118 = .ok (.goto 4, 3) := by decide +kernel
theorem dX0_crossing_121 : decode cX0_crossing 121 = .ok (.iconst 0, 1) := by decide +kernel
theorem dX0_crossing_122 : decode cX0_crossing 122 = .ok (.ireturn, 1) := by decide +kernel
theorem dX0_pairing_0 : decode cX0_pairing 0 = .ok (.aload_n 0, 1) := by decide +kernel
theorem dX0_pairing_1 : decode cX0_pairing 1 = .ok (.getfield 12, 3) := by decide +kernel
theorem dX0_pairing_4 : decode cX0_pairing 4 = .ok (.iload_n 1, 1) := by decide +kernel
theorem dX0_pairing_5 : decode cX0_pairing 5 = .ok (.invokevirtual 37, 3) := by decide +kernel
theorem dX0_pairing_8 : decode cX0_pairing 8 = .ok (.ifCond .eq 14, 3) := by decide +kernel
theorem dX0_pairing_11 : decode cX0_pairing 11 = .ok (.aload_n 0, 1) := by decide +kernel
theorem dX0_pairing_12 : decode cX0_pairing 12 = .ok (.getfield 12, 3) := by decide +kernel
theorem dX0_pairing_15 : decode cX0_pairing 15 = .ok (.iload_n 2, 1) := by decide +kernel
theorem dX0_pairing_16 : decode cX0_pairing 16 = .ok (.invokevirtual 37, 3) := by decide +kernel
theorem dX0_pairing_19 : decode cX0_pairing 19 = .ok (.ifCond .ne 5, 3) := by decide +kernel
theorem dX0_pairing_22 : decode cX0_pairing 22 = .ok (.iconst (-1), 1) := by decide +kernel
theorem dX0_pairing_23 : decode cX0_pairing 23 = .ok (.ireturn, 1) := by decide +kernel
theorem dX0_pairing_24 : decode cX0_pairing 24 = .ok (.iload_n 1, 1) := by decide +kernel
theorem dX0_pairing_25 : decode cX0_pairing 25 = .ok (.iload_n 2, 1) := by decide +kernel
theorem dX0_pairing_26 : decode cX0_pairing 26 = .ok (.if_icmp .ne 6, 3) := by decide +kernel
theorem dX0_pairing_29 : decode cX0_pairing 29 = .ok (.bipush (-2), 2) := by decide +kernel
theorem dX0_pairing_31 : decode cX0_pairing 31 = .ok (.ireturn, 1) := by decide +kernel
theorem dX0_pairing_32 : decode cX0_pairing 32 = .ok (.aload_n 0, 1) := by decide +kernel
theorem dX0_pairing_33 : decode cX0_pairing 33 = .ok (.getfield 12, 3) := by decide +kernel
theorem dX0_pairing_36 : decode cX0_pairing 36 = .ok (.getfield 44, 3) := by decide +kernel
theorem dX0_pairing_39 : decode cX0_pairing 39 = .ok (.iload_n 1, 1) := by decide +kernel
theorem dX0_pairing_40 : decode cX0_pairing 40 = .ok (.iaload, 1) := by decide +kernel
theorem dX0_pairing_41 : decode cX0_pairing 41 = .ok (.iconst 3, 1) := by decide +kernel
theorem dX0_pairing_42 : decode cX0_pairing 42 = .ok (.if_icmp .eq 11, 3) := by decide +kernel
theorem dX0_pairing_45 : decode cX0_pairing 45 = .ok (.aload_n 0, 1) := by decide +kernel
theorem dX0_pairing_46 : decode cX0_pairing 46 = .ok (.bipush 6, 2) := by decide +kernel
theorem dX0_pairing_48 : decode cX0_pairing 48 = .ok (.iload_n 1, 1) := by decide +kernel
theorem dX0_pairing_49 : decode cX0_pairing 49 = .ok (.invokevirtual 33, 3) := by decide +kernel
theorem dX0_pairing_52 : decode cX0_pairing 52 = .ok (.ireturn, 1) := by decide +kernel
theorem dX0_pairing_53 : decode cX0_pairing 53 = .ok (.aload_n 0, 1) := by decide +kernel
theorem dX0_pairing_54 : decode cX0_pairing 54 = .ok (.getfield 12, 3) := by decide +kernel
theorem dX0_pairing_57 : decode cX0_pairing 57 = .ok (.getfield 44, 3) := by decide +kernel
theorem dX0_pairing_60 : decode cX0_pairing 60 = .ok (.iload_n 2, 1) := by decide +kernel
theorem dX0_pairing_61 : decode cX0_pairing 61 = .ok (.iaload, 1) := by decide +kernel
theorem dX0_pairing_62 : decode cX0_pairing 62 = .ok (.iconst 3, 1) := by decide +kernel
theorem dX0_pairing_63 : decode cX0_pairing 63 = .ok (.if_icmp .eq 11, 3) := by decide +kernel
theorem dX0_pairing_66 : decode cX0_pairing 66 = .ok (.aload_n 0, 1) := by decide +kernel
theorem dX0_pairing_67 : decode cX0_pairing 67 = .ok (.bipush 6, 2) := by decide +kernel
theorem dX0_pairing_69 : decode cX0_pairing 69 = .ok (.iload_n 2, 1) := by decide +kernel
theorem dX0_pairing_70 : decode cX0_pairing 70 = .ok (.invokevirtual 33, 3) := by decide +kernel
theorem dX0_pairing_73 : decode cX0_pairing 73 = .ok (.ireturn, 1) := by decide +kernel
theorem dX0_pairing_74 : decode cX0_pairing 74 = .ok (.aload_n 0, 1) := by decide +kernel
theorem dX0_pairing_75 : decode cX0_pairing 75 = .ok (.getfield 12, 3) := by decide +kernel
theorem dX0_pairing_78 : decode cX0_pairing 78 = .ok (.getfield 48, 3) := by decide +kernel
theorem dX0_pairing_81 : decode cX0_pairing 81 = .ok (.iload_n 1, 1) := by decide +kernel
theorem dX0_pairing_82 : decode cX0_pairing 82 = .ok (.iaload, 1) := by decide +kernel
theorem dX0_pairing_83 : decode cX0_pairing 83 = .ok (.aload_n 0, 1) := by decide +kernel
theorem dX0_pairing_84 : decode cX0_pairing 84 = .ok (.getfield 12, 3) := by decide +kernel
theorem dX0_pairing_87 : decode cX0_pairing 87 = .ok (.getfield 48, 3) := by decide +kernel
theorem dX0_pairing_90 : decode cX0_pairing 90 = .ok (.iload_n 2, 1) := by decide +kernel
theorem dX0_pairing_91 : decode cX0_pairing 91 = .ok (.iaload, 1) := by decide +kernel
theorem dX0_pairing_92 : decode cX0_pairing 92 = .ok (.if_icmp .eq 19, 3) := by decide +kernel
theorem dX0_pairing_95 : decode cX0_pairing 95 = .ok (.aload_n 0, 1) := by decide +kernel
theorem dX0_pairing_96 : decode cX0_pairing 96 = .ok (.bipush 10, 2) := by decide +kernel
theorem dX0_pairing_98 : decode cX0_pairing 98 = .ok (.aload_n 0, 1) := by decide +kernel
theorem dX0_pairing_99 : decode cX0_pairing 99 = .ok (.getfield 12, 3) := by decide +kernel
theorem dX0_pairing_102 : decode cX0_pairing 102 = .ok (.getfield 48, 3) := by decide +kernel
theorem dX0_pairing_105 : decode cX0_pairing 105 = .ok (.iload_n 2, 1) := by decide +kernel
theorem dX0_pairing_106 : decode cX0_pairing 106 = .ok (.iaload, 1) := by decide +kernel
theorem dX0_pairing_107 : decode cX0_pairing 107 = .ok (.invokevirtual 33, 3) := by decide +kernel
theorem dX0_pairing_110 : decode cX0_pairing 110 = .ok (.ireturn, 1) := by decide +kernel
theorem dX0_pairing_111 : decode cX0_pairing 111 = .ok (.aload_n 0, 1) := by decide +kernel
theorem dX0_pairing_112 : decode cX0_pairing 112 = .ok (.iload_n 1, 1) := by decide +kernel
theorem dX0_pairing_113 : decode cX0_pairing 113 = .ok (.iload_n 2, 1) := by decide +kernel
theorem dX0_pairing_114 : decode cX0_pairing 114 = .ok (.invokevirtual 93, 3) := by decide +kernel
theorem dX0_pairing_117 : decode cX0_pairing 117 = .ok (.ireturn, 1) := by decide +kernel
theorem dX0_joining_0 : decode cX0_joining 0 = .ok (.aload_n 0, 1) := by decide +kernel
theorem dX0_joining_1 : decode cX0_joining 1 = .ok (.getfield 12, 3) := by decide +kernel
theorem dX0_joining_4 : decode cX0_joining 4 = .ok (.getfield 63, 3) := by decide +kernel
theorem dX0_joining_7 : decode cX0_joining 7 = .ok (.iload_n 1, 1) := by decide +kernel
theorem dX0_joining_8 : decode cX0_joining 8 = .ok (.iaload, 1) := by decide +kernel
theorem dX0_joining_9 : decode cX0_joining 9 = .ok (.iconst (-1), 1) := by decide +kernel
theorem dX0_joining_10 : decode cX0_joining 10 = .ok (.if_icmp .eq 19, 3) := by decide +kernel
theorem dX0_joining_13 : decode cX0_joining 13 = .ok (.aload_n 0, 1) := by decide +kernel
theorem dX0_joining_14 : decode cX0_joining 14 = .ok (.bipush 8, 2) := by decide +kernel
theorem dX0_joining_16 : decode cX0_joining 16 = .ok (.aload_n 0, 1) := by decide +kernel
theorem dX0_joining_17 : decode cX0_joining 17 = .ok (.getfield 12, 3) := by decide +kernel
theorem dX0_joining_20 : decode cX0_joining 20 = .ok (.getfield 63, 3) := by decide +kernel
theorem dX0_joining_23 : decode cX0_joining 23 = .ok (.iload_n 1, 1) := by decide +kernel
theorem dX0_joining_24 : decode cX0_joining 24 = .ok (.iaload, 1) := by decide +kernel
theorem dX0_joining_25 : decode cX0_joining 25 = .ok (.invokevirtual 33, 3) := by decide +kernel
theorem dX0_joining_28 : decode cX0_joining 28 = .ok (.ireturn, 1) := by decide +kernel
theorem dX0_joining_29 : decode cX0_joining 29 = .ok (.aload_n 0, 1) := by decide +kernel
theorem dX0_joining_30 : decode cX0_joining 30 = .ok (.getfield 12, 3) := by decide +kernel
theorem dX0_joining_33 : decode cX0_joining 33 = .ok (.getfield 63, 3) := by decide +kernel
theorem dX0_joining_36 : decode cX0_joining 36 = .ok (.iload_n 2, 1) := by decide +kernel
theorem dX0_joining_37 : decode cX0_joining 37 = .ok (.iaload, 1) := by decide +kernel
theorem dX0_joining_38 : decode cX0_joining 38 = .ok (.iconst (-1), 1) := by decide +kernel
theorem dX0_joining_39 : decode cX0_joining 39 = .ok (.if_icmp .eq 19, 3) := by decide +kernel
theorem dX0_joining_42 : decode cX0_joining 42 = .ok (.aload_n 0, 1) := by decide +kernel
theorem dX0_joining_43 : decode cX0_joining 43 = .ok (.bipush 8, 2) := by decide +kernel
theorem dX0_joining_45 : decode cX0_joining 45 = .ok (.aload_n 0, 1) := by decide +kernel
theorem dX0_joining_46 : decode cX0_joining 46 = .ok (.getfield 12, 3) := by decide +kernel
theorem dX0_joining_49 : decode cX0_joining 49 = .ok (.getfield 63, 3) := by decide +kernel
theorem dX0_joining_52 : decode cX0_joining 52 = .ok (.iload_n 2, 1) := by decide +kernel
theorem dX0_joining_53 : decode cX0_joining 53 = .ok (.iaload, 1) := by decide +kernel
theorem dX0_joining_54 : decode cX0_joining 54 = .ok (.invokevirtual 33, 3) := by decide +kernel
theorem dX0_joining_57 : decode cX0_joining 57 = .ok (.ireturn, 1) := by decide +kernel
theorem dX0_joining_58 : decode cX0_joining 58 = .ok (.aload_n 0, 1) := by decide +kernel
theorem dX0_joining_59 : decode cX0_joining 59 = .ok (.getfield 12, 3) := by decide +kernel
theorem dX0_joining_62 : decode cX0_joining 62 = .ok (.iload_n 1, 1) := by decide +kernel
theorem dX0_joining_63 : decode cX0_joining 63 = .ok (.iload_n 2, 1) := by decide +kernel
theorem dX0_joining_64 : decode cX0_joining 64 = .ok (.invokevirtual 96, 3) := by decide +kernel
theorem dX0_joining_67 : decode cX0_joining 67 = .ok (.ifCond .eq 7, 3) := by decide +kernel
theorem dX0_joining_70 : decode cX0_joining 70 = .ok (.iconst 0, 1) := by decide +kernel
theorem dX0_joining_71 : decode cX0_joining 71 = .ok (.goto 18, 3) := by decide +kernel
theorem dX0_joining_74 : decode cX0_joining 74 = .ok (.aload_n 0, 1) := by decide +kernel
theorem dX0_joining_75 : decode cX0_joining 75 = .ok (.bipush 11, 2) := by decide +kernel
theorem dX0_joining_77 : decode cX0_joining 77 = .ok (.aload_n 0, 1) := by decide +kernel
theorem dX0_joining_78 : decode cX0_joining 78 = .ok (.getfield 12, 3) := by decide +kernel
theorem dX0_joining_81 : decode cX0_joining 81 = .ok (.getfield 100, 3) := by decide +kernel
theorem dX0_joining_84 : decode cX0_joining 84 = .ok (.iload_n 2, 1) := by decide +kernel
theorem dX0_joining_85 : decode cX0_joining 85 = .ok (.iaload, 1) := by decide +kernel
theorem dX0_joining_86 : decode cX0_joining 86 = .ok (.invokevirtual 33, 3) := by decide +kernel
theorem dX0_joining_89 : decode cX0_joining 89 = .ok (.ireturn, 1) := by decide +kernel
theorem dX0_separating_0 : decode cX0_separating 0 = .ok (.aload_n 0, 1) := by decide +kernel
theorem dX0_separating_1 : decode cX0_separating 1 = .ok (.getfield 12, 3) := by decide +kernel
theorem dX0_separating_4 : decode cX0_separating 4 = .ok (.iload_n 1, 1) := by decide +kernel
theorem dX0_separating_5 : decode cX0_separating 5 = .ok (.invokevirtual 37, 3) := by decide +kernel
theorem dX0_separating_8 : decode cX0_separating 8 = .ok (.ifCond .ne 5, 3) := by decide +kernel
theorem dX0_separating_11 : decode cX0_separating 11 = .ok (.iconst (-1), 1) := by decide +kernel
theorem dX0_separating_12 : decode cX0_separating 12 = .ok (.ireturn, 1) := by decide +kernel
theorem dX0_separating_13 : decode cX0_separating 13 = .ok (.aload_n 0, 1) := by decide +kernel
theorem dX0_separating_14 : decode cX0_separating 14 = .ok (.getfield 12, 3) := by decide +kernel
theorem dX0_separating_17 : decode cX0_separating 17 = .ok (.getfield 63, 3) := by decide +kernel
theorem dX0_separating_20 : decode cX0_separating 20 = .ok (.iload_n 1, 1) := by decide +kernel
theorem dX0_separating_21 : decode cX0_separating 21 = .ok (.iaload, 1) := by decide +kernel
theorem dX0_separating_22 : decode cX0_separating 22 = .ok (.iconst (-1), 1) := by decide +kernel
theorem dX0_separating_23 : decode cX0_separating 23 = .ok (.if_icmp .ne 13, 3) := by decide +kernel
theorem dX0_separating_26 : decode cX0_separating 26 = .ok (.aload_n 0, 1) := by decide +kernel
theorem dX0_separating_27 : decode cX0_separating 27 = .ok (.bipush 9, 2) := by decide +kernel
theorem dX0_separating_29 : decode cX0_separating 29 = .ok (.iload_n 1, 1) := by decide +kernel
theorem dX0_separating_30 : decode cX0_separating 30 = .ok (.invokevirtual 33, 3) := by decide +kernel
theorem dX0_separating_33 : decode cX0_separating 33 = .ok (.goto 4, 3) := by decide +kernel
theorem dX0_separating_36 : decode cX0_separating 36 = .ok (.iconst 0, 1) := by decide +kernel
theorem dX0_separating_37 : decode cX0_separating 37 = .ok (.ireturn, 1) := by decide +kernel
theorem dX0_settingQuota_0 : decode cX0_settingQuota 0 = .ok (.iload_n 1, 1) := by decide +kernel
theorem dX0_settingQuota_1 : decode cX0_settingQuota 1 = .ok (.invokestatic 41, 3) := by decide +kernel
theorem dX0_settingQuota_4 : decode cX0_settingQuota 4 = .ok (.ifCond .ne 5, 3) := by decide +kernel
theorem dX0_settingQuota_7 : decode cX0_settingQuota 7 = .ok (.iconst (-1), 1) := by decide +kernel
theorem dX0_settingQuota_8 : decode cX0_settingQuota 8 = .ok (.ireturn, 1) := by decide +kernel
theorem dX0_settingQuota_9 : decode cX0_settingQuota 9 = .ok (.iload_n 2, 1) := by decide +kernel
theorem dX0_settingQuota_10 : decode cX0_settingQuota 10 = .ok (.ifCond .lt 9, 3) := by decide +kernel
theorem dX0_settingQuota_13 : decode cX0_settingQuota 13 = .ok (.iload_n 2, 1) := by decide +kernel
theorem dX0_settingQuota_14 : decode cX0_settingQuota 14 = .ok (.bipush 9, 2) := by decide +kernel
theorem dX0_settingQuota_16 : decode cX0_settingQuota 16 = .ok (.if_icmp .le 8, 3) := by decide +kernel
theorem dX0_settingQuota_19 : decode cX0_settingQuota 19 = .ok (.bipush (-2), 2) := by decide +kernel
theorem dX0_settingQuota_21 : decode cX0_settingQuota 21 = .ok (.goto 4, 3) := by decide +kernel
theorem dX0_settingQuota_24 : decode cX0_settingQuota 24 = .ok (.iconst 0, 1) := by decide +kernel
theorem dX0_settingQuota_25 : decode cX0_settingQuota 25 = .ok (.ireturn, 1) := by decide +kernel
theorem dX0_banning_0 : decode cX0_banning 0 = .ok (.iload_n 1, 1) := by decide +kernel
theorem dX0_banning_1 : decode cX0_banning 1 = .ok (.invokestatic 41, 3) := by decide +kernel
theorem dX0_banning_4 : decode cX0_banning 4 = .ok (.ifCond .ne 5, 3) := by decide +kernel
theorem dX0_banning_7 : decode cX0_banning 7 = .ok (.iconst (-1), 1) := by decide +kernel
theorem dX0_banning_8 : decode cX0_banning 8 = .ok (.ireturn, 1) := by decide +kernel
theorem dX0_banning_9 : decode cX0_banning 9 = .ok (.ldc 22, 2) := by decide +kernel
theorem dX0_banning_11 : decode cX0_banning 11 = .ok (.iload_n 2, 1) := by decide +kernel
theorem dX0_banning_12 : decode cX0_banning 12 = .ok (.invokevirtual 24, 3) := by decide +kernel
theorem dX0_banning_15 : decode cX0_banning 15 = .ok (.ifCond .ge 8, 3) := by decide +kernel
theorem dX0_banning_18 : decode cX0_banning 18 = .ok (.bipush (-2), 2) := by decide +kernel
theorem dX0_banning_20 : decode cX0_banning 20 = .ok (.goto 4, 3) := by decide +kernel
theorem dX0_banning_23 : decode cX0_banning 23 = .ok (.iconst 0, 1) := by decide +kernel
theorem dX0_banning_24 : decode cX0_banning 24 = .ok (.ireturn, 1) := by decide +kernel
theorem dX0_signing_0 : decode cX0_signing 0 = .ok (.iload_n 1, 1) := by decide +kernel
theorem dX0_signing_1 : decode cX0_signing 1 = .ok (.invokestatic 41, 3) := by decide +kernel
theorem dX0_signing_4 : decode cX0_signing 4 = .ok (.ifCond .eq 10, 3) := by decide +kernel
theorem dX0_signing_7 : decode cX0_signing 7 = .ok (.iload_n 2, 1) := by decide +kernel
theorem dX0_signing_8 : decode cX0_signing 8 = .ok (.invokestatic 41, 3) := by decide +kernel
theorem dX0_signing_11 : decode cX0_signing 11 = .ok (.ifCond .ne 5, 3) := by decide +kernel
theorem dX0_signing_14 : decode cX0_signing 14 = .ok (.iconst (-1), 1) := by decide +kernel
theorem dX0_signing_15 : decode cX0_signing 15 = .ok (.ireturn, 1) := by decide +kernel
theorem dX0_signing_16 : decode cX0_signing 16 = .ok (.iload_n 1, 1) := by decide +kernel
theorem dX0_signing_17 : decode cX0_signing 17 = .ok (.iload_n 2, 1) := by decide +kernel
theorem dX0_signing_18 : decode cX0_signing 18 = .ok (.if_icmp .eq 12, 3) := by decide +kernel
theorem dX0_signing_21 : decode cX0_signing 21 = .ok (.ldc 103, 2) := by decide +kernel
theorem dX0_signing_23 : decode cX0_signing 23 = .ok (.iload_n 3, 1) := by decide +kernel
theorem dX0_signing_24 : decode cX0_signing 24 = .ok (.invokevirtual 24, 3) := by decide +kernel
theorem dX0_signing_27 : decode cX0_signing 27 = .ok (.ifCond .ge 6, 3) := by decide +kernel
theorem dX0_signing_30 : decode cX0_signing 30 = .ok (.bipush (-2), 2) := by decide +kernel
theorem dX0_signing_32 : decode cX0_signing 32 = .ok (.ireturn, 1) := by decide +kernel
theorem dX0_signing_33 : decode cX0_signing 33 = .ok (.aload_n 0, 1) := by decide +kernel
theorem dX0_signing_34 : decode cX0_signing 34 = .ok (.getfield 12, 3) := by decide +kernel
theorem dX0_signing_37 : decode cX0_signing 37 = .ok (.iload_n 1, 1) := by decide +kernel
theorem dX0_signing_38 : decode cX0_signing 38 = .ok (.iload_n 2, 1) := by decide +kernel
theorem dX0_signing_39 : decode cX0_signing 39 = .ok (.invokevirtual 105, 3) := by decide +kernel
theorem dX0_signing_42 : decode cX0_signing 42 = .ok (.ifCond .eq 19, 3) := by decide +kernel
theorem dX0_signing_45 : decode cX0_signing 45 = .ok (.aload_n 0, 1) := by decide +kernel
theorem dX0_signing_46 : decode cX0_signing 46 = .ok (.bipush 16, 2) := by decide +kernel
theorem dX0_signing_48 : decode cX0_signing 48 = .ok (.aload_n 0, 1) := by decide +kernel
theorem dX0_signing_49 : decode cX0_signing 49 = .ok (.getfield 12, 3) := by decide +kernel
theorem dX0_signing_52 : decode cX0_signing 52 = .ok (.invokevirtual 108, 3) := by decide +kernel
theorem dX0_signing_55 : decode cX0_signing 55 = .ok (.invokevirtual 33, 3) := by decide +kernel
theorem dX0_signing_58 : decode cX0_signing 58 = .ok (.goto 4, 3) := by decide +kernel
theorem dX0_signing_61 : decode cX0_signing 61 = .ok (.iconst 0, 1) := by decide +kernel
theorem dX0_signing_62 : decode cX0_signing 62 = .ok (.ireturn, 1) := by decide +kernel
theorem dX0_endingTreaty_0 : decode cX0_endingTreaty 0 = .ok (.iload_n 1, 1) := by decide +kernel
theorem dX0_endingTreaty_1 : decode cX0_endingTreaty 1 = .ok (.invokestatic 41, 3) := by decide +kernel
theorem dX0_endingTreaty_4 : decode cX0_endingTreaty 4 = .ok (.ifCond .eq 10, 3) := by decide +kernel
theorem dX0_endingTreaty_7 : decode cX0_endingTreaty 7 = .ok (.iload_n 2, 1) := by decide +kernel
theorem dX0_endingTreaty_8 : decode cX0_endingTreaty 8 = .ok (.invokestatic 41, 3) := by decide +kernel
theorem dX0_endingTreaty_11 : decode cX0_endingTreaty 11 = .ok (.ifCond .ne 5, 3) := by decide +kernel
theorem dX0_endingTreaty_14 : decode cX0_endingTreaty 14 = .ok (.iconst (-1), 1) := by decide +kernel
theorem dX0_endingTreaty_15 : decode cX0_endingTreaty 15 = .ok (.ireturn, 1) := by decide +kernel
theorem dX0_endingTreaty_16 : decode cX0_endingTreaty 16 = .ok (.aload_n 0, 1) := by decide +kernel
theorem dX0_endingTreaty_17 : decode cX0_endingTreaty 17 = .ok (.getfield 12, 3) := by decide +kernel
theorem dX0_endingTreaty_20 : decode cX0_endingTreaty 20 = .ok (.iload_n 1, 1) := by decide +kernel
theorem dX0_endingTreaty_21 : decode cX0_endingTreaty 21 = .ok (.iload_n 2, 1) := by decide +kernel
theorem dX0_endingTreaty_22 : decode cX0_endingTreaty 22 = .ok (.invokevirtual 105, 3) := by decide +kernel
theorem dX0_endingTreaty_25 : decode cX0_endingTreaty 25 = .ok (.ifCond .eq 7, 3) := by decide +kernel
theorem dX0_endingTreaty_28 : decode cX0_endingTreaty 28 = .ok (.iconst 0, 1) := by decide +kernel
theorem dX0_endingTreaty_29 : decode cX0_endingTreaty 29 = .ok (.goto 5, 3) := by decide +kernel
theorem dX0_endingTreaty_32 : decode cX0_endingTreaty 32 = .ok (.bipush (-3), 2) := by decide +kernel
theorem dX0_endingTreaty_34 : decode cX0_endingTreaty 34 = .ok (.ireturn, 1) := by decide +kernel
theorem dX0_passing_0 : decode cX0_passing 0 = .ok (.iload_n 1, 1) := by decide +kernel
theorem dX0_passing_1 : decode cX0_passing 1 = .ok (.iconst 1, 1) := by decide +kernel
theorem dX0_passing_2 : decode cX0_passing 2 = .ok (.if_icmp .lt 9, 3) := by decide +kernel
theorem dX0_passing_5 : decode cX0_passing 5 = .ok (.iload_n 1, 1) := by decide +kernel
theorem dX0_passing_6 : decode cX0_passing 6 = .ok (.bipush 20, 2) := by decide +kernel
theorem dX0_passing_8 : decode cX0_passing 8 = .ok (.if_icmp .le 8, 3) := by decide +kernel
theorem dX0_passing_11 : decode cX0_passing 11 = .ok (.bipush (-2), 2) := by decide +kernel
theorem dX0_passing_13 : decode cX0_passing 13 = .ok (.goto 4, 3) := by decide +kernel
theorem dX0_passing_16 : decode cX0_passing 16 = .ok (.iconst 0, 1) := by decide +kernel
theorem dX0_passing_17 : decode cX0_passing 17 = .ok (.ireturn, 1) := by decide +kernel
theorem dX1_init_0 : decode cX1_init 0 = .ok (.aload_n 0, 1) := by decide +kernel
theorem dX1_init_1 : decode cX1_init 1 = .ok (.invokespecial 3, 3) := by decide +kernel
theorem dX1_init_4 : decode cX1_init 4 = .ok (.aload_n 0, 1) := by decide +kernel
theorem dX1_init_5 : decode cX1_init 5 = .ok (.bipush 60, 2) := by decide +kernel
theorem dX1_init_7 : decode cX1_init 7 = .ok (.newarray .char, 2) := by decide +kernel
theorem dX1_init_9 : decode cX1_init 9 = .ok (.putfield 9, 3) := by decide +kernel
theorem dX1_init_12 : decode cX1_init 12 = .ok (.aload_n 0, 1) := by decide +kernel
theorem dX1_init_13 : decode cX1_init 13 = .ok (.bipush 20, 2) := by decide +kernel
theorem dX1_init_15 : decode cX1_init 15 = .ok (.newarray .int, 2) := by decide +kernel
theorem dX1_init_17 : decode cX1_init 17 = .ok (.putfield 15, 3) := by decide +kernel
theorem dX1_init_20 : decode cX1_init 20 = .ok (.aload_n 0, 1) := by decide +kernel
theorem dX1_init_21 : decode cX1_init 21 = .ok (.bipush 60, 2) := by decide +kernel
theorem dX1_init_23 : decode cX1_init 23 = .ok (.newarray .int, 2) := by decide +kernel
theorem dX1_init_25 : decode cX1_init 25 = .ok (.putfield 19, 3) := by decide +kernel
theorem dX1_init_28 : decode cX1_init 28 = .ok (.return_, 1) := by decide +kernel
theorem dX1_append_0 : decode cX1_append 0 = .ok (.aload_n 0, 1) := by decide +kernel
theorem dX1_append_1 : decode cX1_append 1 = .ok (.getfield 22, 3) := by decide +kernel
theorem dX1_append_4 : decode cX1_append 4 = .ok (.bipush 60, 2) := by decide +kernel
theorem dX1_append_6 : decode cX1_append 6 = .ok (.if_icmp .ge 23, 3) := by decide +kernel
theorem dX1_append_9 : decode cX1_append 9 = .ok (.aload_n 0, 1) := by decide +kernel
theorem dX1_append_10 : decode cX1_append 10 = .ok (.getfield 9, 3) := by decide +kernel
theorem dX1_append_13 : decode cX1_append 13 = .ok (.aload_n 0, 1) := by decide +kernel
theorem dX1_append_14 : decode cX1_append 14 = .ok (.getfield 22, 3) := by decide +kernel
theorem dX1_append_17 : decode cX1_append 17 = .ok (.iload_n 1, 1) := by decide +kernel
theorem dX1_append_18 : decode cX1_append 18 = .ok (.castore, 1) := by decide +kernel
theorem dX1_append_19 : decode cX1_append 19 = .ok (.aload_n 0, 1) := by decide +kernel
theorem dX1_append_20 : decode cX1_append 20 = .ok (.dup, 1) := by decide +kernel
theorem dX1_append_21 : decode cX1_append 21 = .ok (.getfield 22, 3) := by decide +kernel
theorem dX1_append_24 : decode cX1_append 24 = .ok (.iconst 1, 1) := by decide +kernel
theorem dX1_append_25 : decode cX1_append 25 = .ok (.iadd, 1) := by decide +kernel
theorem dX1_append_26 : decode cX1_append 26 = .ok (.putfield 22, 3) := by decide +kernel
theorem dX1_append_29 : decode cX1_append 29 = .ok (.aload_n 0, 1) := by decide +kernel
theorem dX1_append_30 : decode cX1_append 30 = .ok (.getfield 22, 3) := by decide +kernel
theorem dX1_append_33 : decode cX1_append 33 = .ok (.ireturn, 1) := by decide +kernel
theorem dX1_letter_0 : decode cX1_letter 0 = .ok (.iload_n 1, 1) := by decide +kernel
theorem dX1_letter_1 : decode cX1_letter 1 = .ok (.ifCond .lt 20, 3) := by decide +kernel
theorem dX1_letter_4 : decode cX1_letter 4 = .ok (.iload_n 1, 1) := by decide +kernel
theorem dX1_letter_5 : decode cX1_letter 5 = .ok (.aload_n 0, 1) := by decide +kernel
theorem dX1_letter_6 : decode cX1_letter 6 = .ok (.getfield 26, 3) := by decide +kernel
theorem dX1_letter_9 : decode cX1_letter 9 = .ok (.if_icmp .ge 12, 3) := by decide +kernel
theorem dX1_letter_12 : decode cX1_letter 12 = .ok (.aload_n 0, 1) := by decide +kernel
theorem dX1_letter_13 : decode cX1_letter 13 = .ok (.getfield 15, 3) := by decide +kernel
theorem dX1_letter_16 : decode cX1_letter 16 = .ok (.iload_n 1, 1) := by decide +kernel
theorem dX1_letter_17 : decode cX1_letter 17 = .ok (.iaload, 1) := by decide +kernel
theorem dX1_letter_18 : decode cX1_letter 18 = .ok (.goto 4, 3) := by decide +kernel
theorem dX1_letter_21 : decode cX1_letter 21 = .ok (.iconst 0, 1) := by decide +kernel
theorem dX1_letter_22 : decode cX1_letter 22 = .ok (.ireturn, 1) := by decide +kernel
theorem dX1_value_0 : decode cX1_value 0 = .ok (.iload_n 1, 1) := by decide +kernel
theorem dX1_value_1 : decode cX1_value 1 = .ok (.ifCond .lt 24, 3) := by decide +kernel
theorem dX1_value_4 : decode cX1_value 4 = .ok (.iload_n 1, 1) := by decide +kernel
theorem dX1_value_5 : decode cX1_value 5 = .ok (.aload_n 0, 1) := by decide +kernel
theorem dX1_value_6 : decode cX1_value 6 = .ok (.getfield 26, 3) := by decide +kernel
theorem dX1_value_9 : decode cX1_value 9 = .ok (.if_icmp .ge 16, 3) := by decide +kernel
theorem dX1_value_12 : decode cX1_value 12 = .ok (.aload_n 0, 1) := by decide +kernel
theorem dX1_value_13 : decode cX1_value 13 = .ok (.getfield 19, 3) := by decide +kernel
theorem dX1_value_16 : decode cX1_value 16 = .ok (.iload_n 1, 1) := by decide +kernel
theorem dX1_value_17 : decode cX1_value 17 = .ok (.iconst 3, 1) := by decide +kernel
theorem dX1_value_18 : decode cX1_value 18 = .ok (.imul, 1) := by decide +kernel
theorem dX1_value_19 : decode cX1_value 19 = .ok (.iload_n 2, 1) := by decide +kernel
theorem dX1_value_20 : decode cX1_value 20 = .ok (.iadd, 1) := by decide +kernel
theorem dX1_value_21 : decode cX1_value 21 = .ok (.iaload, 1) := by decide +kernel
theorem dX1_value_22 : decode cX1_value 22 = .ok (.goto 4, 3) := by decide +kernel
theorem dX1_value_25 : decode cX1_value 25 = .ok (.iconst 0, 1) := by decide +kernel
theorem dX1_value_26 : decode cX1_value 26 = .ok (.ireturn, 1) := by decide +kernel
theorem dX1_read_0 : decode cX1_read 0 = .ok (.aload_n 0, 1) := by decide +kernel
theorem dX1_read_1 : decode cX1_read 1 = .ok (.iconst 0, 1) := by decide +kernel
theorem dX1_read_2 : decode cX1_read 2 = .ok (.putfield 26, 3) := by decide +kernel
theorem dX1_read_5 : decode cX1_read 5 = .ok (.aload_n 0, 1) := by decide +kernel
theorem dX1_read_6 : decode cX1_read 6 = .ok (.invokevirtual 29, 3) := by decide +kernel
theorem dX1_read_9 : decode cX1_read 9 = .ok (.istore_n 1, 1) := by decide +kernel
theorem dX1_read_10 : decode cX1_read 10 = .ok (.aload_n 0, 1) := by decide +kernel
theorem dX1_read_11 : decode cX1_read 11 = .ok (.iconst 0, 1) := by decide +kernel
theorem dX1_read_12 : decode cX1_read 12 = .ok (.putfield 22, 3) := by decide +kernel
theorem dX1_read_15 : decode cX1_read 15 = .ok (.iload_n 1, 1) := by decide +kernel
theorem dX1_read_16 : decode cX1_read 16 = .ok (.ireturn, 1) := by decide +kernel
theorem dX1_readAll_0 : decode cX1_readAll 0 = .ok (.aload_n 0, 1) := by decide +kernel
theorem dX1_readAll_1 : decode cX1_readAll 1 = .ok (.iconst 0, 1) := by decide +kernel
theorem dX1_readAll_2 : decode cX1_readAll 2 = .ok (.putfield 33, 3) := by decide +kernel
theorem dX1_readAll_5 : decode cX1_readAll 5 = .ok (.iconst 0, 1) := by decide +kernel
theorem dX1_readAll_6 : decode cX1_readAll 6 = .ok (.istore_n 1, 1) := by decide +kernel
theorem dX1_readAll_7 : decode cX1_readAll 7 = .ok (.iload_n 1, 1) := by decide +kernel
theorem dX1_readAll_8 : decode cX1_readAll 8 = .ok (.bipush 20, 2) := by decide +kernel
theorem dX1_readAll_10 : decode cX1_readAll 10 = .ok (.if_icmp .gt 58, 3) := by decide +kernel
theorem dX1_readAll_13 : decode cX1_readAll 13 = .ok (.aload_n 0, 1) := by decide +kernel
theorem dX1_readAll_14 : decode cX1_readAll 14 = .ok (.invokevirtual 36, 3) := by decide +kernel
theorem dX1_readAll_17 : decode cX1_readAll 17 = .ok (.ifCond .ne 8, 3) := by decide +kernel
theorem dX1_readAll_20 : decode cX1_readAll 20 = .ok (.aload_n 0, 1) := by decide +kernel
theorem dX1_readAll_21 : decode cX1_readAll 21 = .ok (.getfield 33, 3) := by decide +kernel
theorem dX1_readAll_24 : decode cX1_readAll 24 = .ok (.ireturn, 1) := by decide +kernel
theorem dX1_readAll_25 : decode cX1_readAll 25 = .ok (.aload_n 0, 1) := by decide +kernel
theorem dX1_readAll_26 : decode cX1_readAll 26 = .ok (.getfield 33, 3) := by decide +kernel
theorem dX1_readAll_29 : decode cX1_readAll 29 = .ok (.aload_n 0, 1) := by decide +kernel
theorem dX1_readAll_30 : decode cX1_readAll 30 = .ok (.getfield 22, 3) := by decide +kernel
theorem dX1_readAll_33 : decode cX1_readAll 33 = .ok (.if_icmp .lt 5, 3) := by decide +kernel
theorem dX1_readAll_36 : decode cX1_readAll 36 = .ok (.iconst (-1), 1) := by decide +kernel
theorem dX1_readAll_37 : decode cX1_readAll 37 = .ok (.ireturn, 1) := by decide +kernel
theorem dX1_readAll_38 : decode cX1_readAll 38 = .ok (.aload_n 0, 1) := by decide +kernel
theorem dX1_readAll_39 : decode cX1_readAll 39 = .ok (.invokevirtual 40, 3) := by decide +kernel
theorem dX1_readAll_42 : decode cX1_readAll 42 = .ok (.bipush 59, 2) := by decide +kernel
theorem dX1_readAll_44 : decode cX1_readAll 44 = .ok (.if_icmp .eq 8, 3) := by decide +kernel
theorem dX1_readAll_47 : decode cX1_readAll 47 = .ok (.aload_n 0, 1) := by decide +kernel
theorem dX1_readAll_48 : decode cX1_readAll 48 = .ok (.getfield 33, 3) := by decide +kernel
theorem dX1_readAll_51 : decode cX1_readAll 51 = .ok (.ireturn, 1) := by decide +kernel
theorem dX1_readAll_52 : decode cX1_readAll 52 = .ok (.aload_n 0, 1) := by decide +kernel
theorem dX1_readAll_53 : decode cX1_readAll 53 = .ok (.dup, 1) := by decide +kernel
theorem dX1_readAll_54 : decode cX1_readAll 54 = .ok (.getfield 33, 3) := by decide +kernel
theorem dX1_readAll_57 : decode cX1_readAll 57 = .ok (.iconst 1, 1) := by decide +kernel
theorem dX1_readAll_58 : decode cX1_readAll 58 = .ok (.iadd, 1) := by decide +kernel
theorem dX1_readAll_59 : decode cX1_readAll 59 = .ok (.putfield 33, 3) := by decide +kernel
theorem dX1_readAll_62 : decode cX1_readAll 62 = .ok (.iinc 1 1, 3) := by decide +kernel
theorem dX1_readAll_65 : decode cX1_readAll 65 = .ok (.goto (-58), 3) := by decide +kernel
theorem dX1_readAll_68 : decode cX1_readAll 68 = .ok (.aload_n 0, 1) := by decide +kernel
theorem dX1_readAll_69 : decode cX1_readAll 69 = .ok (.getfield 33, 3) := by decide +kernel
theorem dX1_readAll_72 : decode cX1_readAll 72 = .ok (.ireturn, 1) := by decide +kernel
theorem dX1_readCommand_0 : decode cX1_readCommand 0 = .ok (.aload_n 0, 1) := by decide +kernel
theorem dX1_readCommand_1 : decode cX1_readCommand 1 = .ok (.invokevirtual 40, 3) := by decide +kernel
theorem dX1_readCommand_4 : decode cX1_readCommand 4 = .ok (.invokestatic 44, 3) := by decide +kernel
theorem dX1_readCommand_7 : decode cX1_readCommand 7 = .ok (.astore_n 1, 1) := by decide +kernel
theorem dX1_readCommand_8 : decode cX1_readCommand 8 = .ok (.aload_n 1, 1) := by decide +kernel
theorem dX1_readCommand_9 : decode cX1_readCommand 9 = .ok (.invokevirtual 48, 3) := by decide +kernel
theorem dX1_readCommand_12 : decode cX1_readCommand 12 = .ok (.ifCond .ne 12, 3) := by decide +kernel
theorem dX1_readCommand_15 : decode cX1_readCommand 15 = .ok (.aload_n 0, 1) := by decide +kernel
theorem dX1_readCommand_16 : decode cX1_readCommand 16 = .ok (.getfield 26, 3) := by decide +kernel
theorem dX1_readCommand_19 : decode cX1_readCommand 19 = .ok (.bipush 20, 2) := by decide +kernel
theorem dX1_readCommand_21 : decode cX1_readCommand 21 = .ok (.if_icmp .lt 5, 3) := by decide +kernel
theorem dX1_readCommand_24 : decode cX1_readCommand 24 = .ok (.iconst 0, 1) := by decide +kernel
theorem dX1_readCommand_25 : decode cX1_readCommand 25 = .ok (.ireturn, 1) := by decide +kernel
theorem dX1_readCommand_26 : decode cX1_readCommand 26 = .ok (.aload_n 0, 1) := by decide +kernel
theorem dX1_readCommand_27 : decode cX1_readCommand 27 = .ok (.getfield 15, 3) := by decide +kernel
theorem dX1_readCommand_30 : decode cX1_readCommand 30 = .ok (.aload_n 0, 1) := by decide +kernel
theorem dX1_readCommand_31 : decode cX1_readCommand 31 = .ok (.getfield 26, 3) := by decide +kernel
theorem dX1_readCommand_34 : decode cX1_readCommand 34 = .ok (.aload_n 0, 1) := by decide +kernel
theorem dX1_readCommand_35 : decode cX1_readCommand 35 = .ok (.invokevirtual 40, 3) := by decide +kernel
theorem dX1_readCommand_38 : decode cX1_readCommand 38 = .ok (.iastore, 1) := by decide +kernel
theorem dX1_readCommand_39 : decode cX1_readCommand 39 = .ok (.aload_n 0, 1) := by decide +kernel
theorem dX1_readCommand_40 : decode cX1_readCommand 40 = .ok (.dup, 1) := by decide +kernel
theorem dX1_readCommand_41 : decode cX1_readCommand 41 = .ok (.getfield 33, 3) := by decide +kernel
theorem dX1_readCommand_44 : decode cX1_readCommand 44 = .ok (.iconst 1, 1) := by decide +kernel
theorem dX1_readCommand_45 : decode cX1_readCommand 45 = .ok (.iadd, 1) := by decide +kernel
theorem dX1_readCommand_46 : decode cX1_readCommand 46 = .ok (.putfield 33, 3) := by decide +kernel
theorem dX1_readCommand_49 : decode cX1_readCommand 49 = .ok (.aload_n 0, 1) := by decide +kernel
theorem dX1_readCommand_50 : decode cX1_readCommand 50 = .ok (.iconst 0, 1) := by decide +kernel
theorem dX1_readCommand_51 : decode cX1_readCommand 51 = .ok (.putfield 53, 3) := by decide +kernel
theorem dX1_readCommand_54 : decode cX1_readCommand 54 = .ok (.iconst 0, 1) := by decide +kernel
theorem dX1_readCommand_55 : decode cX1_readCommand 55 = .ok (.istore_n 2, 1) := by decide +kernel
theorem dX1_readCommand_56 : decode cX1_readCommand 56 = .ok (.iload_n 2, 1) := by decide +kernel
theorem dX1_readCommand_57 : decode cX1_readCommand 57 = .ok (.aload_n 1, 1) := by decide +kernel
theorem dX1_readCommand_58 : decode cX1_readCommand 58 = .ok (.invokevirtual 56, 3) := by decide +kernel
theorem dX1_readCommand_61 : decode cX1_readCommand 61 = .ok (.if_icmp .ge 23, 3) := by decide +kernel
theorem dX1_readCommand_64 : decode cX1_readCommand 64 = .ok (.aload_n 0, 1) := by decide +kernel
theorem dX1_readCommand_65 : decode cX1_readCommand 65 = .ok (.aload_n 1, 1) := by decide +kernel
theorem dX1_readCommand_66 : decode cX1_readCommand 66 = .ok (.iload_n 2, 1) := by decide +kernel
theorem dX1_readCommand_67 : decode cX1_readCommand 67 = .ok (.invokevirtual 58, 3) := by decide +kernel
theorem dX1_readCommand_70 : decode cX1_readCommand 70 = .ok (.invokevirtual 62, 3) := by decide +kernel
theorem dX1_readCommand_73 : decode cX1_readCommand 73 = .ok (.ifCond .ne 5, 3) := by decide +kernel
theorem dX1_readCommand_76 : decode cX1_readCommand 76 = .ok (.iconst 0, 1) := by decide +kernel
theorem dX1_readCommand_77 : decode cX1_readCommand 77 = .ok (.ireturn, 1) := by decide +kernel
theorem dX1_readCommand_78 : decode cX1_readCommand 78 = .ok (.iinc 2 1, 3) := by decide +kernel
theorem dX1_readCommand_81 : decode cX1_readCommand 81 = .ok (.goto (-25), 3) := by decide +kernel
theorem dX1_readCommand_84 : decode cX1_readCommand 84 = .ok (.aload_n 0, 1) := by decide +kernel
theorem dX1_readCommand_85 : decode cX1_readCommand 85 = .ok (.dup, 1) := by decide +kernel
theorem dX1_readCommand_86 : decode cX1_readCommand 86 = .ok (.getfield 26, 3) := by decide +kernel
theorem dX1_readCommand_89 : decode cX1_readCommand 89 = .ok (.iconst 1, 1) := by decide +kernel
theorem dX1_readCommand_90 : decode cX1_readCommand 90 = .ok (.iadd, 1) := by decide +kernel
theorem dX1_readCommand_91 : decode cX1_readCommand 91 = .ok (.putfield 26, 3) := by decide +kernel
theorem dX1_readCommand_94 : decode cX1_readCommand 94 = .ok (.iconst 1, 1) := by decide +kernel
theorem dX1_readCommand_95 : decode cX1_readCommand 95 = .ok (.ireturn, 1) := by decide +kernel
theorem dX1_formOf_0 : decode cX1_formOf 0 = .ok (.iload_n 0, 1) := by decide +kernel
theorem dX1_formOf_1 : decode cX1_formOf 1 = .ok (.tableswitch 145 97 121 #[118, 136, 145, 124, 142, 145, 145, 145, 145, 130, 121, 121, 118, 115, 145, 121, 133, 127, 145, 139, 136, 145, 121, 145, 121], 115) := by decide +kernel
theorem dX1_formOf_116 : decode cX1_formOf 116 = .ok (.ldc 66, 2) := by decide +kernel
theorem dX1_formOf_118 : decode cX1_formOf 118 = .ok (.areturn, 1) := by decide +kernel
theorem dX1_formOf_119 : decode cX1_formOf 119 = .ok (.ldc 68, 2) := by decide +kernel
theorem dX1_formOf_121 : decode cX1_formOf 121 = .ok (.areturn, 1) := by decide +kernel
theorem dX1_formOf_122 : decode cX1_formOf 122 = .ok (.ldc 70, 2) := by decide +kernel
theorem dX1_formOf_124 : decode cX1_formOf 124 = .ok (.areturn, 1) := by decide +kernel
theorem dX1_formOf_125 : decode cX1_formOf 125 = .ok (.ldc 72, 2) := by decide +kernel
theorem dX1_formOf_127 : decode cX1_formOf 127 = .ok (.areturn, 1) := by decide +kernel
theorem dX1_formOf_128 : decode cX1_formOf 128 = .ok (.ldc 74, 2) := by decide +kernel
theorem dX1_formOf_130 : decode cX1_formOf 130 = .ok (.areturn, 1) := by decide +kernel
theorem dX1_formOf_131 : decode cX1_formOf 131 = .ok (.ldc 76, 2) := by decide +kernel
theorem dX1_formOf_133 : decode cX1_formOf 133 = .ok (.areturn, 1) := by decide +kernel
theorem dX1_formOf_134 : decode cX1_formOf 134 = .ok (.ldc 78, 2) := by decide +kernel
theorem dX1_formOf_136 : decode cX1_formOf 136 = .ok (.areturn, 1) := by decide +kernel
theorem dX1_formOf_137 : decode cX1_formOf 137 = .ok (.ldc 80, 2) := by decide +kernel
theorem dX1_formOf_139 : decode cX1_formOf 139 = .ok (.areturn, 1) := by decide +kernel
theorem dX1_formOf_140 : decode cX1_formOf 140 = .ok (.ldc 82, 2) := by decide +kernel
theorem dX1_formOf_142 : decode cX1_formOf 142 = .ok (.areturn, 1) := by decide +kernel
theorem dX1_formOf_143 : decode cX1_formOf 143 = .ok (.ldc 84, 2) := by decide +kernel
theorem dX1_formOf_145 : decode cX1_formOf 145 = .ok (.areturn, 1) := by decide +kernel
theorem dX1_formOf_146 : decode cX1_formOf 146 = .ok (.ldc 86, 2) := by decide +kernel
theorem dX1_formOf_148 : decode cX1_formOf 148 = .ok (.areturn, 1) := by decide +kernel
theorem dX1_here_0 : decode cX1_here 0 = .ok (.aload_n 0, 1) := by decide +kernel
theorem dX1_here_1 : decode cX1_here 1 = .ok (.getfield 33, 3) := by decide +kernel
theorem dX1_here_4 : decode cX1_here 4 = .ok (.ifCond .lt 26, 3) := by decide +kernel
theorem dX1_here_7 : decode cX1_here 7 = .ok (.aload_n 0, 1) := by decide +kernel
theorem dX1_here_8 : decode cX1_here 8 = .ok (.getfield 33, 3) := by decide +kernel
theorem dX1_here_11 : decode cX1_here 11 = .ok (.aload_n 0, 1) := by decide +kernel
theorem dX1_here_12 : decode cX1_here 12 = .ok (.getfield 22, 3) := by decide +kernel
theorem dX1_here_15 : decode cX1_here 15 = .ok (.if_icmp .ge 15, 3) := by decide +kernel
theorem dX1_here_18 : decode cX1_here 18 = .ok (.aload_n 0, 1) := by decide +kernel
theorem dX1_here_19 : decode cX1_here 19 = .ok (.getfield 9, 3) := by decide +kernel
theorem dX1_here_22 : decode cX1_here 22 = .ok (.aload_n 0, 1) := by decide +kernel
theorem dX1_here_23 : decode cX1_here 23 = .ok (.getfield 33, 3) := by decide +kernel
theorem dX1_here_26 : decode cX1_here 26 = .ok (.caload, 1) := by decide +kernel
theorem dX1_here_27 : decode cX1_here 27 = .ok (.goto 4, 3) := by decide +kernel
theorem dX1_here_30 : decode cX1_here 30 = .ok (.iconst 0, 1) := by decide +kernel
theorem dX1_here_31 : decode cX1_here 31 = .ok (.ireturn, 1) := by decide +kernel
theorem dX1_isDigit_0 : decode cX1_isDigit 0 = .ok (.iload_n 0, 1) := by decide +kernel
theorem dX1_isDigit_1 : decode cX1_isDigit 1 = .ok (.bipush 48, 2) := by decide +kernel
theorem dX1_isDigit_3 : decode cX1_isDigit 3 = .ok (.if_icmp .lt 13, 3) := by decide +kernel
theorem dX1_isDigit_6 : decode cX1_isDigit 6 = .ok (.iload_n 0, 1) := by decide +kernel
theorem dX1_isDigit_7 : decode cX1_isDigit 7 = .ok (.bipush 57, 2) := by decide +kernel
theorem dX1_isDigit_9 : decode cX1_isDigit 9 = .ok (.if_icmp .gt 7, 3) := by decide +kernel
theorem dX1_isDigit_12 : decode cX1_isDigit 12 = .ok (.iconst 1, 1) := by decide +kernel
theorem dX1_isDigit_13 : decode cX1_isDigit 13 = .ok (.goto 4, 3) := by decide +kernel
theorem dX1_isDigit_16 : decode cX1_isDigit 16 = .ok (.iconst 0, 1) := by decide +kernel
theorem dX1_isDigit_17 : decode cX1_isDigit 17 = .ok (.ireturn, 1) := by decide +kernel
theorem dX1_readPart_0 : decode cX1_readPart 0 = .ok (.iload_n 1, 1) := by decide +kernel
theorem dX1_readPart_1 : decode cX1_readPart 1 = .ok (.lookupswitch 67 #[(67, 53), (68, 48), (78, 43), (84, 60)], 43) := by decide +kernel
theorem dX1_readPart_44 : decode cX1_readPart 44 = .ok (.aload_n 0, 1) := by decide +kernel
theorem dX1_readPart_45 : decode cX1_readPart 45 = .ok (.invokevirtual 88, 3) := by decide +kernel
theorem dX1_readPart_48 : decode cX1_readPart 48 = .ok (.ireturn, 1) := by decide +kernel
theorem dX1_readPart_49 : decode cX1_readPart 49 = .ok (.aload_n 0, 1) := by decide +kernel
theorem dX1_readPart_50 : decode cX1_readPart 50 = .ok (.invokevirtual 91, 3) := by decide +kernel
theorem dX1_readPart_53 : decode cX1_readPart 53 = .ok (.ireturn, 1) := by decide +kernel
theorem dX1_readPart_54 : decode cX1_readPart 54 = .ok (.aload_n 0, 1) := by decide +kernel
theorem dX1_readPart_55 : decode cX1_readPart 55 = .ok (.ldc 94, 2) := by decide +kernel
theorem dX1_readPart_57 : decode cX1_readPart 57 = .ok (.invokevirtual 96, 3) := by decide +kernel
theorem dX1_readPart_60 : decode cX1_readPart 60 = .ok (.ireturn, 1) := by decide +kernel
theorem dX1_readPart_61 : decode cX1_readPart 61 = .ok (.aload_n 0, 1) := by decide +kernel
theorem dX1_readPart_62 : decode cX1_readPart 62 = .ok (.ldc 100, 2) := by decide +kernel
theorem dX1_readPart_64 : decode cX1_readPart 64 = .ok (.invokevirtual 96, 3) := by decide +kernel
theorem dX1_readPart_67 : decode cX1_readPart 67 = .ok (.ireturn, 1) := by decide +kernel
theorem dX1_readPart_68 : decode cX1_readPart 68 = .ok (.aload_n 0, 1) := by decide +kernel
theorem dX1_readPart_69 : decode cX1_readPart 69 = .ok (.iload_n 1, 1) := by decide +kernel
theorem dX1_readPart_70 : decode cX1_readPart 70 = .ok (.invokevirtual 102, 3) := by decide +kernel
theorem dX1_readPart_73 : decode cX1_readPart 73 = .ok (.ireturn, 1) := by decide +kernel
theorem dX1_readNumber_0 : decode cX1_readNumber 0 = .ok (.aload_n 0, 1) := by decide +kernel
theorem dX1_readNumber_1 : decode cX1_readNumber 1 = .ok (.invokevirtual 40, 3) := by decide +kernel
theorem dX1_readNumber_4 : decode cX1_readNumber 4 = .ok (.invokestatic 105, 3) := by decide +kernel
theorem dX1_readNumber_7 : decode cX1_readNumber 7 = .ok (.ifCond .ne 5, 3) := by decide +kernel
theorem dX1_readNumber_10 : decode cX1_readNumber 10 = .ok (.iconst 0, 1) := by decide +kernel
theorem dX1_readNumber_11 : decode cX1_readNumber 11 = .ok (.ireturn, 1) := by decide +kernel
theorem dX1_readNumber_12 : decode cX1_readNumber 12 = .ok (.aload_n 0, 1) := by decide +kernel
theorem dX1_readNumber_13 : decode cX1_readNumber 13 = .ok (.invokevirtual 40, 3) := by decide +kernel
theorem dX1_readNumber_16 : decode cX1_readNumber 16 = .ok (.bipush 48, 2) := by decide +kernel
theorem dX1_readNumber_18 : decode cX1_readNumber 18 = .ok (.isub, 1) := by decide +kernel
theorem dX1_readNumber_19 : decode cX1_readNumber 19 = .ok (.istore_n 1, 1) := by decide +kernel
theorem dX1_readNumber_20 : decode cX1_readNumber 20 = .ok (.aload_n 0, 1) := by decide +kernel
theorem dX1_readNumber_21 : decode cX1_readNumber 21 = .ok (.dup, 1) := by decide +kernel
theorem dX1_readNumber_22 : decode cX1_readNumber 22 = .ok (.getfield 33, 3) := by decide +kernel
theorem dX1_readNumber_25 : decode cX1_readNumber 25 = .ok (.iconst 1, 1) := by decide +kernel
theorem dX1_readNumber_26 : decode cX1_readNumber 26 = .ok (.iadd, 1) := by decide +kernel
theorem dX1_readNumber_27 : decode cX1_readNumber 27 = .ok (.putfield 33, 3) := by decide +kernel
theorem dX1_readNumber_30 : decode cX1_readNumber 30 = .ok (.aload_n 0, 1) := by decide +kernel
theorem dX1_readNumber_31 : decode cX1_readNumber 31 = .ok (.invokevirtual 40, 3) := by decide +kernel
theorem dX1_readNumber_34 : decode cX1_readNumber 34 = .ok (.invokestatic 105, 3) := by decide +kernel
theorem dX1_readNumber_37 : decode cX1_readNumber 37 = .ok (.ifCond .eq 26, 3) := by decide +kernel
theorem dX1_readNumber_40 : decode cX1_readNumber 40 = .ok (.iload_n 1, 1) := by decide +kernel
theorem dX1_readNumber_41 : decode cX1_readNumber 41 = .ok (.bipush 10, 2) := by decide +kernel
theorem dX1_readNumber_43 : decode cX1_readNumber 43 = .ok (.imul, 1) := by decide +kernel
theorem dX1_readNumber_44 : decode cX1_readNumber 44 = .ok (.aload_n 0, 1) := by decide +kernel
theorem dX1_readNumber_45 : decode cX1_readNumber 45 = .ok (.invokevirtual 40, 3) := by decide +kernel
theorem dX1_readNumber_48 : decode cX1_readNumber 48 = .ok (.iadd, 1) := by decide +kernel
theorem dX1_readNumber_49 : decode cX1_readNumber 49 = .ok (.bipush 48, 2) := by decide +kernel
theorem dX1_readNumber_51 : decode cX1_readNumber 51 = .ok (.isub, 1) := by decide +kernel
theorem dX1_readNumber_52 : decode cX1_readNumber 52 = .ok (.istore_n 1, 1) := by decide +kernel
theorem dX1_readNumber_53 : decode cX1_readNumber 53 = .ok (.aload_n 0, 1) := by decide +kernel
theorem dX1_readNumber_54 : decode cX1_readNumber 54 = .ok (.dup, 1) := by decide +kernel
theorem dX1_readNumber_55 : decode cX1_readNumber 55 = .ok (.getfield 33, 3) := by decide +kernel
theorem dX1_readNumber_58 : decode cX1_readNumber 58 = .ok (.iconst 1, 1) := by decide +kernel
theorem dX1_readNumber_59 : decode cX1_readNumber 59 = .ok (.iadd, 1) := by decide +kernel
theorem dX1_readNumber_60 : decode cX1_readNumber 60 = .ok (.putfield 33, 3) := by decide +kernel
theorem dX1_readNumber_63 : decode cX1_readNumber 63 = .ok (.aload_n 0, 1) := by decide +kernel
theorem dX1_readNumber_64 : decode cX1_readNumber 64 = .ok (.iload_n 1, 1) := by decide +kernel
theorem dX1_readNumber_65 : decode cX1_readNumber 65 = .ok (.invokevirtual 109, 3) := by decide +kernel
theorem dX1_readNumber_68 : decode cX1_readNumber 68 = .ok (.iconst 1, 1) := by decide +kernel
theorem dX1_readNumber_69 : decode cX1_readNumber 69 = .ok (.ireturn, 1) := by decide +kernel
theorem dX1_readDigit_0 : decode cX1_readDigit 0 = .ok (.aload_n 0, 1) := by decide +kernel
theorem dX1_readDigit_1 : decode cX1_readDigit 1 = .ok (.invokevirtual 40, 3) := by decide +kernel
theorem dX1_readDigit_4 : decode cX1_readDigit 4 = .ok (.invokestatic 105, 3) := by decide +kernel
theorem dX1_readDigit_7 : decode cX1_readDigit 7 = .ok (.ifCond .ne 5, 3) := by decide +kernel
theorem dX1_readDigit_10 : decode cX1_readDigit 10 = .ok (.iconst 0, 1) := by decide +kernel
theorem dX1_readDigit_11 : decode cX1_readDigit 11 = .ok (.ireturn, 1) := by decide +kernel
theorem dX1_readDigit_12 : decode cX1_readDigit 12 = .ok (.aload_n 0, 1) := by decide +kernel
theorem dX1_readDigit_13 : decode cX1_readDigit 13 = .ok (.aload_n 0, 1) := by decide +kernel
theorem dX1_readDigit_14 : decode cX1_readDigit 14 = .ok (.invokevirtual 40, 3) := by decide +kernel
theorem dX1_readDigit_17 : decode cX1_readDigit 17 = .ok (.bipush 48, 2) := by decide +kernel
theorem dX1_readDigit_19 : decode cX1_readDigit 19 = .ok (.isub, 1) := by decide +kernel
theorem dX1_readDigit_20 : decode cX1_readDigit 20 = .ok (.invokevirtual 109, 3) := by decide +kernel
theorem dX1_readDigit_23 : decode cX1_readDigit 23 = .ok (.aload_n 0, 1) := by decide +kernel
theorem dX1_readDigit_24 : decode cX1_readDigit 24 = .ok (.dup, 1) := by decide +kernel
theorem dX1_readDigit_25 : decode cX1_readDigit 25 = .ok (.getfield 33, 3) := by decide +kernel
theorem dX1_readDigit_28 : decode cX1_readDigit 28 = .ok (.iconst 1, 1) := by decide +kernel
theorem dX1_readDigit_29 : decode cX1_readDigit 29 = .ok (.iadd, 1) := by decide +kernel
theorem dX1_readDigit_30 : decode cX1_readDigit 30 = .ok (.putfield 33, 3) := by decide +kernel
theorem dX1_readDigit_33 : decode cX1_readDigit 33 = .ok (.iconst 1, 1) := by decide +kernel
theorem dX1_readDigit_34 : decode cX1_readDigit 34 = .ok (.ireturn, 1) := by decide +kernel
theorem dX1_readOneOf_0 : decode cX1_readOneOf 0 = .ok (.aload_n 1, 1) := by decide +kernel
theorem dX1_readOneOf_1 : decode cX1_readOneOf 1 = .ok (.aload_n 0, 1) := by decide +kernel
theorem dX1_readOneOf_2 : decode cX1_readOneOf 2 = .ok (.invokevirtual 40, 3) := by decide +kernel
theorem dX1_readOneOf_5 : decode cX1_readOneOf 5 = .ok (.invokevirtual 113, 3) := by decide +kernel
theorem dX1_readOneOf_8 : decode cX1_readOneOf 8 = .ok (.ifCond .ge 5, 3) := by decide +kernel
theorem dX1_readOneOf_11 : decode cX1_readOneOf 11 = .ok (.iconst 0, 1) := by decide +kernel
theorem dX1_readOneOf_12 : decode cX1_readOneOf 12 = .ok (.ireturn, 1) := by decide +kernel
theorem dX1_readOneOf_13 : decode cX1_readOneOf 13 = .ok (.aload_n 0, 1) := by decide +kernel
theorem dX1_readOneOf_14 : decode cX1_readOneOf 14 = .ok (.aload_n 0, 1) := by decide +kernel
theorem dX1_readOneOf_15 : decode cX1_readOneOf 15 = .ok (.invokevirtual 40, 3) := by decide +kernel
theorem dX1_readOneOf_18 : decode cX1_readOneOf 18 = .ok (.invokevirtual 109, 3) := by decide +kernel
theorem dX1_readOneOf_21 : decode cX1_readOneOf 21 = .ok (.aload_n 0, 1) := by decide +kernel
theorem dX1_readOneOf_22 : decode cX1_readOneOf 22 = .ok (.dup, 1) := by decide +kernel
theorem dX1_readOneOf_23 : decode cX1_readOneOf 23 = .ok (.getfield 33, 3) := by decide +kernel
theorem dX1_readOneOf_26 : decode cX1_readOneOf 26 = .ok (.iconst 1, 1) := by decide +kernel
theorem dX1_readOneOf_27 : decode cX1_readOneOf 27 = .ok (.iadd, 1) := by decide +kernel
theorem dX1_readOneOf_28 : decode cX1_readOneOf 28 = .ok (.putfield 33, 3) := by decide +kernel
theorem dX1_readOneOf_31 : decode cX1_readOneOf 31 = .ok (.iconst 1, 1) := by decide +kernel
theorem dX1_readOneOf_32 : decode cX1_readOneOf 32 = .ok (.ireturn, 1) := by decide +kernel
theorem dX1_readSign_0 : decode cX1_readSign 0 = .ok (.aload_n 0, 1) := by decide +kernel
theorem dX1_readSign_1 : decode cX1_readSign 1 = .ok (.invokevirtual 40, 3) := by decide +kernel
theorem dX1_readSign_4 : decode cX1_readSign 4 = .ok (.iload_n 1, 1) := by decide +kernel
theorem dX1_readSign_5 : decode cX1_readSign 5 = .ok (.if_icmp .eq 5, 3) := by decide +kernel
theorem dX1_readSign_8 : decode cX1_readSign 8 = .ok (.iconst 0, 1) := by decide +kernel
theorem dX1_readSign_9 : decode cX1_readSign 9 = .ok (.ireturn, 1) := by decide +kernel
theorem dX1_readSign_10 : decode cX1_readSign 10 = .ok (.aload_n 0, 1) := by decide +kernel
theorem dX1_readSign_11 : decode cX1_readSign 11 = .ok (.dup, 1) := by decide +kernel
theorem dX1_readSign_12 : decode cX1_readSign 12 = .ok (.getfield 33, 3) := by decide +kernel
theorem dX1_readSign_15 : decode cX1_readSign 15 = .ok (.iconst 1, 1) := by decide +kernel
theorem dX1_readSign_16 : decode cX1_readSign 16 = .ok (.iadd, 1) := by decide +kernel
theorem dX1_readSign_17 : decode cX1_readSign 17 = .ok (.putfield 33, 3) := by decide +kernel
theorem dX1_readSign_20 : decode cX1_readSign 20 = .ok (.iconst 1, 1) := by decide +kernel
theorem dX1_readSign_21 : decode cX1_readSign 21 = .ok (.ireturn, 1) := by decide +kernel
theorem dX1_put_0 : decode cX1_put 0 = .ok (.aload_n 0, 1) := by decide +kernel
theorem dX1_put_1 : decode cX1_put 1 = .ok (.getfield 53, 3) := by decide +kernel
theorem dX1_put_4 : decode cX1_put 4 = .ok (.iconst 3, 1) := by decide +kernel
theorem dX1_put_5 : decode cX1_put 5 = .ok (.if_icmp .ge 30, 3) := by decide +kernel
theorem dX1_put_8 : decode cX1_put 8 = .ok (.aload_n 0, 1) := by decide +kernel
theorem dX1_put_9 : decode cX1_put 9 = .ok (.getfield 19, 3) := by decide +kernel
theorem dX1_put_12 : decode cX1_put 12 = .ok (.aload_n 0, 1) := by decide +kernel
theorem dX1_put_13 : decode cX1_put 13 = .ok (.getfield 26, 3) := by decide +kernel
theorem dX1_put_16 : decode cX1_put 16 = .ok (.iconst 3, 1) := by decide +kernel
theorem dX1_put_17 : decode cX1_put 17 = .ok (.imul, 1) := by decide +kernel
theorem dX1_put_18 : decode cX1_put 18 = .ok (.aload_n 0, 1) := by decide +kernel
theorem dX1_put_19 : decode cX1_put 19 = .ok (.getfield 53, 3) := by decide +kernel
theorem dX1_put_22 : decode cX1_put 22 = .ok (.iadd, 1) := by decide +kernel
theorem dX1_put_23 : decode cX1_put 23 = .ok (.iload_n 1, 1) := by decide +kernel
theorem dX1_put_24 : decode cX1_put 24 = .ok (.iastore, 1) := by decide +kernel
theorem dX1_put_25 : decode cX1_put 25 = .ok (.aload_n 0, 1) := by decide +kernel
theorem dX1_put_26 : decode cX1_put 26 = .ok (.dup, 1) := by decide +kernel
theorem dX1_put_27 : decode cX1_put 27 = .ok (.getfield 53, 3) := by decide +kernel
theorem dX1_put_30 : decode cX1_put 30 = .ok (.iconst 1, 1) := by decide +kernel
theorem dX1_put_31 : decode cX1_put 31 = .ok (.iadd, 1) := by decide +kernel
theorem dX1_put_32 : decode cX1_put 32 = .ok (.putfield 53, 3) := by decide +kernel
theorem dX1_put_35 : decode cX1_put 35 = .ok (.return_, 1) := by decide +kernel
theorem dX2_init_0 : decode cX2_init 0 = .ok (.aload_n 0, 1) := by decide +kernel
theorem dX2_init_1 : decode cX2_init 1 = .ok (.invokespecial 3, 3) := by decide +kernel
theorem dX2_init_4 : decode cX2_init 4 = .ok (.aload_n 0, 1) := by decide +kernel
theorem dX2_init_5 : decode cX2_init 5 = .ok (.bipush 8, 2) := by decide +kernel
theorem dX2_init_7 : decode cX2_init 7 = .ok (.anewarray 9, 3) := by decide +kernel
theorem dX2_init_10 : decode cX2_init 10 = .ok (.putfield 11, 3) := by decide +kernel
theorem dX2_init_13 : decode cX2_init 13 = .ok (.aload_n 0, 1) := by decide +kernel
theorem dX2_init_14 : decode cX2_init 14 = .ok (.new 9, 3) := by decide +kernel
theorem dX2_init_17 : decode cX2_init 17 = .ok (.dup, 1) := by decide +kernel
theorem dX2_init_18 : decode cX2_init 18 = .ok (.invokespecial 17, 3) := by decide +kernel
theorem dX2_init_21 : decode cX2_init 21 = .ok (.putfield 18, 3) := by decide +kernel
theorem dX2_init_24 : decode cX2_init 24 = .ok (.iconst 0, 1) := by decide +kernel
theorem dX2_init_25 : decode cX2_init 25 = .ok (.istore_n 1, 1) := by decide +kernel
theorem dX2_init_26 : decode cX2_init 26 = .ok (.iload_n 1, 1) := by decide +kernel
theorem dX2_init_27 : decode cX2_init 27 = .ok (.bipush 8, 2) := by decide +kernel
theorem dX2_init_29 : decode cX2_init 29 = .ok (.if_icmp .ge 22, 3) := by decide +kernel
theorem dX2_init_32 : decode cX2_init 32 = .ok (.aload_n 0, 1) := by decide +kernel
theorem dX2_init_33 : decode cX2_init 33 = .ok (.getfield 11, 3) := by decide +kernel
theorem dX2_init_36 : decode cX2_init 36 = .ok (.iload_n 1, 1) := by decide +kernel
theorem dX2_init_37 : decode cX2_init 37 = .ok (.new 9, 3) := by decide +kernel
theorem dX2_init_40 : decode cX2_init 40 = .ok (.dup, 1) := by decide +kernel
theorem dX2_init_41 : decode cX2_init 41 = .ok (.invokespecial 17, 3) := by decide +kernel
theorem dX2_init_44 : decode cX2_init 44 = .ok (.aastore, 1) := by decide +kernel
theorem dX2_init_45 : decode cX2_init 45 = .ok (.iinc 1 1, 3) := by decide +kernel
theorem dX2_init_48 : decode cX2_init 48 = .ok (.goto (-22), 3) := by decide +kernel
theorem dX2_init_51 : decode cX2_init 51 = .ok (.return_, 1) := by decide +kernel
theorem dX2_keep_0 : decode cX2_keep 0 = .ok (.aload_n 0, 1) := by decide +kernel
theorem dX2_keep_1 : decode cX2_keep 1 = .ok (.getfield 11, 3) := by decide +kernel
theorem dX2_keep_4 : decode cX2_keep 4 = .ok (.aload_n 0, 1) := by decide +kernel
theorem dX2_keep_5 : decode cX2_keep 5 = .ok (.getfield 22, 3) := by decide +kernel
theorem dX2_keep_8 : decode cX2_keep 8 = .ok (.aaload, 1) := by decide +kernel
theorem dX2_keep_9 : decode cX2_keep 9 = .ok (.aload_n 1, 1) := by decide +kernel
theorem dX2_keep_10 : decode cX2_keep 10 = .ok (.invokevirtual 26, 3) := by decide +kernel
theorem dX2_keep_13 : decode cX2_keep 13 = .ok (.aload_n 0, 1) := by decide +kernel
theorem dX2_keep_14 : decode cX2_keep 14 = .ok (.aload_n 0, 1) := by decide +kernel
theorem dX2_keep_15 : decode cX2_keep 15 = .ok (.getfield 22, 3) := by decide +kernel
theorem dX2_keep_18 : decode cX2_keep 18 = .ok (.iconst 1, 1) := by decide +kernel
theorem dX2_keep_19 : decode cX2_keep 19 = .ok (.iadd, 1) := by decide +kernel
theorem dX2_keep_20 : decode cX2_keep 20 = .ok (.bipush 8, 2) := by decide +kernel
theorem dX2_keep_22 : decode cX2_keep 22 = .ok (.irem, 1) := by decide +kernel
theorem dX2_keep_23 : decode cX2_keep 23 = .ok (.putfield 22, 3) := by decide +kernel
theorem dX2_keep_26 : decode cX2_keep 26 = .ok (.aload_n 0, 1) := by decide +kernel
theorem dX2_keep_27 : decode cX2_keep 27 = .ok (.aload_n 0, 1) := by decide +kernel
theorem dX2_keep_28 : decode cX2_keep 28 = .ok (.getfield 30, 3) := by decide +kernel
theorem dX2_keep_31 : decode cX2_keep 31 = .ok (.iconst 1, 1) := by decide +kernel
theorem dX2_keep_32 : decode cX2_keep 32 = .ok (.iadd, 1) := by decide +kernel
theorem dX2_keep_33 : decode cX2_keep 33 = .ok (.bipush 8, 2) := by decide +kernel
theorem dX2_keep_35 : decode cX2_keep 35 = .ok (.invokestatic 33, 3) := by decide +kernel
theorem dX2_keep_38 : decode cX2_keep 38 = .ok (.putfield 30, 3) := by decide +kernel
theorem dX2_keep_41 : decode cX2_keep 41 = .ok (.return_, 1) := by decide +kernel
theorem dX2_takeBack_0 : decode cX2_takeBack 0 = .ok (.aload_n 0, 1) := by decide +kernel
theorem dX2_takeBack_1 : decode cX2_takeBack 1 = .ok (.aload_n 0, 1) := by decide +kernel
theorem dX2_takeBack_2 : decode cX2_takeBack 2 = .ok (.getfield 22, 3) := by decide +kernel
theorem dX2_takeBack_5 : decode cX2_takeBack 5 = .ok (.bipush 8, 2) := by decide +kernel
theorem dX2_takeBack_7 : decode cX2_takeBack 7 = .ok (.iadd, 1) := by decide +kernel
theorem dX2_takeBack_8 : decode cX2_takeBack 8 = .ok (.iconst 1, 1) := by decide +kernel
theorem dX2_takeBack_9 : decode cX2_takeBack 9 = .ok (.isub, 1) := by decide +kernel
theorem dX2_takeBack_10 : decode cX2_takeBack 10 = .ok (.bipush 8, 2) := by decide +kernel
theorem dX2_takeBack_12 : decode cX2_takeBack 12 = .ok (.irem, 1) := by decide +kernel
theorem dX2_takeBack_13 : decode cX2_takeBack 13 = .ok (.putfield 22, 3) := by decide +kernel
theorem dX2_takeBack_16 : decode cX2_takeBack 16 = .ok (.aload_n 0, 1) := by decide +kernel
theorem dX2_takeBack_17 : decode cX2_takeBack 17 = .ok (.dup, 1) := by decide +kernel
theorem dX2_takeBack_18 : decode cX2_takeBack 18 = .ok (.getfield 30, 3) := by decide +kernel
theorem dX2_takeBack_21 : decode cX2_takeBack 21 = .ok (.iconst 1, 1) := by decide +kernel
theorem dX2_takeBack_22 : decode cX2_takeBack 22 = .ok (.isub, 1) := by decide +kernel
theorem dX2_takeBack_23 : decode cX2_takeBack 23 = .ok (.putfield 30, 3) := by decide +kernel
theorem dX2_takeBack_26 : decode cX2_takeBack 26 = .ok (.aload_n 1, 1) := by decide +kernel
theorem dX2_takeBack_27 : decode cX2_takeBack 27 = .ok (.aload_n 0, 1) := by decide +kernel
theorem dX2_takeBack_28 : decode cX2_takeBack 28 = .ok (.getfield 11, 3) := by decide +kernel
theorem dX2_takeBack_31 : decode cX2_takeBack 31 = .ok (.aload_n 0, 1) := by decide +kernel
theorem dX2_takeBack_32 : decode cX2_takeBack 32 = .ok (.getfield 22, 3) := by decide +kernel
theorem dX2_takeBack_35 : decode cX2_takeBack 35 = .ok (.aaload, 1) := by decide +kernel
theorem dX2_takeBack_36 : decode cX2_takeBack 36 = .ok (.invokevirtual 26, 3) := by decide +kernel
theorem dX2_takeBack_39 : decode cX2_takeBack 39 = .ok (.aload_n 0, 1) := by decide +kernel
theorem dX2_takeBack_40 : decode cX2_takeBack 40 = .ok (.getfield 30, 3) := by decide +kernel
theorem dX2_takeBack_43 : decode cX2_takeBack 43 = .ok (.ireturn, 1) := by decide +kernel
theorem dX2_save_0 : decode cX2_save 0 = .ok (.aload_n 0, 1) := by decide +kernel
theorem dX2_save_1 : decode cX2_save 1 = .ok (.getfield 18, 3) := by decide +kernel
theorem dX2_save_4 : decode cX2_save 4 = .ok (.aload_n 1, 1) := by decide +kernel
theorem dX2_save_5 : decode cX2_save 5 = .ok (.invokevirtual 26, 3) := by decide +kernel
theorem dX2_save_8 : decode cX2_save 8 = .ok (.aload_n 0, 1) := by decide +kernel
theorem dX2_save_9 : decode cX2_save 9 = .ok (.iconst 1, 1) := by decide +kernel
theorem dX2_save_10 : decode cX2_save 10 = .ok (.putfield 39, 3) := by decide +kernel
theorem dX2_save_13 : decode cX2_save 13 = .ok (.return_, 1) := by decide +kernel
theorem dX2_restore_0 : decode cX2_restore 0 = .ok (.aload_n 1, 1) := by decide +kernel
theorem dX2_restore_1 : decode cX2_restore 1 = .ok (.aload_n 0, 1) := by decide +kernel
theorem dX2_restore_2 : decode cX2_restore 2 = .ok (.getfield 18, 3) := by decide +kernel
theorem dX2_restore_5 : decode cX2_restore 5 = .ok (.invokevirtual 26, 3) := by decide +kernel
theorem dX2_restore_8 : decode cX2_restore 8 = .ok (.aload_n 0, 1) := by decide +kernel
theorem dX2_restore_9 : decode cX2_restore 9 = .ok (.iconst 0, 1) := by decide +kernel
theorem dX2_restore_10 : decode cX2_restore 10 = .ok (.putfield 30, 3) := by decide +kernel
theorem dX2_restore_13 : decode cX2_restore 13 = .ok (.return_, 1) := by decide +kernel
theorem dX3_init_0 : decode cX3_init 0 = .ok (.aload_n 0, 1) := by decide +kernel
theorem dX3_init_1 : decode cX3_init 1 = .ok (.invokespecial 3, 3) := by decide +kernel
theorem dX3_init_4 : decode cX3_init 4 = .ok (.aload_n 0, 1) := by decide +kernel
theorem dX3_init_5 : decode cX3_init 5 = .ok (.bipush 14, 2) := by decide +kernel
theorem dX3_init_7 : decode cX3_init 7 = .ok (.newarray .int, 2) := by decide +kernel
theorem dX3_init_9 : decode cX3_init 9 = .ok (.putfield 9, 3) := by decide +kernel
theorem dX3_init_12 : decode cX3_init 12 = .ok (.aload_n 0, 1) := by decide +kernel
theorem dX3_init_13 : decode cX3_init 13 = .ok (.bipush 14, 2) := by decide +kernel
theorem dX3_init_15 : decode cX3_init 15 = .ok (.newarray .int, 2) := by decide +kernel
theorem dX3_init_17 : decode cX3_init 17 = .ok (.putfield 15, 3) := by decide +kernel
theorem dX3_init_20 : decode cX3_init 20 = .ok (.aload_n 0, 1) := by decide +kernel
theorem dX3_init_21 : decode cX3_init 21 = .ok (.bipush 14, 2) := by decide +kernel
theorem dX3_init_23 : decode cX3_init 23 = .ok (.newarray .int, 2) := by decide +kernel
theorem dX3_init_25 : decode cX3_init 25 = .ok (.putfield 18, 3) := by decide +kernel
theorem dX3_init_28 : decode cX3_init 28 = .ok (.aload_n 0, 1) := by decide +kernel
theorem dX3_init_29 : decode cX3_init 29 = .ok (.bipush 14, 2) := by decide +kernel
theorem dX3_init_31 : decode cX3_init 31 = .ok (.newarray .int, 2) := by decide +kernel
theorem dX3_init_33 : decode cX3_init 33 = .ok (.putfield 21, 3) := by decide +kernel
theorem dX3_init_36 : decode cX3_init 36 = .ok (.aload_n 0, 1) := by decide +kernel
theorem dX3_init_37 : decode cX3_init 37 = .ok (.bipush 14, 2) := by decide +kernel
theorem dX3_init_39 : decode cX3_init 39 = .ok (.newarray .int, 2) := by decide +kernel
theorem dX3_init_41 : decode cX3_init 41 = .ok (.putfield 24, 3) := by decide +kernel
theorem dX3_init_44 : decode cX3_init 44 = .ok (.aload_n 0, 1) := by decide +kernel
theorem dX3_init_45 : decode cX3_init 45 = .ok (.bipush 14, 2) := by decide +kernel
theorem dX3_init_47 : decode cX3_init 47 = .ok (.newarray .int, 2) := by decide +kernel
theorem dX3_init_49 : decode cX3_init 49 = .ok (.putfield 27, 3) := by decide +kernel
theorem dX3_init_52 : decode cX3_init 52 = .ok (.aload_n 0, 1) := by decide +kernel
theorem dX3_init_53 : decode cX3_init 53 = .ok (.bipush 14, 2) := by decide +kernel
theorem dX3_init_55 : decode cX3_init 55 = .ok (.newarray .int, 2) := by decide +kernel
theorem dX3_init_57 : decode cX3_init 57 = .ok (.putfield 30, 3) := by decide +kernel
theorem dX3_init_60 : decode cX3_init 60 = .ok (.aload_n 0, 1) := by decide +kernel
theorem dX3_init_61 : decode cX3_init 61 = .ok (.bipush 14, 2) := by decide +kernel
theorem dX3_init_63 : decode cX3_init 63 = .ok (.newarray .int, 2) := by decide +kernel
theorem dX3_init_65 : decode cX3_init 65 = .ok (.putfield 33, 3) := by decide +kernel
theorem dX3_init_68 : decode cX3_init 68 = .ok (.aload_n 0, 1) := by decide +kernel
theorem dX3_init_69 : decode cX3_init 69 = .ok (.iconst 5, 1) := by decide +kernel
theorem dX3_init_70 : decode cX3_init 70 = .ok (.newarray .int, 2) := by decide +kernel
theorem dX3_init_72 : decode cX3_init 72 = .ok (.putfield 36, 3) := by decide +kernel
theorem dX3_init_75 : decode cX3_init 75 = .ok (.aload_n 0, 1) := by decide +kernel
theorem dX3_init_76 : decode cX3_init 76 = .ok (.iconst 5, 1) := by decide +kernel
theorem dX3_init_77 : decode cX3_init 77 = .ok (.newarray .int, 2) := by decide +kernel
theorem dX3_init_79 : decode cX3_init 79 = .ok (.putfield 39, 3) := by decide +kernel
theorem dX3_init_82 : decode cX3_init 82 = .ok (.aload_n 0, 1) := by decide +kernel
theorem dX3_init_83 : decode cX3_init 83 = .ok (.bipush 25, 2) := by decide +kernel
theorem dX3_init_85 : decode cX3_init 85 = .ok (.newarray .int, 2) := by decide +kernel
theorem dX3_init_87 : decode cX3_init 87 = .ok (.putfield 42, 3) := by decide +kernel
theorem dX3_init_90 : decode cX3_init 90 = .ok (.iconst 0, 1) := by decide +kernel
theorem dX3_init_91 : decode cX3_init 91 = .ok (.istore_n 1, 1) := by decide +kernel
theorem dX3_init_92 : decode cX3_init 92 = .ok (.iload_n 1, 1) := by decide +kernel
theorem dX3_init_93 : decode cX3_init 93 = .ok (.iconst 5, 1) := by decide +kernel
theorem dX3_init_94 : decode cX3_init 94 = .ok (.if_icmp .ge 16, 3) := by decide +kernel
theorem dX3_init_97 : decode cX3_init 97 = .ok (.aload_n 0, 1) := by decide +kernel
theorem dX3_init_98 : decode cX3_init 98 = .ok (.getfield 36, 3) := by decide +kernel
theorem dX3_init_101 : decode cX3_init 101 = .ok (.iload_n 1, 1) := by decide +kernel
theorem dX3_init_102 : decode cX3_init 102 = .ok (.iconst 3, 1) := by decide +kernel
theorem dX3_init_103 : decode cX3_init 103 = .ok (.iastore, 1) := by decide +kernel
theorem dX3_init_104 : decode cX3_init 104 = .ok (.iinc 1 1, 3) := by decide +kernel
theorem dX3_init_107 : decode cX3_init 107 = .ok (.goto (-15), 3) := by decide +kernel
theorem dX3_init_110 : decode cX3_init 110 = .ok (.return_, 1) := by decide +kernel
theorem dX3_copyFrom_0 : decode cX3_copyFrom 0 = .ok (.aload_n 0, 1) := by decide +kernel
theorem dX3_copyFrom_1 : decode cX3_copyFrom 1 = .ok (.aload_n 1, 1) := by decide +kernel
theorem dX3_copyFrom_2 : decode cX3_copyFrom 2 = .ok (.getfield 45, 3) := by decide +kernel
theorem dX3_copyFrom_5 : decode cX3_copyFrom 5 = .ok (.putfield 45, 3) := by decide +kernel
theorem dX3_copyFrom_8 : decode cX3_copyFrom 8 = .ok (.aload_n 0, 1) := by decide +kernel
theorem dX3_copyFrom_9 : decode cX3_copyFrom 9 = .ok (.aload_n 1, 1) := by decide +kernel
theorem dX3_copyFrom_10 : decode cX3_copyFrom 10 = .ok (.getfield 49, 3) := by decide +kernel
theorem dX3_copyFrom_13 : decode cX3_copyFrom 13 = .ok (.putfield 49, 3) := by decide +kernel
theorem dX3_copyFrom_16 : decode cX3_copyFrom 16 = .ok (.aload_n 0, 1) := by decide +kernel
theorem dX3_copyFrom_17 : decode cX3_copyFrom 17 = .ok (.aload_n 1, 1) := by decide +kernel
theorem dX3_copyFrom_18 : decode cX3_copyFrom 18 = .ok (.getfield 52, 3) := by decide +kernel
theorem dX3_copyFrom_21 : decode cX3_copyFrom 21 = .ok (.putfield 52, 3) := by decide +kernel
theorem dX3_copyFrom_24 : decode cX3_copyFrom 24 = .ok (.aload_n 0, 1) := by decide +kernel
theorem dX3_copyFrom_25 : decode cX3_copyFrom 25 = .ok (.aload_n 1, 1) := by decide +kernel
theorem dX3_copyFrom_26 : decode cX3_copyFrom 26 = .ok (.getfield 55, 3) := by decide +kernel
theorem dX3_copyFrom_29 : decode cX3_copyFrom 29 = .ok (.putfield 55, 3) := by decide +kernel
theorem dX3_copyFrom_32 : decode cX3_copyFrom 32 = .ok (.aload_n 0, 1) := by decide +kernel
theorem dX3_copyFrom_33 : decode cX3_copyFrom 33 = .ok (.aload_n 1, 1) := by decide +kernel
theorem dX3_copyFrom_34 : decode cX3_copyFrom 34 = .ok (.getfield 58, 3) := by decide +kernel
theorem dX3_copyFrom_37 : decode cX3_copyFrom 37 = .ok (.putfield 58, 3) := by decide +kernel
theorem dX3_copyFrom_40 : decode cX3_copyFrom 40 = .ok (.aload_n 1, 1) := by decide +kernel
theorem dX3_copyFrom_41 : decode cX3_copyFrom 41 = .ok (.getfield 9, 3) := by decide +kernel
theorem dX3_copyFrom_44 : decode cX3_copyFrom 44 = .ok (.aload_n 0, 1) := by decide +kernel
theorem dX3_copyFrom_45 : decode cX3_copyFrom 45 = .ok (.getfield 9, 3) := by decide +kernel
theorem dX3_copyFrom_48 : decode cX3_copyFrom 48 = .ok (.invokestatic 61, 3) := by decide +kernel
theorem dX3_copyFrom_51 : decode cX3_copyFrom 51 = .ok (.aload_n 1, 1) := by decide +kernel
theorem dX3_copyFrom_52 : decode cX3_copyFrom 52 = .ok (.getfield 15, 3) := by decide +kernel
theorem dX3_copyFrom_55 : decode cX3_copyFrom 55 = .ok (.aload_n 0, 1) := by decide +kernel
theorem dX3_copyFrom_56 : decode cX3_copyFrom 56 = .ok (.getfield 15, 3) := by decide +kernel
theorem dX3_copyFrom_59 : decode cX3_copyFrom 59 = .ok (.invokestatic 61, 3) := by decide +kernel
theorem dX3_copyFrom_62 : decode cX3_copyFrom 62 = .ok (.aload_n 1, 1) := by decide +kernel
theorem dX3_copyFrom_63 : decode cX3_copyFrom 63 = .ok (.getfield 18, 3) := by decide +kernel
theorem dX3_copyFrom_66 : decode cX3_copyFrom 66 = .ok (.aload_n 0, 1) := by decide +kernel
theorem dX3_copyFrom_67 : decode cX3_copyFrom 67 = .ok (.getfield 18, 3) := by decide +kernel
theorem dX3_copyFrom_70 : decode cX3_copyFrom 70 = .ok (.invokestatic 61, 3) := by decide +kernel
theorem dX3_copyFrom_73 : decode cX3_copyFrom 73 = .ok (.aload_n 1, 1) := by decide +kernel
theorem dX3_copyFrom_74 : decode cX3_copyFrom 74 = .ok (.getfield 21, 3) := by decide +kernel
theorem dX3_copyFrom_77 : decode cX3_copyFrom 77 = .ok (.aload_n 0, 1) := by decide +kernel
theorem dX3_copyFrom_78 : decode cX3_copyFrom 78 = .ok (.getfield 21, 3) := by decide +kernel
theorem dX3_copyFrom_81 : decode cX3_copyFrom 81 = .ok (.invokestatic 61, 3) := by decide +kernel
theorem dX3_copyFrom_84 : decode cX3_copyFrom 84 = .ok (.aload_n 1, 1) := by decide +kernel
theorem dX3_copyFrom_85 : decode cX3_copyFrom 85 = .ok (.getfield 24, 3) := by decide +kernel
theorem dX3_copyFrom_88 : decode cX3_copyFrom 88 = .ok (.aload_n 0, 1) := by decide +kernel
theorem dX3_copyFrom_89 : decode cX3_copyFrom 89 = .ok (.getfield 24, 3) := by decide +kernel
theorem dX3_copyFrom_92 : decode cX3_copyFrom 92 = .ok (.invokestatic 61, 3) := by decide +kernel
theorem dX3_copyFrom_95 : decode cX3_copyFrom 95 = .ok (.aload_n 1, 1) := by decide +kernel
theorem dX3_copyFrom_96 : decode cX3_copyFrom 96 = .ok (.getfield 27, 3) := by decide +kernel
theorem dX3_copyFrom_99 : decode cX3_copyFrom 99 = .ok (.aload_n 0, 1) := by decide +kernel
theorem dX3_copyFrom_100 : decode cX3_copyFrom 100 = .ok (.getfield 27, 3) := by decide +kernel
theorem dX3_copyFrom_103 : decode cX3_copyFrom 103 = .ok (.invokestatic 61, 3) := by decide +kernel
theorem dX3_copyFrom_106 : decode cX3_copyFrom 106 = .ok (.aload_n 1, 1) := by decide +kernel
theorem dX3_copyFrom_107 : decode cX3_copyFrom 107 = .ok (.getfield 30, 3) := by decide +kernel
theorem dX3_copyFrom_110 : decode cX3_copyFrom 110 = .ok (.aload_n 0, 1) := by decide +kernel
theorem dX3_copyFrom_111 : decode cX3_copyFrom 111 = .ok (.getfield 30, 3) := by decide +kernel
theorem dX3_copyFrom_114 : decode cX3_copyFrom 114 = .ok (.invokestatic 61, 3) := by decide +kernel
theorem dX3_copyFrom_117 : decode cX3_copyFrom 117 = .ok (.aload_n 1, 1) := by decide +kernel
theorem dX3_copyFrom_118 : decode cX3_copyFrom 118 = .ok (.getfield 33, 3) := by decide +kernel
theorem dX3_copyFrom_121 : decode cX3_copyFrom 121 = .ok (.aload_n 0, 1) := by decide +kernel
theorem dX3_copyFrom_122 : decode cX3_copyFrom 122 = .ok (.getfield 33, 3) := by decide +kernel
theorem dX3_copyFrom_125 : decode cX3_copyFrom 125 = .ok (.invokestatic 61, 3) := by decide +kernel
theorem dX3_copyFrom_128 : decode cX3_copyFrom 128 = .ok (.aload_n 1, 1) := by decide +kernel
theorem dX3_copyFrom_129 : decode cX3_copyFrom 129 = .ok (.getfield 36, 3) := by decide +kernel
theorem dX3_copyFrom_132 : decode cX3_copyFrom 132 = .ok (.aload_n 0, 1) := by decide +kernel
theorem dX3_copyFrom_133 : decode cX3_copyFrom 133 = .ok (.getfield 36, 3) := by decide +kernel
theorem dX3_copyFrom_136 : decode cX3_copyFrom 136 = .ok (.invokestatic 61, 3) := by decide +kernel
theorem dX3_copyFrom_139 : decode cX3_copyFrom 139 = .ok (.aload_n 1, 1) := by decide +kernel
theorem dX3_copyFrom_140 : decode cX3_copyFrom 140 = .ok (.getfield 39, 3) := by decide +kernel
theorem dX3_copyFrom_143 : decode cX3_copyFrom 143 = .ok (.aload_n 0, 1) := by decide +kernel
theorem dX3_copyFrom_144 : decode cX3_copyFrom 144 = .ok (.getfield 39, 3) := by decide +kernel
theorem dX3_copyFrom_147 : decode cX3_copyFrom 147 = .ok (.invokestatic 61, 3) := by decide +kernel
theorem dX3_copyFrom_150 : decode cX3_copyFrom 150 = .ok (.aload_n 1, 1) := by decide +kernel
theorem dX3_copyFrom_151 : decode cX3_copyFrom 151 = .ok (.getfield 42, 3) := by decide +kernel
theorem dX3_copyFrom_154 : decode cX3_copyFrom 154 = .ok (.aload_n 0, 1) := by decide +kernel
theorem dX3_copyFrom_155 : decode cX3_copyFrom 155 = .ok (.getfield 42, 3) := by decide +kernel
theorem dX3_copyFrom_158 : decode cX3_copyFrom 158 = .ok (.invokestatic 61, 3) := by decide +kernel
theorem dX3_copyFrom_161 : decode cX3_copyFrom 161 = .ok (.return_, 1) := by decide +kernel
theorem dX3_copyRow_0 : decode cX3_copyRow 0 = .ok (.aload_n 0, 1) := by decide +kernel
theorem dX3_copyRow_1 : decode cX3_copyRow 1 = .ok (.iconst 0, 1) := by decide +kernel
theorem dX3_copyRow_2 : decode cX3_copyRow 2 = .ok (.aload_n 1, 1) := by decide +kernel
theorem dX3_copyRow_3 : decode cX3_copyRow 3 = .ok (.iconst 0, 1) := by decide +kernel
theorem dX3_copyRow_4 : decode cX3_copyRow 4 = .ok (.aload_n 0, 1) := by decide +kernel
theorem dX3_copyRow_5 : decode cX3_copyRow 5 = .ok (.arraylength, 1) := by decide +kernel
theorem dX3_copyRow_6 : decode cX3_copyRow 6 = .ok (.aload_n 1, 1) := by decide +kernel
theorem dX3_copyRow_7 : decode cX3_copyRow 7 = .ok (.arraylength, 1) := by decide +kernel
theorem dX3_copyRow_8 : decode cX3_copyRow 8 = .ok (.invokestatic 65, 3) := by decide +kernel
theorem dX3_copyRow_11 : decode cX3_copyRow 11 = .ok (.invokestatic 71, 3) := by decide +kernel
theorem dX3_copyRow_14 : decode cX3_copyRow 14 = .ok (.return_, 1) := by decide +kernel
theorem dX3_isSock_0 : decode cX3_isSock 0 = .ok (.iload_n 1, 1) := by decide +kernel
theorem dX3_isSock_1 : decode cX3_isSock 1 = .ok (.ifCond .lt 15, 3) := by decide +kernel
theorem dX3_isSock_4 : decode cX3_isSock 4 = .ok (.iload_n 1, 1) := by decide +kernel
theorem dX3_isSock_5 : decode cX3_isSock 5 = .ok (.aload_n 0, 1) := by decide +kernel
theorem dX3_isSock_6 : decode cX3_isSock 6 = .ok (.getfield 45, 3) := by decide +kernel
theorem dX3_isSock_9 : decode cX3_isSock 9 = .ok (.if_icmp .ge 7, 3) := by decide +kernel
theorem dX3_isSock_12 : decode cX3_isSock 12 = .ok (.iconst 1, 1) := by decide +kernel
theorem dX3_isSock_13 : decode cX3_isSock 13 = .ok (.goto 4, 3) := by decide +kernel
theorem dX3_isSock_16 : decode cX3_isSock 16 = .ok (.iconst 0, 1) := by decide +kernel
theorem dX3_isSock_17 : decode cX3_isSock 17 = .ok (.ireturn, 1) := by decide +kernel
theorem dX3_isDrawer_0 : decode cX3_isDrawer 0 = .ok (.iload_n 0, 1) := by decide +kernel
theorem dX3_isDrawer_1 : decode cX3_isDrawer 1 = .ok (.ifCond .lt 12, 3) := by decide +kernel
theorem dX3_isDrawer_4 : decode cX3_isDrawer 4 = .ok (.iload_n 0, 1) := by decide +kernel
theorem dX3_isDrawer_5 : decode cX3_isDrawer 5 = .ok (.iconst 5, 1) := by decide +kernel
theorem dX3_isDrawer_6 : decode cX3_isDrawer 6 = .ok (.if_icmp .ge 7, 3) := by decide +kernel
theorem dX3_isDrawer_9 : decode cX3_isDrawer 9 = .ok (.iconst 1, 1) := by decide +kernel
theorem dX3_isDrawer_10 : decode cX3_isDrawer 10 = .ok (.goto 4, 3) := by decide +kernel
theorem dX3_isDrawer_13 : decode cX3_isDrawer 13 = .ok (.iconst 0, 1) := by decide +kernel
theorem dX3_isDrawer_14 : decode cX3_isDrawer 14 = .ok (.ireturn, 1) := by decide +kernel
theorem dX3_colourAt_0 : decode cX3_colourAt 0 = .ok (.aload_n 0, 1) := by decide +kernel
theorem dX3_colourAt_1 : decode cX3_colourAt 1 = .ok (.getfield 9, 3) := by decide +kernel
theorem dX3_colourAt_4 : decode cX3_colourAt 4 = .ok (.iload_n 1, 1) := by decide +kernel
theorem dX3_colourAt_5 : decode cX3_colourAt 5 = .ok (.iaload, 1) := by decide +kernel
theorem dX3_colourAt_6 : decode cX3_colourAt 6 = .ok (.i2c, 1) := by decide +kernel
theorem dX3_colourAt_7 : decode cX3_colourAt 7 = .ok (.ireturn, 1) := by decide +kernel
theorem dX3_hasApplication_0 : decode cX3_hasApplication 0 = .ok (.aload_n 0, 1) := by decide +kernel
theorem dX3_hasApplication_1 : decode cX3_hasApplication 1 = .ok (.getfield 18, 3) := by decide +kernel
theorem dX3_hasApplication_4 : decode cX3_hasApplication 4 = .ok (.iload_n 1, 1) := by decide +kernel
theorem dX3_hasApplication_5 : decode cX3_hasApplication 5 = .ok (.iaload, 1) := by decide +kernel
theorem dX3_hasApplication_6 : decode cX3_hasApplication 6 = .ok (.iconst 1, 1) := by decide +kernel
theorem dX3_hasApplication_7 : decode cX3_hasApplication 7 = .ok (.if_icmp .eq 13, 3) := by decide +kernel
theorem dX3_hasApplication_10 : decode cX3_hasApplication 10 = .ok (.aload_n 0, 1) := by decide +kernel
theorem dX3_hasApplication_11 : decode cX3_hasApplication 11 = .ok (.getfield 18, 3) := by decide +kernel
theorem dX3_hasApplication_14 : decode cX3_hasApplication 14 = .ok (.iload_n 1, 1) := by decide +kernel
theorem dX3_hasApplication_15 : decode cX3_hasApplication 15 = .ok (.iaload, 1) := by decide +kernel
theorem dX3_hasApplication_16 : decode cX3_hasApplication 16 = .ok (.iconst 2, 1) := by decide +kernel
theorem dX3_hasApplication_17 : decode cX3_hasApplication 17 = .ok (.if_icmp .ne 7, 3) := by decide +kernel
theorem dX3_hasApplication_20 : decode cX3_hasApplication 20 = .ok (.iconst 1, 1) := by decide +kernel
theorem dX3_hasApplication_21 : decode cX3_hasApplication 21 = .ok (.goto 4, 3) := by decide +kernel
theorem dX3_hasApplication_24 : decode cX3_hasApplication 24 = .ok (.iconst 0, 1) := by decide +kernel
theorem dX3_hasApplication_25 : decode cX3_hasApplication 25 = .ok (.ireturn, 1) := by decide +kernel
theorem dX3_is_0 : decode cX3_is 0 = .ok (.aload_n 0, 1) := by decide +kernel
theorem dX3_is_1 : decode cX3_is 1 = .ok (.getfield 18, 3) := by decide +kernel
theorem dX3_is_4 : decode cX3_is 4 = .ok (.iload_n 1, 1) := by decide +kernel
theorem dX3_is_5 : decode cX3_is 5 = .ok (.iaload, 1) := by decide +kernel
theorem dX3_is_6 : decode cX3_is 6 = .ok (.iload_n 2, 1) := by decide +kernel
theorem dX3_is_7 : decode cX3_is 7 = .ok (.if_icmp .ne 17, 3) := by decide +kernel
theorem dX3_is_10 : decode cX3_is 10 = .ok (.aload_n 0, 1) := by decide +kernel
theorem dX3_is_11 : decode cX3_is 11 = .ok (.getfield 21, 3) := by decide +kernel
theorem dX3_is_14 : decode cX3_is 14 = .ok (.iload_n 1, 1) := by decide +kernel
theorem dX3_is_15 : decode cX3_is 15 = .ok (.iaload, 1) := by decide +kernel
theorem dX3_is_16 : decode cX3_is 16 = .ok (.iload_n 3, 1) := by decide +kernel
theorem dX3_is_17 : decode cX3_is 17 = .ok (.if_icmp .ne 7, 3) := by decide +kernel
theorem dX3_is_20 : decode cX3_is 20 = .ok (.iconst 1, 1) := by decide +kernel
theorem dX3_is_21 : decode cX3_is 21 = .ok (.goto 4, 3) := by decide +kernel
theorem dX3_is_24 : decode cX3_is 24 = .ok (.iconst 0, 1) := by decide +kernel
theorem dX3_is_25 : decode cX3_is 25 = .ok (.ireturn, 1) := by decide +kernel
theorem dX3_match_0 : decode cX3_match 0 = .ok (.aload_n 0, 1) := by decide +kernel
theorem dX3_match_1 : decode cX3_match 1 = .ok (.getfield 9, 3) := by decide +kernel
theorem dX3_match_4 : decode cX3_match 4 = .ok (.iload_n 1, 1) := by decide +kernel
theorem dX3_match_5 : decode cX3_match 5 = .ok (.iaload, 1) := by decide +kernel
theorem dX3_match_6 : decode cX3_match 6 = .ok (.aload_n 0, 1) := by decide +kernel
theorem dX3_match_7 : decode cX3_match 7 = .ok (.getfield 9, 3) := by decide +kernel
theorem dX3_match_10 : decode cX3_match 10 = .ok (.iload_n 2, 1) := by decide +kernel
theorem dX3_match_11 : decode cX3_match 11 = .ok (.iaload, 1) := by decide +kernel
theorem dX3_match_12 : decode cX3_match 12 = .ok (.if_icmp .eq 25, 3) := by decide +kernel
theorem dX3_match_15 : decode cX3_match 15 = .ok (.aload_n 0, 1) := by decide +kernel
theorem dX3_match_16 : decode cX3_match 16 = .ok (.getfield 9, 3) := by decide +kernel
theorem dX3_match_19 : decode cX3_match 19 = .ok (.iload_n 1, 1) := by decide +kernel
theorem dX3_match_20 : decode cX3_match 20 = .ok (.iaload, 1) := by decide +kernel
theorem dX3_match_21 : decode cX3_match 21 = .ok (.bipush 119, 2) := by decide +kernel
theorem dX3_match_23 : decode cX3_match 23 = .ok (.if_icmp .eq 14, 3) := by decide +kernel
theorem dX3_match_26 : decode cX3_match 26 = .ok (.aload_n 0, 1) := by decide +kernel
theorem dX3_match_27 : decode cX3_match 27 = .ok (.getfield 9, 3) := by decide +kernel
theorem dX3_match_30 : decode cX3_match 30 = .ok (.iload_n 2, 1) := by decide +kernel
theorem dX3_match_31 : decode cX3_match 31 = .ok (.iaload, 1) := by decide +kernel
theorem dX3_match_32 : decode cX3_match 32 = .ok (.bipush 119, 2) := by decide +kernel
theorem dX3_match_34 : decode cX3_match 34 = .ok (.if_icmp .ne 7, 3) := by decide +kernel
theorem dX3_match_37 : decode cX3_match 37 = .ok (.iconst 1, 1) := by decide +kernel
theorem dX3_match_38 : decode cX3_match 38 = .ok (.goto 4, 3) := by decide +kernel
theorem dX3_match_41 : decode cX3_match 41 = .ok (.iconst 0, 1) := by decide +kernel
theorem dX3_match_42 : decode cX3_match 42 = .ok (.istore_n 3, 1) := by decide +kernel
theorem dX3_match_43 : decode cX3_match 43 = .ok (.iload_n 1, 1) := by decide +kernel
theorem dX3_match_44 : decode cX3_match 44 = .ok (.iload_n 2, 1) := by decide +kernel
theorem dX3_match_45 : decode cX3_match 45 = .ok (.if_icmp .eq 26, 3) := by decide +kernel
theorem dX3_match_48 : decode cX3_match 48 = .ok (.aload_n 0, 1) := by decide +kernel
theorem dX3_match_49 : decode cX3_match 49 = .ok (.getfield 15, 3) := by decide +kernel
theorem dX3_match_52 : decode cX3_match 52 = .ok (.iload_n 1, 1) := by decide +kernel
theorem dX3_match_53 : decode cX3_match 53 = .ok (.iaload, 1) := by decide +kernel
theorem dX3_match_54 : decode cX3_match 54 = .ok (.aload_n 0, 1) := by decide +kernel
theorem dX3_match_55 : decode cX3_match 55 = .ok (.getfield 15, 3) := by decide +kernel
theorem dX3_match_58 : decode cX3_match 58 = .ok (.iload_n 2, 1) := by decide +kernel
theorem dX3_match_59 : decode cX3_match 59 = .ok (.iaload, 1) := by decide +kernel
theorem dX3_match_60 : decode cX3_match 60 = .ok (.if_icmp .ne 11, 3) := by decide +kernel
theorem dX3_match_63 : decode cX3_match 63 = .ok (.iload_n 3, 1) := by decide +kernel
theorem dX3_match_64 : decode cX3_match 64 = .ok (.ifCond .eq 7, 3) := by decide +kernel
theorem dX3_match_67 : decode cX3_match 67 = .ok (.iconst 1, 1) := by decide +kernel
theorem dX3_match_68 : decode cX3_match 68 = .ok (.goto 4, 3) := by decide +kernel
theorem dX3_match_71 : decode cX3_match 71 = .ok (.iconst 0, 1) := by decide +kernel
theorem dX3_match_72 : decode cX3_match 72 = .ok (.ireturn, 1) := by decide +kernel
theorem dX3_countOf_0 : decode cX3_countOf 0 = .ok (.iconst 0, 1) := by decide +kernel
theorem dX3_countOf_1 : decode cX3_countOf 1 = .ok (.istore_n 3, 1) := by decide +kernel
theorem dX3_countOf_2 : decode cX3_countOf 2 = .ok (.iconst 0, 1) := by decide +kernel
theorem dX3_countOf_3 : decode cX3_countOf 3 = .ok (.istore 4, 2) := by decide +kernel
theorem dX3_countOf_5 : decode cX3_countOf 5 = .ok (.iload 4, 2) := by decide +kernel
theorem dX3_countOf_7 : decode cX3_countOf 7 = .ok (.aload_n 0, 1) := by decide +kernel
theorem dX3_countOf_8 : decode cX3_countOf 8 = .ok (.getfield 45, 3) := by decide +kernel
theorem dX3_countOf_11 : decode cX3_countOf 11 = .ok (.if_icmp .ge 34, 3) := by decide +kernel
theorem dX3_countOf_14 : decode cX3_countOf 14 = .ok (.aload_n 0, 1) := by decide +kernel
theorem dX3_countOf_15 : decode cX3_countOf 15 = .ok (.getfield 18, 3) := by decide +kernel
theorem dX3_countOf_18 : decode cX3_countOf 18 = .ok (.iload 4, 2) := by decide +kernel
theorem dX3_countOf_20 : decode cX3_countOf 20 = .ok (.iaload, 1) := by decide +kernel
theorem dX3_countOf_21 : decode cX3_countOf 21 = .ok (.iload_n 1, 1) := by decide +kernel
theorem dX3_countOf_22 : decode cX3_countOf 22 = .ok (.if_icmp .ne 17, 3) := by decide +kernel
theorem dX3_countOf_25 : decode cX3_countOf 25 = .ok (.aload_n 0, 1) := by decide +kernel
theorem dX3_countOf_26 : decode cX3_countOf 26 = .ok (.getfield 21, 3) := by decide +kernel
theorem dX3_countOf_29 : decode cX3_countOf 29 = .ok (.iload 4, 2) := by decide +kernel
theorem dX3_countOf_31 : decode cX3_countOf 31 = .ok (.iaload, 1) := by decide +kernel
theorem dX3_countOf_32 : decode cX3_countOf 32 = .ok (.iload_n 2, 1) := by decide +kernel
theorem dX3_countOf_33 : decode cX3_countOf 33 = .ok (.if_icmp .ne 6, 3) := by decide +kernel
theorem dX3_countOf_36 : decode cX3_countOf 36 = .ok (.iinc 3 1, 3) := by decide +kernel
theorem dX3_countOf_39 : decode cX3_countOf 39 = .ok (.iinc 4 1, 3) := by decide +kernel
theorem dX3_countOf_42 : decode cX3_countOf 42 = .ok (.goto (-37), 3) := by decide +kernel
theorem dX3_countOf_45 : decode cX3_countOf 45 = .ok (.iload_n 3, 1) := by decide +kernel
theorem dX3_countOf_46 : decode cX3_countOf 46 = .ok (.ireturn, 1) := by decide +kernel
theorem dX3_resident_0 : decode cX3_resident 0 = .ok (.iconst 0, 1) := by decide +kernel
theorem dX3_resident_1 : decode cX3_resident 1 = .ok (.istore_n 3, 1) := by decide +kernel
theorem dX3_resident_2 : decode cX3_resident 2 = .ok (.iconst 0, 1) := by decide +kernel
theorem dX3_resident_3 : decode cX3_resident 3 = .ok (.istore 4, 2) := by decide +kernel
theorem dX3_resident_5 : decode cX3_resident 5 = .ok (.iload 4, 2) := by decide +kernel
theorem dX3_resident_7 : decode cX3_resident 7 = .ok (.aload_n 0, 1) := by decide +kernel
theorem dX3_resident_8 : decode cX3_resident 8 = .ok (.getfield 45, 3) := by decide +kernel
theorem dX3_resident_11 : decode cX3_resident 11 = .ok (.if_icmp .ge 31, 3) := by decide +kernel
theorem dX3_resident_14 : decode cX3_resident 14 = .ok (.aload_n 0, 1) := by decide +kernel
theorem dX3_resident_15 : decode cX3_resident 15 = .ok (.iload 4, 2) := by decide +kernel
theorem dX3_resident_17 : decode cX3_resident 17 = .ok (.iconst 3, 1) := by decide +kernel
theorem dX3_resident_18 : decode cX3_resident 18 = .ok (.iload_n 1, 1) := by decide +kernel
theorem dX3_resident_19 : decode cX3_resident 19 = .ok (.invokevirtual 77, 3) := by decide +kernel
theorem dX3_resident_22 : decode cX3_resident 22 = .ok (.ifCond .eq 14, 3) := by decide +kernel
theorem dX3_resident_25 : decode cX3_resident 25 = .ok (.iload_n 3, 1) := by decide +kernel
theorem dX3_resident_26 : decode cX3_resident 26 = .ok (.iload_n 2, 1) := by decide +kernel
theorem dX3_resident_27 : decode cX3_resident 27 = .ok (.if_icmp .ne 6, 3) := by decide +kernel
theorem dX3_resident_30 : decode cX3_resident 30 = .ok (.iload 4, 2) := by decide +kernel
theorem dX3_resident_32 : decode cX3_resident 32 = .ok (.ireturn, 1) := by decide +kernel
theorem dX3_resident_33 : decode cX3_resident 33 = .ok (.iinc 3 1, 3) := by decide +kernel
theorem dX3_resident_36 : decode cX3_resident 36 = .ok (.iinc 4 1, 3) := by decide +kernel
theorem dX3_resident_39 : decode cX3_resident 39 = .ok (.goto (-34), 3) := by decide +kernel
theorem dX3_resident_42 : decode cX3_resident 42 = .ok (.iconst (-1), 1) := by decide +kernel
theorem dX3_resident_43 : decode cX3_resident 43 = .ok (.ireturn, 1) := by decide +kernel
theorem dX3_hasRoom_0 : decode cX3_hasRoom 0 = .ok (.aload_n 0, 1) := by decide +kernel
theorem dX3_hasRoom_1 : decode cX3_hasRoom 1 = .ok (.iconst 3, 1) := by decide +kernel
theorem dX3_hasRoom_2 : decode cX3_hasRoom 2 = .ok (.iload_n 1, 1) := by decide +kernel
theorem dX3_hasRoom_3 : decode cX3_hasRoom 3 = .ok (.invokevirtual 81, 3) := by decide +kernel
theorem dX3_hasRoom_6 : decode cX3_hasRoom 6 = .ok (.aload_n 0, 1) := by decide +kernel
theorem dX3_hasRoom_7 : decode cX3_hasRoom 7 = .ok (.getfield 36, 3) := by decide +kernel
theorem dX3_hasRoom_10 : decode cX3_hasRoom 10 = .ok (.iload_n 1, 1) := by decide +kernel
theorem dX3_hasRoom_11 : decode cX3_hasRoom 11 = .ok (.iaload, 1) := by decide +kernel
theorem dX3_hasRoom_12 : decode cX3_hasRoom 12 = .ok (.if_icmp .ge 7, 3) := by decide +kernel
theorem dX3_hasRoom_15 : decode cX3_hasRoom 15 = .ok (.iconst 1, 1) := by decide +kernel
theorem dX3_hasRoom_16 : decode cX3_hasRoom 16 = .ok (.goto 4, 3) := by decide +kernel
theorem dX3_hasRoom_19 : decode cX3_hasRoom 19 = .ok (.iconst 0, 1) := by decide +kernel
theorem dX3_hasRoom_20 : decode cX3_hasRoom 20 = .ok (.ireturn, 1) := by decide +kernel
theorem dX3_bans_0 : decode cX3_bans 0 = .ok (.aload_n 0, 1) := by decide +kernel
theorem dX3_bans_1 : decode cX3_bans 1 = .ok (.getfield 39, 3) := by decide +kernel
theorem dX3_bans_4 : decode cX3_bans 4 = .ok (.iload_n 1, 1) := by decide +kernel
theorem dX3_bans_5 : decode cX3_bans 5 = .ok (.iaload, 1) := by decide +kernel
theorem dX3_bans_6 : decode cX3_bans 6 = .ok (.ldc 84, 2) := by decide +kernel
theorem dX3_bans_8 : decode cX3_bans 8 = .ok (.iload_n 2, 1) := by decide +kernel
theorem dX3_bans_9 : decode cX3_bans 9 = .ok (.invokevirtual 86, 3) := by decide +kernel
theorem dX3_bans_12 : decode cX3_bans 12 = .ok (.invokestatic 92, 3) := by decide +kernel
theorem dX3_bans_15 : decode cX3_bans 15 = .ok (.ireturn, 1) := by decide +kernel
theorem dX3_hasBit_0 : decode cX3_hasBit 0 = .ok (.iload_n 0, 1) := by decide +kernel
theorem dX3_hasBit_1 : decode cX3_hasBit 1 = .ok (.iload_n 1, 1) := by decide +kernel
theorem dX3_hasBit_2 : decode cX3_hasBit 2 = .ok (.ishr, 1) := by decide +kernel
theorem dX3_hasBit_3 : decode cX3_hasBit 3 = .ok (.iconst 1, 1) := by decide +kernel
theorem dX3_hasBit_4 : decode cX3_hasBit 4 = .ok (.iand, 1) := by decide +kernel
theorem dX3_hasBit_5 : decode cX3_hasBit 5 = .ok (.iconst 1, 1) := by decide +kernel
theorem dX3_hasBit_6 : decode cX3_hasBit 6 = .ok (.if_icmp .ne 7, 3) := by decide +kernel
theorem dX3_hasBit_9 : decode cX3_hasBit 9 = .ok (.iconst 1, 1) := by decide +kernel
theorem dX3_hasBit_10 : decode cX3_hasBit 10 = .ok (.goto 4, 3) := by decide +kernel
theorem dX3_hasBit_13 : decode cX3_hasBit 13 = .ok (.iconst 0, 1) := by decide +kernel
theorem dX3_hasBit_14 : decode cX3_hasBit 14 = .ok (.ireturn, 1) := by decide +kernel
theorem dX3_add_0 : decode cX3_add 0 = .ok (.aload_n 0, 1) := by decide +kernel
theorem dX3_add_1 : decode cX3_add 1 = .ok (.getfield 45, 3) := by decide +kernel
theorem dX3_add_4 : decode cX3_add 4 = .ok (.istore_n 3, 1) := by decide +kernel
theorem dX3_add_5 : decode cX3_add 5 = .ok (.aload_n 0, 1) := by decide +kernel
theorem dX3_add_6 : decode cX3_add 6 = .ok (.getfield 9, 3) := by decide +kernel
theorem dX3_add_9 : decode cX3_add 9 = .ok (.iload_n 3, 1) := by decide +kernel
theorem dX3_add_10 : decode cX3_add 10 = .ok (.iload_n 1, 1) := by decide +kernel
theorem dX3_add_11 : decode cX3_add 11 = .ok (.iastore, 1) := by decide +kernel
theorem dX3_add_12 : decode cX3_add 12 = .ok (.aload_n 0, 1) := by decide +kernel
theorem dX3_add_13 : decode cX3_add 13 = .ok (.getfield 15, 3) := by decide +kernel
theorem dX3_add_16 : decode cX3_add 16 = .ok (.iload_n 3, 1) := by decide +kernel
theorem dX3_add_17 : decode cX3_add 17 = .ok (.iload_n 2, 1) := by decide +kernel
theorem dX3_add_18 : decode cX3_add 18 = .ok (.iastore, 1) := by decide +kernel
theorem dX3_add_19 : decode cX3_add 19 = .ok (.aload_n 0, 1) := by decide +kernel
theorem dX3_add_20 : decode cX3_add 20 = .ok (.getfield 18, 3) := by decide +kernel
theorem dX3_add_23 : decode cX3_add 23 = .ok (.iload_n 3, 1) := by decide +kernel
theorem dX3_add_24 : decode cX3_add 24 = .ok (.iconst 0, 1) := by decide +kernel
theorem dX3_add_25 : decode cX3_add 25 = .ok (.iastore, 1) := by decide +kernel
theorem dX3_add_26 : decode cX3_add 26 = .ok (.aload_n 0, 1) := by decide +kernel
theorem dX3_add_27 : decode cX3_add 27 = .ok (.getfield 33, 3) := by decide +kernel
theorem dX3_add_30 : decode cX3_add 30 = .ok (.iload_n 3, 1) := by decide +kernel
theorem dX3_add_31 : decode cX3_add 31 = .ok (.iconst (-1), 1) := by decide +kernel
theorem dX3_add_32 : decode cX3_add 32 = .ok (.iastore, 1) := by decide +kernel
theorem dX3_add_33 : decode cX3_add 33 = .ok (.aload_n 0, 1) := by decide +kernel
theorem dX3_add_34 : decode cX3_add 34 = .ok (.dup, 1) := by decide +kernel
theorem dX3_add_35 : decode cX3_add 35 = .ok (.getfield 45, 3) := by decide +kernel
theorem dX3_add_38 : decode cX3_add 38 = .ok (.iconst 1, 1) := by decide +kernel
theorem dX3_add_39 : decode cX3_add 39 = .ok (.iadd, 1) := by decide +kernel
theorem dX3_add_40 : decode cX3_add 40 = .ok (.putfield 45, 3) := by decide +kernel
theorem dX3_add_43 : decode cX3_add 43 = .ok (.iload_n 3, 1) := by decide +kernel
theorem dX3_add_44 : decode cX3_add 44 = .ok (.ireturn, 1) := by decide +kernel
theorem dX3_file_0 : decode cX3_file 0 = .ok (.aload_n 0, 1) := by decide +kernel
theorem dX3_file_1 : decode cX3_file 1 = .ok (.getfield 18, 3) := by decide +kernel
theorem dX3_file_4 : decode cX3_file 4 = .ok (.iload_n 1, 1) := by decide +kernel
theorem dX3_file_5 : decode cX3_file 5 = .ok (.iconst 1, 1) := by decide +kernel
theorem dX3_file_6 : decode cX3_file 6 = .ok (.iastore, 1) := by decide +kernel
theorem dX3_file_7 : decode cX3_file 7 = .ok (.aload_n 0, 1) := by decide +kernel
theorem dX3_file_8 : decode cX3_file 8 = .ok (.getfield 21, 3) := by decide +kernel
theorem dX3_file_11 : decode cX3_file 11 = .ok (.iload_n 1, 1) := by decide +kernel
theorem dX3_file_12 : decode cX3_file 12 = .ok (.iload_n 2, 1) := by decide +kernel
theorem dX3_file_13 : decode cX3_file 13 = .ok (.iastore, 1) := by decide +kernel
theorem dX3_file_14 : decode cX3_file 14 = .ok (.aload_n 0, 1) := by decide +kernel
theorem dX3_file_15 : decode cX3_file 15 = .ok (.getfield 24, 3) := by decide +kernel
theorem dX3_file_18 : decode cX3_file 18 = .ok (.iload_n 1, 1) := by decide +kernel
theorem dX3_file_19 : decode cX3_file 19 = .ok (.iconst 1, 1) := by decide +kernel
theorem dX3_file_20 : decode cX3_file 20 = .ok (.iastore, 1) := by decide +kernel
theorem dX3_file_21 : decode cX3_file 21 = .ok (.aload_n 0, 1) := by decide +kernel
theorem dX3_file_22 : decode cX3_file 22 = .ok (.getfield 27, 3) := by decide +kernel
theorem dX3_file_25 : decode cX3_file 25 = .ok (.iload_n 1, 1) := by decide +kernel
theorem dX3_file_26 : decode cX3_file 26 = .ok (.aload_n 0, 1) := by decide +kernel
theorem dX3_file_27 : decode cX3_file 27 = .ok (.getfield 49, 3) := by decide +kernel
theorem dX3_file_30 : decode cX3_file 30 = .ok (.iastore, 1) := by decide +kernel
theorem dX3_file_31 : decode cX3_file 31 = .ok (.aload_n 0, 1) := by decide +kernel
theorem dX3_file_32 : decode cX3_file 32 = .ok (.iconst 1, 1) := by decide +kernel
theorem dX3_file_33 : decode cX3_file 33 = .ok (.iload_n 2, 1) := by decide +kernel
theorem dX3_file_34 : decode cX3_file 34 = .ok (.invokevirtual 81, 3) := by decide +kernel
theorem dX3_file_37 : decode cX3_file 37 = .ok (.ireturn, 1) := by decide +kernel
theorem dX3_dropApplication_0 : decode cX3_dropApplication 0 = .ok (.aload_n 0, 1) := by decide +kernel
theorem dX3_dropApplication_1 : decode cX3_dropApplication 1 = .ok (.getfield 18, 3) := by decide +kernel
theorem dX3_dropApplication_4 : decode cX3_dropApplication 4 = .ok (.iload_n 1, 1) := by decide +kernel
theorem dX3_dropApplication_5 : decode cX3_dropApplication 5 = .ok (.iconst 0, 1) := by decide +kernel
theorem dX3_dropApplication_6 : decode cX3_dropApplication 6 = .ok (.iastore, 1) := by decide +kernel
theorem dX3_dropApplication_7 : decode cX3_dropApplication 7 = .ok (.aload_n 0, 1) := by decide +kernel
theorem dX3_dropApplication_8 : decode cX3_dropApplication 8 = .ok (.getfield 21, 3) := by decide +kernel
theorem dX3_dropApplication_11 : decode cX3_dropApplication 11 = .ok (.iload_n 1, 1) := by decide +kernel
theorem dX3_dropApplication_12 : decode cX3_dropApplication 12 = .ok (.iaload, 1) := by decide +kernel
theorem dX3_dropApplication_13 : decode cX3_dropApplication 13 = .ok (.ireturn, 1) := by decide +kernel
theorem dX3_raise_0 : decode cX3_raise 0 = .ok (.aload_n 0, 1) := by decide +kernel
theorem dX3_raise_1 : decode cX3_raise 1 = .ok (.getfield 18, 3) := by decide +kernel
theorem dX3_raise_4 : decode cX3_raise 4 = .ok (.iload_n 1, 1) := by decide +kernel
theorem dX3_raise_5 : decode cX3_raise 5 = .ok (.iconst 1, 1) := by decide +kernel
theorem dX3_raise_6 : decode cX3_raise 6 = .ok (.iastore, 1) := by decide +kernel
theorem dX3_raise_7 : decode cX3_raise 7 = .ok (.aload_n 0, 1) := by decide +kernel
theorem dX3_raise_8 : decode cX3_raise 8 = .ok (.getfield 24, 3) := by decide +kernel
theorem dX3_raise_11 : decode cX3_raise 11 = .ok (.iload_n 1, 1) := by decide +kernel
theorem dX3_raise_12 : decode cX3_raise 12 = .ok (.dup2, 1) := by decide +kernel
theorem dX3_raise_13 : decode cX3_raise 13 = .ok (.iaload, 1) := by decide +kernel
theorem dX3_raise_14 : decode cX3_raise 14 = .ok (.iconst 1, 1) := by decide +kernel
theorem dX3_raise_15 : decode cX3_raise 15 = .ok (.iadd, 1) := by decide +kernel
theorem dX3_raise_16 : decode cX3_raise 16 = .ok (.iastore, 1) := by decide +kernel
theorem dX3_raise_17 : decode cX3_raise 17 = .ok (.aload_n 0, 1) := by decide +kernel
theorem dX3_raise_18 : decode cX3_raise 18 = .ok (.getfield 27, 3) := by decide +kernel
theorem dX3_raise_21 : decode cX3_raise 21 = .ok (.iload_n 1, 1) := by decide +kernel
theorem dX3_raise_22 : decode cX3_raise 22 = .ok (.aload_n 0, 1) := by decide +kernel
theorem dX3_raise_23 : decode cX3_raise 23 = .ok (.getfield 49, 3) := by decide +kernel
theorem dX3_raise_26 : decode cX3_raise 26 = .ok (.iastore, 1) := by decide +kernel
theorem dX3_raise_27 : decode cX3_raise 27 = .ok (.aload_n 0, 1) := by decide +kernel
theorem dX3_raise_28 : decode cX3_raise 28 = .ok (.getfield 24, 3) := by decide +kernel
theorem dX3_raise_31 : decode cX3_raise 31 = .ok (.iload_n 1, 1) := by decide +kernel
theorem dX3_raise_32 : decode cX3_raise 32 = .ok (.iaload, 1) := by decide +kernel
theorem dX3_raise_33 : decode cX3_raise 33 = .ok (.ireturn, 1) := by decide +kernel
theorem dX3_decideAll_0 : decode cX3_decideAll 0 = .ok (.aload_n 0, 1) := by decide +kernel
theorem dX3_decideAll_1 : decode cX3_decideAll 1 = .ok (.getfield 52, 3) := by decide +kernel
theorem dX3_decideAll_4 : decode cX3_decideAll 4 = .ok (.istore_n 2, 1) := by decide +kernel
theorem dX3_decideAll_5 : decode cX3_decideAll 5 = .ok (.aload_n 0, 1) := by decide +kernel
theorem dX3_decideAll_6 : decode cX3_decideAll 6 = .ok (.iconst 1, 1) := by decide +kernel
theorem dX3_decideAll_7 : decode cX3_decideAll 7 = .ok (.iload_n 1, 1) := by decide +kernel
theorem dX3_decideAll_8 : decode cX3_decideAll 8 = .ok (.invokevirtual 81, 3) := by decide +kernel
theorem dX3_decideAll_11 : decode cX3_decideAll 11 = .ok (.istore_n 3, 1) := by decide +kernel
theorem dX3_decideAll_12 : decode cX3_decideAll 12 = .ok (.iconst 0, 1) := by decide +kernel
theorem dX3_decideAll_13 : decode cX3_decideAll 13 = .ok (.istore 4, 2) := by decide +kernel
theorem dX3_decideAll_15 : decode cX3_decideAll 15 = .ok (.iload 4, 2) := by decide +kernel
theorem dX3_decideAll_17 : decode cX3_decideAll 17 = .ok (.iload_n 3, 1) := by decide +kernel
theorem dX3_decideAll_18 : decode cX3_decideAll 18 = .ok (.if_icmp .ge 30, 3) := by decide +kernel
theorem dX3_decideAll_21 : decode cX3_decideAll 21 = .ok (.aload_n 0, 1) := by decide +kernel
theorem dX3_decideAll_22 : decode cX3_decideAll 22 = .ok (.iload_n 1, 1) := by decide +kernel
theorem dX3_decideAll_23 : decode cX3_decideAll 23 = .ok (.iconst 0, 1) := by decide +kernel
theorem dX3_decideAll_24 : decode cX3_decideAll 24 = .ok (.invokevirtual 96, 3) := by decide +kernel
theorem dX3_decideAll_27 : decode cX3_decideAll 27 = .ok (.istore 5, 2) := by decide +kernel
theorem dX3_decideAll_29 : decode cX3_decideAll 29 = .ok (.iload 5, 2) := by decide +kernel
theorem dX3_decideAll_31 : decode cX3_decideAll 31 = .ok (.iconst (-1), 1) := by decide +kernel
theorem dX3_decideAll_32 : decode cX3_decideAll 32 = .ok (.if_icmp .eq 10, 3) := by decide +kernel
theorem dX3_decideAll_35 : decode cX3_decideAll 35 = .ok (.aload_n 0, 1) := by decide +kernel
theorem dX3_decideAll_36 : decode cX3_decideAll 36 = .ok (.iload 5, 2) := by decide +kernel
theorem dX3_decideAll_38 : decode cX3_decideAll 38 = .ok (.iload_n 1, 1) := by decide +kernel
theorem dX3_decideAll_39 : decode cX3_decideAll 39 = .ok (.invokevirtual 99, 3) := by decide +kernel
theorem dX3_decideAll_42 : decode cX3_decideAll 42 = .ok (.iinc 4 1, 3) := by decide +kernel
theorem dX3_decideAll_45 : decode cX3_decideAll 45 = .ok (.goto (-30), 3) := by decide +kernel
theorem dX3_decideAll_48 : decode cX3_decideAll 48 = .ok (.aload_n 0, 1) := by decide +kernel
theorem dX3_decideAll_49 : decode cX3_decideAll 49 = .ok (.getfield 52, 3) := by decide +kernel
theorem dX3_decideAll_52 : decode cX3_decideAll 52 = .ok (.iload_n 2, 1) := by decide +kernel
theorem dX3_decideAll_53 : decode cX3_decideAll 53 = .ok (.isub, 1) := by decide +kernel
theorem dX3_decideAll_54 : decode cX3_decideAll 54 = .ok (.ireturn, 1) := by decide +kernel
theorem dX3_decideOne_0 : decode cX3_decideOne 0 = .ok (.aload_n 0, 1) := by decide +kernel
theorem dX3_decideOne_1 : decode cX3_decideOne 1 = .ok (.iload_n 2, 1) := by decide +kernel
theorem dX3_decideOne_2 : decode cX3_decideOne 2 = .ok (.invokevirtual 103, 3) := by decide +kernel
theorem dX3_decideOne_5 : decode cX3_decideOne 5 = .ok (.ifCond .eq 49, 3) := by decide +kernel
theorem dX3_decideOne_8 : decode cX3_decideOne 8 = .ok (.aload_n 0, 1) := by decide +kernel
theorem dX3_decideOne_9 : decode cX3_decideOne 9 = .ok (.iload_n 2, 1) := by decide +kernel
theorem dX3_decideOne_10 : decode cX3_decideOne 10 = .ok (.aload_n 0, 1) := by decide +kernel
theorem dX3_decideOne_11 : decode cX3_decideOne 11 = .ok (.iload_n 1, 1) := by decide +kernel
theorem dX3_decideOne_12 : decode cX3_decideOne 12 = .ok (.invokevirtual 107, 3) := by decide +kernel
theorem dX3_decideOne_15 : decode cX3_decideOne 15 = .ok (.invokevirtual 111, 3) := by decide +kernel
theorem dX3_decideOne_18 : decode cX3_decideOne 18 = .ok (.ifCond .ne 36, 3) := by decide +kernel
theorem dX3_decideOne_21 : decode cX3_decideOne 21 = .ok (.aload_n 0, 1) := by decide +kernel
theorem dX3_decideOne_22 : decode cX3_decideOne 22 = .ok (.getfield 18, 3) := by decide +kernel
theorem dX3_decideOne_25 : decode cX3_decideOne 25 = .ok (.iload_n 1, 1) := by decide +kernel
theorem dX3_decideOne_26 : decode cX3_decideOne 26 = .ok (.iconst 3, 1) := by decide +kernel
theorem dX3_decideOne_27 : decode cX3_decideOne 27 = .ok (.iastore, 1) := by decide +kernel
theorem dX3_decideOne_28 : decode cX3_decideOne 28 = .ok (.aload_n 0, 1) := by decide +kernel
theorem dX3_decideOne_29 : decode cX3_decideOne 29 = .ok (.getfield 30, 3) := by decide +kernel
theorem dX3_decideOne_32 : decode cX3_decideOne 32 = .ok (.iload_n 1, 1) := by decide +kernel
theorem dX3_decideOne_33 : decode cX3_decideOne 33 = .ok (.aload_n 0, 1) := by decide +kernel
theorem dX3_decideOne_34 : decode cX3_decideOne 34 = .ok (.getfield 49, 3) := by decide +kernel
theorem dX3_decideOne_37 : decode cX3_decideOne 37 = .ok (.bipush 10, 2) := by decide +kernel
theorem dX3_decideOne_39 : decode cX3_decideOne 39 = .ok (.iadd, 1) := by decide +kernel
theorem dX3_decideOne_40 : decode cX3_decideOne 40 = .ok (.iastore, 1) := by decide +kernel
theorem dX3_decideOne_41 : decode cX3_decideOne 41 = .ok (.aload_n 0, 1) := by decide +kernel
theorem dX3_decideOne_42 : decode cX3_decideOne 42 = .ok (.dup, 1) := by decide +kernel
theorem dX3_decideOne_43 : decode cX3_decideOne 43 = .ok (.getfield 52, 3) := by decide +kernel
theorem dX3_decideOne_46 : decode cX3_decideOne 46 = .ok (.iconst 1, 1) := by decide +kernel
theorem dX3_decideOne_47 : decode cX3_decideOne 47 = .ok (.iadd, 1) := by decide +kernel
theorem dX3_decideOne_48 : decode cX3_decideOne 48 = .ok (.putfield 52, 3) := by decide +kernel
theorem dX3_decideOne_51 : decode cX3_decideOne 51 = .ok (.goto 20, 3) := by decide +kernel
theorem dX3_decideOne_54 : decode cX3_decideOne 54 = .ok (.aload_n 0, 1) := by decide +kernel
theorem dX3_decideOne_55 : decode cX3_decideOne 55 = .ok (.getfield 18, 3) := by decide +kernel
theorem dX3_decideOne_58 : decode cX3_decideOne 58 = .ok (.iload_n 1, 1) := by decide +kernel
theorem dX3_decideOne_59 : decode cX3_decideOne 59 = .ok (.iconst 2, 1) := by decide +kernel
theorem dX3_decideOne_60 : decode cX3_decideOne 60 = .ok (.iastore, 1) := by decide +kernel
theorem dX3_decideOne_61 : decode cX3_decideOne 61 = .ok (.aload_n 0, 1) := by decide +kernel
theorem dX3_decideOne_62 : decode cX3_decideOne 62 = .ok (.dup, 1) := by decide +kernel
theorem dX3_decideOne_63 : decode cX3_decideOne 63 = .ok (.getfield 55, 3) := by decide +kernel
theorem dX3_decideOne_66 : decode cX3_decideOne 66 = .ok (.iconst 1, 1) := by decide +kernel
theorem dX3_decideOne_67 : decode cX3_decideOne 67 = .ok (.iadd, 1) := by decide +kernel
theorem dX3_decideOne_68 : decode cX3_decideOne 68 = .ok (.putfield 55, 3) := by decide +kernel
theorem dX3_decideOne_71 : decode cX3_decideOne 71 = .ok (.return_, 1) := by decide +kernel
theorem dX3_admissible_0 : decode cX3_admissible 0 = .ok (.iconst 0, 1) := by decide +kernel
theorem dX3_admissible_1 : decode cX3_admissible 1 = .ok (.istore_n 2, 1) := by decide +kernel
theorem dX3_admissible_2 : decode cX3_admissible 2 = .ok (.iconst 0, 1) := by decide +kernel
theorem dX3_admissible_3 : decode cX3_admissible 3 = .ok (.istore_n 3, 1) := by decide +kernel
theorem dX3_admissible_4 : decode cX3_admissible 4 = .ok (.iload_n 3, 1) := by decide +kernel
theorem dX3_admissible_5 : decode cX3_admissible 5 = .ok (.aload_n 0, 1) := by decide +kernel
theorem dX3_admissible_6 : decode cX3_admissible 6 = .ok (.getfield 45, 3) := by decide +kernel
theorem dX3_admissible_9 : decode cX3_admissible 9 = .ok (.if_icmp .ge 35, 3) := by decide +kernel
theorem dX3_admissible_12 : decode cX3_admissible 12 = .ok (.aload_n 0, 1) := by decide +kernel
theorem dX3_admissible_13 : decode cX3_admissible 13 = .ok (.iload_n 3, 1) := by decide +kernel
theorem dX3_admissible_14 : decode cX3_admissible 14 = .ok (.iconst 1, 1) := by decide +kernel
theorem dX3_admissible_15 : decode cX3_admissible 15 = .ok (.iload_n 1, 1) := by decide +kernel
theorem dX3_admissible_16 : decode cX3_admissible 16 = .ok (.invokevirtual 77, 3) := by decide +kernel
theorem dX3_admissible_19 : decode cX3_admissible 19 = .ok (.ifCond .eq 19, 3) := by decide +kernel
theorem dX3_admissible_22 : decode cX3_admissible 22 = .ok (.aload_n 0, 1) := by decide +kernel
theorem dX3_admissible_23 : decode cX3_admissible 23 = .ok (.iload_n 1, 1) := by decide +kernel
theorem dX3_admissible_24 : decode cX3_admissible 24 = .ok (.aload_n 0, 1) := by decide +kernel
theorem dX3_admissible_25 : decode cX3_admissible 25 = .ok (.iload_n 3, 1) := by decide +kernel
theorem dX3_admissible_26 : decode cX3_admissible 26 = .ok (.invokevirtual 107, 3) := by decide +kernel
theorem dX3_admissible_29 : decode cX3_admissible 29 = .ok (.invokevirtual 111, 3) := by decide +kernel
theorem dX3_admissible_32 : decode cX3_admissible 32 = .ok (.ifCond .ne 6, 3) := by decide +kernel
theorem dX3_admissible_35 : decode cX3_admissible 35 = .ok (.iinc 2 1, 3) := by decide +kernel
theorem dX3_admissible_38 : decode cX3_admissible 38 = .ok (.iinc 3 1, 3) := by decide +kernel
theorem dX3_admissible_41 : decode cX3_admissible 41 = .ok (.goto (-37), 3) := by decide +kernel
theorem dX3_admissible_44 : decode cX3_admissible 44 = .ok (.iconst 0, 1) := by decide +kernel
theorem dX3_admissible_45 : decode cX3_admissible 45 = .ok (.aload_n 0, 1) := by decide +kernel
theorem dX3_admissible_46 : decode cX3_admissible 46 = .ok (.getfield 36, 3) := by decide +kernel
theorem dX3_admissible_49 : decode cX3_admissible 49 = .ok (.iload_n 1, 1) := by decide +kernel
theorem dX3_admissible_50 : decode cX3_admissible 50 = .ok (.iaload, 1) := by decide +kernel
theorem dX3_admissible_51 : decode cX3_admissible 51 = .ok (.aload_n 0, 1) := by decide +kernel
theorem dX3_admissible_52 : decode cX3_admissible 52 = .ok (.iconst 3, 1) := by decide +kernel
theorem dX3_admissible_53 : decode cX3_admissible 53 = .ok (.iload_n 1, 1) := by decide +kernel
theorem dX3_admissible_54 : decode cX3_admissible 54 = .ok (.invokevirtual 81, 3) := by decide +kernel
theorem dX3_admissible_57 : decode cX3_admissible 57 = .ok (.isub, 1) := by decide +kernel
theorem dX3_admissible_58 : decode cX3_admissible 58 = .ok (.invokestatic 115, 3) := by decide +kernel
theorem dX3_admissible_61 : decode cX3_admissible 61 = .ok (.istore_n 3, 1) := by decide +kernel
theorem dX3_admissible_62 : decode cX3_admissible 62 = .ok (.iload_n 2, 1) := by decide +kernel
theorem dX3_admissible_63 : decode cX3_admissible 63 = .ok (.iload_n 3, 1) := by decide +kernel
theorem dX3_admissible_64 : decode cX3_admissible 64 = .ok (.invokestatic 65, 3) := by decide +kernel
theorem dX3_admissible_67 : decode cX3_admissible 67 = .ok (.ireturn, 1) := by decide +kernel
theorem dX3_queued_0 : decode cX3_queued 0 = .ok (.iconst 0, 1) := by decide +kernel
theorem dX3_queued_1 : decode cX3_queued 1 = .ok (.istore_n 3, 1) := by decide +kernel
theorem dX3_queued_2 : decode cX3_queued 2 = .ok (.iload_n 3, 1) := by decide +kernel
theorem dX3_queued_3 : decode cX3_queued 3 = .ok (.aload_n 0, 1) := by decide +kernel
theorem dX3_queued_4 : decode cX3_queued 4 = .ok (.getfield 45, 3) := by decide +kernel
theorem dX3_queued_7 : decode cX3_queued 7 = .ok (.if_icmp .ge 31, 3) := by decide +kernel
theorem dX3_queued_10 : decode cX3_queued 10 = .ok (.aload_n 0, 1) := by decide +kernel
theorem dX3_queued_11 : decode cX3_queued 11 = .ok (.iload_n 3, 1) := by decide +kernel
theorem dX3_queued_12 : decode cX3_queued 12 = .ok (.iconst 1, 1) := by decide +kernel
theorem dX3_queued_13 : decode cX3_queued 13 = .ok (.iload_n 1, 1) := by decide +kernel
theorem dX3_queued_14 : decode cX3_queued 14 = .ok (.invokevirtual 77, 3) := by decide +kernel
theorem dX3_queued_17 : decode cX3_queued 17 = .ok (.ifCond .eq 15, 3) := by decide +kernel
theorem dX3_queued_20 : decode cX3_queued 20 = .ok (.aload_n 0, 1) := by decide +kernel
theorem dX3_queued_21 : decode cX3_queued 21 = .ok (.iload_n 3, 1) := by decide +kernel
theorem dX3_queued_22 : decode cX3_queued 22 = .ok (.iload_n 1, 1) := by decide +kernel
theorem dX3_queued_23 : decode cX3_queued 23 = .ok (.invokevirtual 118, 3) := by decide +kernel
theorem dX3_queued_26 : decode cX3_queued 26 = .ok (.iload_n 2, 1) := by decide +kernel
theorem dX3_queued_27 : decode cX3_queued 27 = .ok (.if_icmp .ne 5, 3) := by decide +kernel
theorem dX3_queued_30 : decode cX3_queued 30 = .ok (.iload_n 3, 1) := by decide +kernel
theorem dX3_queued_31 : decode cX3_queued 31 = .ok (.ireturn, 1) := by decide +kernel
theorem dX3_queued_32 : decode cX3_queued 32 = .ok (.iinc 3 1, 3) := by decide +kernel
theorem dX3_queued_35 : decode cX3_queued 35 = .ok (.goto (-33), 3) := by decide +kernel
theorem dX3_queued_38 : decode cX3_queued 38 = .ok (.iconst (-1), 1) := by decide +kernel
theorem dX3_queued_39 : decode cX3_queued 39 = .ok (.ireturn, 1) := by decide +kernel
theorem dX3_queuedAhead_0 : decode cX3_queuedAhead 0 = .ok (.iconst 0, 1) := by decide +kernel
theorem dX3_queuedAhead_1 : decode cX3_queuedAhead 1 = .ok (.istore_n 3, 1) := by decide +kernel
theorem dX3_queuedAhead_2 : decode cX3_queuedAhead 2 = .ok (.iconst 0, 1) := by decide +kernel
theorem dX3_queuedAhead_3 : decode cX3_queuedAhead 3 = .ok (.istore 4, 2) := by decide +kernel
theorem dX3_queuedAhead_5 : decode cX3_queuedAhead 5 = .ok (.iload 4, 2) := by decide +kernel
theorem dX3_queuedAhead_7 : decode cX3_queuedAhead 7 = .ok (.aload_n 0, 1) := by decide +kernel
theorem dX3_queuedAhead_8 : decode cX3_queuedAhead 8 = .ok (.getfield 45, 3) := by decide +kernel
theorem dX3_queuedAhead_11 : decode cX3_queuedAhead 11 = .ok (.if_icmp .ge 33, 3) := by decide +kernel
theorem dX3_queuedAhead_14 : decode cX3_queuedAhead 14 = .ok (.aload_n 0, 1) := by decide +kernel
theorem dX3_queuedAhead_15 : decode cX3_queuedAhead 15 = .ok (.iload 4, 2) := by decide +kernel
theorem dX3_queuedAhead_17 : decode cX3_queuedAhead 17 = .ok (.iconst 1, 1) := by decide +kernel
theorem dX3_queuedAhead_18 : decode cX3_queuedAhead 18 = .ok (.iload_n 2, 1) := by decide +kernel
theorem dX3_queuedAhead_19 : decode cX3_queuedAhead 19 = .ok (.invokevirtual 77, 3) := by decide +kernel
theorem dX3_queuedAhead_22 : decode cX3_queuedAhead 22 = .ok (.ifCond .eq 16, 3) := by decide +kernel
theorem dX3_queuedAhead_25 : decode cX3_queuedAhead 25 = .ok (.aload_n 0, 1) := by decide +kernel
theorem dX3_queuedAhead_26 : decode cX3_queuedAhead 26 = .ok (.iload 4, 2) := by decide +kernel
theorem dX3_queuedAhead_28 : decode cX3_queuedAhead 28 = .ok (.iload_n 1, 1) := by decide +kernel
theorem dX3_queuedAhead_29 : decode cX3_queuedAhead 29 = .ok (.invokevirtual 121, 3) := by decide +kernel
theorem dX3_queuedAhead_32 : decode cX3_queuedAhead 32 = .ok (.ifCond .eq 6, 3) := by decide +kernel
theorem dX3_queuedAhead_35 : decode cX3_queuedAhead 35 = .ok (.iinc 3 1, 3) := by decide +kernel
theorem dX3_queuedAhead_38 : decode cX3_queuedAhead 38 = .ok (.iinc 4 1, 3) := by decide +kernel
theorem dX3_queuedAhead_41 : decode cX3_queuedAhead 41 = .ok (.goto (-36), 3) := by decide +kernel
theorem dX3_queuedAhead_44 : decode cX3_queuedAhead 44 = .ok (.iload_n 3, 1) := by decide +kernel
theorem dX3_queuedAhead_45 : decode cX3_queuedAhead 45 = .ok (.ireturn, 1) := by decide +kernel
theorem dX3_isDecidedAhead_0 : decode cX3_isDecidedAhead 0 = .ok (.aload_n 0, 1) := by decide +kernel
theorem dX3_isDecidedAhead_1 : decode cX3_isDecidedAhead 1 = .ok (.getfield 24, 3) := by decide +kernel
theorem dX3_isDecidedAhead_4 : decode cX3_isDecidedAhead 4 = .ok (.iload_n 1, 1) := by decide +kernel
theorem dX3_isDecidedAhead_5 : decode cX3_isDecidedAhead 5 = .ok (.iaload, 1) := by decide +kernel
theorem dX3_isDecidedAhead_6 : decode cX3_isDecidedAhead 6 = .ok (.aload_n 0, 1) := by decide +kernel
theorem dX3_isDecidedAhead_7 : decode cX3_isDecidedAhead 7 = .ok (.getfield 24, 3) := by decide +kernel
theorem dX3_isDecidedAhead_10 : decode cX3_isDecidedAhead 10 = .ok (.iload_n 2, 1) := by decide +kernel
theorem dX3_isDecidedAhead_11 : decode cX3_isDecidedAhead 11 = .ok (.iaload, 1) := by decide +kernel
theorem dX3_isDecidedAhead_12 : decode cX3_isDecidedAhead 12 = .ok (.if_icmp .eq 24, 3) := by decide +kernel
theorem dX3_isDecidedAhead_15 : decode cX3_isDecidedAhead 15 = .ok (.aload_n 0, 1) := by decide +kernel
theorem dX3_isDecidedAhead_16 : decode cX3_isDecidedAhead 16 = .ok (.getfield 24, 3) := by decide +kernel
theorem dX3_isDecidedAhead_19 : decode cX3_isDecidedAhead 19 = .ok (.iload_n 1, 1) := by decide +kernel
theorem dX3_isDecidedAhead_20 : decode cX3_isDecidedAhead 20 = .ok (.iaload, 1) := by decide +kernel
theorem dX3_isDecidedAhead_21 : decode cX3_isDecidedAhead 21 = .ok (.aload_n 0, 1) := by decide +kernel
theorem dX3_isDecidedAhead_22 : decode cX3_isDecidedAhead 22 = .ok (.getfield 24, 3) := by decide +kernel
theorem dX3_isDecidedAhead_25 : decode cX3_isDecidedAhead 25 = .ok (.iload_n 2, 1) := by decide +kernel
theorem dX3_isDecidedAhead_26 : decode cX3_isDecidedAhead 26 = .ok (.iaload, 1) := by decide +kernel
theorem dX3_isDecidedAhead_27 : decode cX3_isDecidedAhead 27 = .ok (.if_icmp .le 7, 3) := by decide +kernel
theorem dX3_isDecidedAhead_30 : decode cX3_isDecidedAhead 30 = .ok (.iconst 1, 1) := by decide +kernel
theorem dX3_isDecidedAhead_31 : decode cX3_isDecidedAhead 31 = .ok (.goto 4, 3) := by decide +kernel
theorem dX3_isDecidedAhead_34 : decode cX3_isDecidedAhead 34 = .ok (.iconst 0, 1) := by decide +kernel
theorem dX3_isDecidedAhead_35 : decode cX3_isDecidedAhead 35 = .ok (.ireturn, 1) := by decide +kernel
theorem dX3_isDecidedAhead_36 : decode cX3_isDecidedAhead 36 = .ok (.aload_n 0, 1) := by decide +kernel
theorem dX3_isDecidedAhead_37 : decode cX3_isDecidedAhead 37 = .ok (.getfield 27, 3) := by decide +kernel
theorem dX3_isDecidedAhead_40 : decode cX3_isDecidedAhead 40 = .ok (.iload_n 1, 1) := by decide +kernel
theorem dX3_isDecidedAhead_41 : decode cX3_isDecidedAhead 41 = .ok (.iaload, 1) := by decide +kernel
theorem dX3_isDecidedAhead_42 : decode cX3_isDecidedAhead 42 = .ok (.aload_n 0, 1) := by decide +kernel
theorem dX3_isDecidedAhead_43 : decode cX3_isDecidedAhead 43 = .ok (.getfield 27, 3) := by decide +kernel
theorem dX3_isDecidedAhead_46 : decode cX3_isDecidedAhead 46 = .ok (.iload_n 2, 1) := by decide +kernel
theorem dX3_isDecidedAhead_47 : decode cX3_isDecidedAhead 47 = .ok (.iaload, 1) := by decide +kernel
theorem dX3_isDecidedAhead_48 : decode cX3_isDecidedAhead 48 = .ok (.if_icmp .eq 24, 3) := by decide +kernel
theorem dX3_isDecidedAhead_51 : decode cX3_isDecidedAhead 51 = .ok (.aload_n 0, 1) := by decide +kernel
theorem dX3_isDecidedAhead_52 : decode cX3_isDecidedAhead 52 = .ok (.getfield 27, 3) := by decide +kernel
theorem dX3_isDecidedAhead_55 : decode cX3_isDecidedAhead 55 = .ok (.iload_n 1, 1) := by decide +kernel
theorem dX3_isDecidedAhead_56 : decode cX3_isDecidedAhead 56 = .ok (.iaload, 1) := by decide +kernel
theorem dX3_isDecidedAhead_57 : decode cX3_isDecidedAhead 57 = .ok (.aload_n 0, 1) := by decide +kernel
theorem dX3_isDecidedAhead_58 : decode cX3_isDecidedAhead 58 = .ok (.getfield 27, 3) := by decide +kernel
theorem dX3_isDecidedAhead_61 : decode cX3_isDecidedAhead 61 = .ok (.iload_n 2, 1) := by decide +kernel
theorem dX3_isDecidedAhead_62 : decode cX3_isDecidedAhead 62 = .ok (.iaload, 1) := by decide +kernel
theorem dX3_isDecidedAhead_63 : decode cX3_isDecidedAhead 63 = .ok (.if_icmp .ge 7, 3) := by decide +kernel
theorem dX3_isDecidedAhead_66 : decode cX3_isDecidedAhead 66 = .ok (.iconst 1, 1) := by decide +kernel
theorem dX3_isDecidedAhead_67 : decode cX3_isDecidedAhead 67 = .ok (.goto 4, 3) := by decide +kernel
theorem dX3_isDecidedAhead_70 : decode cX3_isDecidedAhead 70 = .ok (.iconst 0, 1) := by decide +kernel
theorem dX3_isDecidedAhead_71 : decode cX3_isDecidedAhead 71 = .ok (.ireturn, 1) := by decide +kernel
theorem dX3_isDecidedAhead_72 : decode cX3_isDecidedAhead 72 = .ok (.iload_n 1, 1) := by decide +kernel
theorem dX3_isDecidedAhead_73 : decode cX3_isDecidedAhead 73 = .ok (.iload_n 2, 1) := by decide +kernel
theorem dX3_isDecidedAhead_74 : decode cX3_isDecidedAhead 74 = .ok (.if_icmp .ge 7, 3) := by decide +kernel
theorem dX3_isDecidedAhead_77 : decode cX3_isDecidedAhead 77 = .ok (.iconst 1, 1) := by decide +kernel
theorem dX3_isDecidedAhead_78 : decode cX3_isDecidedAhead 78 = .ok (.goto 4, 3) := by decide +kernel
theorem dX3_isDecidedAhead_81 : decode cX3_isDecidedAhead 81 = .ok (.iconst 0, 1) := by decide +kernel
theorem dX3_isDecidedAhead_82 : decode cX3_isDecidedAhead 82 = .ok (.ireturn, 1) := by decide +kernel
theorem dX3_extend_0 : decode cX3_extend 0 = .ok (.aload_n 0, 1) := by decide +kernel
theorem dX3_extend_1 : decode cX3_extend 1 = .ok (.getfield 30, 3) := by decide +kernel
theorem dX3_extend_4 : decode cX3_extend 4 = .ok (.iload_n 1, 1) := by decide +kernel
theorem dX3_extend_5 : decode cX3_extend 5 = .ok (.dup2, 1) := by decide +kernel
theorem dX3_extend_6 : decode cX3_extend 6 = .ok (.iaload, 1) := by decide +kernel
theorem dX3_extend_7 : decode cX3_extend 7 = .ok (.iload_n 2, 1) := by decide +kernel
theorem dX3_extend_8 : decode cX3_extend 8 = .ok (.iadd, 1) := by decide +kernel
theorem dX3_extend_9 : decode cX3_extend 9 = .ok (.iastore, 1) := by decide +kernel
theorem dX3_extend_10 : decode cX3_extend 10 = .ok (.aload_n 0, 1) := by decide +kernel
theorem dX3_extend_11 : decode cX3_extend 11 = .ok (.getfield 30, 3) := by decide +kernel
theorem dX3_extend_14 : decode cX3_extend 14 = .ok (.iload_n 1, 1) := by decide +kernel
theorem dX3_extend_15 : decode cX3_extend 15 = .ok (.iaload, 1) := by decide +kernel
theorem dX3_extend_16 : decode cX3_extend 16 = .ok (.ireturn, 1) := by decide +kernel
theorem dX3_release_0 : decode cX3_release 0 = .ok (.aload_n 0, 1) := by decide +kernel
theorem dX3_release_1 : decode cX3_release 1 = .ok (.getfield 18, 3) := by decide +kernel
theorem dX3_release_4 : decode cX3_release 4 = .ok (.iload_n 1, 1) := by decide +kernel
theorem dX3_release_5 : decode cX3_release 5 = .ok (.iconst 0, 1) := by decide +kernel
theorem dX3_release_6 : decode cX3_release 6 = .ok (.iastore, 1) := by decide +kernel
theorem dX3_release_7 : decode cX3_release 7 = .ok (.aload_n 0, 1) := by decide +kernel
theorem dX3_release_8 : decode cX3_release 8 = .ok (.getfield 30, 3) := by decide +kernel
theorem dX3_release_11 : decode cX3_release 11 = .ok (.iload_n 1, 1) := by decide +kernel
theorem dX3_release_12 : decode cX3_release 12 = .ok (.iaload, 1) := by decide +kernel
theorem dX3_release_13 : decode cX3_release 13 = .ok (.aload_n 0, 1) := by decide +kernel
theorem dX3_release_14 : decode cX3_release 14 = .ok (.getfield 49, 3) := by decide +kernel
theorem dX3_release_17 : decode cX3_release 17 = .ok (.isub, 1) := by decide +kernel
theorem dX3_release_18 : decode cX3_release 18 = .ok (.ireturn, 1) := by decide +kernel
theorem dX3_transfer_0 : decode cX3_transfer 0 = .ok (.aload_n 0, 1) := by decide +kernel
theorem dX3_transfer_1 : decode cX3_transfer 1 = .ok (.aload_n 0, 1) := by decide +kernel
theorem dX3_transfer_2 : decode cX3_transfer 2 = .ok (.getfield 21, 3) := by decide +kernel
theorem dX3_transfer_5 : decode cX3_transfer 5 = .ok (.iload_n 1, 1) := by decide +kernel
theorem dX3_transfer_6 : decode cX3_transfer 6 = .ok (.iaload, 1) := by decide +kernel
theorem dX3_transfer_7 : decode cX3_transfer 7 = .ok (.iload_n 2, 1) := by decide +kernel
theorem dX3_transfer_8 : decode cX3_transfer 8 = .ok (.invokevirtual 124, 3) := by decide +kernel
theorem dX3_transfer_11 : decode cX3_transfer 11 = .ok (.bipush 115, 2) := by decide +kernel
theorem dX3_transfer_13 : decode cX3_transfer 13 = .ok (.if_icmp .ne 24, 3) := by decide +kernel
theorem dX3_transfer_16 : decode cX3_transfer 16 = .ok (.aload_n 0, 1) := by decide +kernel
theorem dX3_transfer_17 : decode cX3_transfer 17 = .ok (.getfield 30, 3) := by decide +kernel
theorem dX3_transfer_20 : decode cX3_transfer 20 = .ok (.iload_n 1, 1) := by decide +kernel
theorem dX3_transfer_21 : decode cX3_transfer 21 = .ok (.aload_n 0, 1) := by decide +kernel
theorem dX3_transfer_22 : decode cX3_transfer 22 = .ok (.getfield 30, 3) := by decide +kernel
theorem dX3_transfer_25 : decode cX3_transfer 25 = .ok (.iload_n 1, 1) := by decide +kernel
theorem dX3_transfer_26 : decode cX3_transfer 26 = .ok (.iaload, 1) := by decide +kernel
theorem dX3_transfer_27 : decode cX3_transfer 27 = .ok (.aload_n 0, 1) := by decide +kernel
theorem dX3_transfer_28 : decode cX3_transfer 28 = .ok (.getfield 49, 3) := by decide +kernel
theorem dX3_transfer_31 : decode cX3_transfer 31 = .ok (.iconst 3, 1) := by decide +kernel
theorem dX3_transfer_32 : decode cX3_transfer 32 = .ok (.iadd, 1) := by decide +kernel
theorem dX3_transfer_33 : decode cX3_transfer 33 = .ok (.invokestatic 65, 3) := by decide +kernel
theorem dX3_transfer_36 : decode cX3_transfer 36 = .ok (.iastore, 1) := by decide +kernel
theorem dX3_transfer_37 : decode cX3_transfer 37 = .ok (.aload_n 0, 1) := by decide +kernel
theorem dX3_transfer_38 : decode cX3_transfer 38 = .ok (.getfield 21, 3) := by decide +kernel
theorem dX3_transfer_41 : decode cX3_transfer 41 = .ok (.iload_n 1, 1) := by decide +kernel
theorem dX3_transfer_42 : decode cX3_transfer 42 = .ok (.iload_n 2, 1) := by decide +kernel
theorem dX3_transfer_43 : decode cX3_transfer 43 = .ok (.iastore, 1) := by decide +kernel
theorem dX3_transfer_44 : decode cX3_transfer 44 = .ok (.aload_n 0, 1) := by decide +kernel
theorem dX3_transfer_45 : decode cX3_transfer 45 = .ok (.getfield 30, 3) := by decide +kernel
theorem dX3_transfer_48 : decode cX3_transfer 48 = .ok (.iload_n 1, 1) := by decide +kernel
theorem dX3_transfer_49 : decode cX3_transfer 49 = .ok (.iaload, 1) := by decide +kernel
theorem dX3_transfer_50 : decode cX3_transfer 50 = .ok (.ireturn, 1) := by decide +kernel
theorem dX3_join_0 : decode cX3_join 0 = .ok (.aload_n 0, 1) := by decide +kernel
theorem dX3_join_1 : decode cX3_join 1 = .ok (.getfield 33, 3) := by decide +kernel
theorem dX3_join_4 : decode cX3_join 4 = .ok (.iload_n 1, 1) := by decide +kernel
theorem dX3_join_5 : decode cX3_join 5 = .ok (.iload_n 2, 1) := by decide +kernel
theorem dX3_join_6 : decode cX3_join 6 = .ok (.iastore, 1) := by decide +kernel
theorem dX3_join_7 : decode cX3_join 7 = .ok (.aload_n 0, 1) := by decide +kernel
theorem dX3_join_8 : decode cX3_join 8 = .ok (.getfield 33, 3) := by decide +kernel
theorem dX3_join_11 : decode cX3_join 11 = .ok (.iload_n 2, 1) := by decide +kernel
theorem dX3_join_12 : decode cX3_join 12 = .ok (.iload_n 1, 1) := by decide +kernel
theorem dX3_join_13 : decode cX3_join 13 = .ok (.iastore, 1) := by decide +kernel
theorem dX3_join_14 : decode cX3_join 14 = .ok (.aload_n 0, 1) := by decide +kernel
theorem dX3_join_15 : decode cX3_join 15 = .ok (.aload_n 0, 1) := by decide +kernel
theorem dX3_join_16 : decode cX3_join 16 = .ok (.getfield 21, 3) := by decide +kernel
theorem dX3_join_19 : decode cX3_join 19 = .ok (.iload_n 1, 1) := by decide +kernel
theorem dX3_join_20 : decode cX3_join 20 = .ok (.iaload, 1) := by decide +kernel
theorem dX3_join_21 : decode cX3_join 21 = .ok (.invokevirtual 127, 3) := by decide +kernel
theorem dX3_join_24 : decode cX3_join 24 = .ok (.ireturn, 1) := by decide +kernel
theorem dX3_part_0 : decode cX3_part 0 = .ok (.aload_n 0, 1) := by decide +kernel
theorem dX3_part_1 : decode cX3_part 1 = .ok (.getfield 33, 3) := by decide +kernel
theorem dX3_part_4 : decode cX3_part 4 = .ok (.iload_n 1, 1) := by decide +kernel
theorem dX3_part_5 : decode cX3_part 5 = .ok (.iaload, 1) := by decide +kernel
theorem dX3_part_6 : decode cX3_part 6 = .ok (.istore_n 2, 1) := by decide +kernel
theorem dX3_part_7 : decode cX3_part 7 = .ok (.aload_n 0, 1) := by decide +kernel
theorem dX3_part_8 : decode cX3_part 8 = .ok (.getfield 33, 3) := by decide +kernel
theorem dX3_part_11 : decode cX3_part 11 = .ok (.iload_n 1, 1) := by decide +kernel
theorem dX3_part_12 : decode cX3_part 12 = .ok (.iconst (-1), 1) := by decide +kernel
theorem dX3_part_13 : decode cX3_part 13 = .ok (.iastore, 1) := by decide +kernel
theorem dX3_part_14 : decode cX3_part 14 = .ok (.aload_n 0, 1) := by decide +kernel
theorem dX3_part_15 : decode cX3_part 15 = .ok (.iload_n 2, 1) := by decide +kernel
theorem dX3_part_16 : decode cX3_part 16 = .ok (.invokevirtual 130, 3) := by decide +kernel
theorem dX3_part_19 : decode cX3_part 19 = .ok (.ifCond .eq 10, 3) := by decide +kernel
theorem dX3_part_22 : decode cX3_part 22 = .ok (.aload_n 0, 1) := by decide +kernel
theorem dX3_part_23 : decode cX3_part 23 = .ok (.getfield 33, 3) := by decide +kernel
theorem dX3_part_26 : decode cX3_part 26 = .ok (.iload_n 2, 1) := by decide +kernel
theorem dX3_part_27 : decode cX3_part 27 = .ok (.iconst (-1), 1) := by decide +kernel
theorem dX3_part_28 : decode cX3_part 28 = .ok (.iastore, 1) := by decide +kernel
theorem dX3_part_29 : decode cX3_part 29 = .ok (.iload_n 2, 1) := by decide +kernel
theorem dX3_part_30 : decode cX3_part 30 = .ok (.ireturn, 1) := by decide +kernel
theorem dX3_pairsIn_0 : decode cX3_pairsIn 0 = .ok (.iconst 0, 1) := by decide +kernel
theorem dX3_pairsIn_1 : decode cX3_pairsIn 1 = .ok (.istore_n 2, 1) := by decide +kernel
theorem dX3_pairsIn_2 : decode cX3_pairsIn 2 = .ok (.iconst 0, 1) := by decide +kernel
theorem dX3_pairsIn_3 : decode cX3_pairsIn 3 = .ok (.istore_n 3, 1) := by decide +kernel
theorem dX3_pairsIn_4 : decode cX3_pairsIn 4 = .ok (.iload_n 3, 1) := by decide +kernel
theorem dX3_pairsIn_5 : decode cX3_pairsIn 5 = .ok (.aload_n 0, 1) := by decide +kernel
theorem dX3_pairsIn_6 : decode cX3_pairsIn 6 = .ok (.getfield 45, 3) := by decide +kernel
theorem dX3_pairsIn_9 : decode cX3_pairsIn 9 = .ok (.if_icmp .ge 32, 3) := by decide +kernel
theorem dX3_pairsIn_12 : decode cX3_pairsIn 12 = .ok (.aload_n 0, 1) := by decide +kernel
theorem dX3_pairsIn_13 : decode cX3_pairsIn 13 = .ok (.iload_n 3, 1) := by decide +kernel
theorem dX3_pairsIn_14 : decode cX3_pairsIn 14 = .ok (.iconst 3, 1) := by decide +kernel
theorem dX3_pairsIn_15 : decode cX3_pairsIn 15 = .ok (.iload_n 1, 1) := by decide +kernel
theorem dX3_pairsIn_16 : decode cX3_pairsIn 16 = .ok (.invokevirtual 77, 3) := by decide +kernel
theorem dX3_pairsIn_19 : decode cX3_pairsIn 19 = .ok (.ifCond .eq 16, 3) := by decide +kernel
theorem dX3_pairsIn_22 : decode cX3_pairsIn 22 = .ok (.aload_n 0, 1) := by decide +kernel
theorem dX3_pairsIn_23 : decode cX3_pairsIn 23 = .ok (.getfield 33, 3) := by decide +kernel
theorem dX3_pairsIn_26 : decode cX3_pairsIn 26 = .ok (.iload_n 3, 1) := by decide +kernel
theorem dX3_pairsIn_27 : decode cX3_pairsIn 27 = .ok (.iaload, 1) := by decide +kernel
theorem dX3_pairsIn_28 : decode cX3_pairsIn 28 = .ok (.iconst (-1), 1) := by decide +kernel
theorem dX3_pairsIn_29 : decode cX3_pairsIn 29 = .ok (.if_icmp .eq 6, 3) := by decide +kernel
theorem dX3_pairsIn_32 : decode cX3_pairsIn 32 = .ok (.iinc 2 1, 3) := by decide +kernel
theorem dX3_pairsIn_35 : decode cX3_pairsIn 35 = .ok (.iinc 3 1, 3) := by decide +kernel
theorem dX3_pairsIn_38 : decode cX3_pairsIn 38 = .ok (.goto (-34), 3) := by decide +kernel
theorem dX3_pairsIn_41 : decode cX3_pairsIn 41 = .ok (.iload_n 2, 1) := by decide +kernel
theorem dX3_pairsIn_42 : decode cX3_pairsIn 42 = .ok (.iconst 2, 1) := by decide +kernel
theorem dX3_pairsIn_43 : decode cX3_pairsIn 43 = .ok (.idiv, 1) := by decide +kernel
theorem dX3_pairsIn_44 : decode cX3_pairsIn 44 = .ok (.ireturn, 1) := by decide +kernel
theorem dX3_isSingle_0 : decode cX3_isSingle 0 = .ok (.aload_n 0, 1) := by decide +kernel
theorem dX3_isSingle_1 : decode cX3_isSingle 1 = .ok (.iload_n 1, 1) := by decide +kernel
theorem dX3_isSingle_2 : decode cX3_isSingle 2 = .ok (.iconst 3, 1) := by decide +kernel
theorem dX3_isSingle_3 : decode cX3_isSingle 3 = .ok (.iload_n 2, 1) := by decide +kernel
theorem dX3_isSingle_4 : decode cX3_isSingle 4 = .ok (.invokevirtual 77, 3) := by decide +kernel
theorem dX3_isSingle_7 : decode cX3_isSingle 7 = .ok (.ifCond .eq 17, 3) := by decide +kernel
theorem dX3_isSingle_10 : decode cX3_isSingle 10 = .ok (.aload_n 0, 1) := by decide +kernel
theorem dX3_isSingle_11 : decode cX3_isSingle 11 = .ok (.getfield 33, 3) := by decide +kernel
theorem dX3_isSingle_14 : decode cX3_isSingle 14 = .ok (.iload_n 1, 1) := by decide +kernel
theorem dX3_isSingle_15 : decode cX3_isSingle 15 = .ok (.iaload, 1) := by decide +kernel
theorem dX3_isSingle_16 : decode cX3_isSingle 16 = .ok (.iconst (-1), 1) := by decide +kernel
theorem dX3_isSingle_17 : decode cX3_isSingle 17 = .ok (.if_icmp .ne 7, 3) := by decide +kernel
theorem dX3_isSingle_20 : decode cX3_isSingle 20 = .ok (.iconst 1, 1) := by decide +kernel
theorem dX3_isSingle_21 : decode cX3_isSingle 21 = .ok (.goto 4, 3) := by decide +kernel
theorem dX3_isSingle_24 : decode cX3_isSingle 24 = .ok (.iconst 0, 1) := by decide +kernel
theorem dX3_isSingle_25 : decode cX3_isSingle 25 = .ok (.ireturn, 1) := by decide +kernel
theorem dX3_pairsByTrying_0 : decode cX3_pairsByTrying 0 = .ok (.iconst 0, 1) := by decide +kernel
theorem dX3_pairsByTrying_1 : decode cX3_pairsByTrying 1 = .ok (.istore_n 2, 1) := by decide +kernel
theorem dX3_pairsByTrying_2 : decode cX3_pairsByTrying 2 = .ok (.iconst 0, 1) := by decide +kernel
theorem dX3_pairsByTrying_3 : decode cX3_pairsByTrying 3 = .ok (.istore_n 3, 1) := by decide +kernel
theorem dX3_pairsByTrying_4 : decode cX3_pairsByTrying 4 = .ok (.iload_n 3, 1) := by decide +kernel
theorem dX3_pairsByTrying_5 : decode cX3_pairsByTrying 5 = .ok (.aload_n 0, 1) := by decide +kernel
theorem dX3_pairsByTrying_6 : decode cX3_pairsByTrying 6 = .ok (.getfield 45, 3) := by decide +kernel
theorem dX3_pairsByTrying_9 : decode cX3_pairsByTrying 9 = .ok (.if_icmp .ge 24, 3) := by decide +kernel
theorem dX3_pairsByTrying_12 : decode cX3_pairsByTrying 12 = .ok (.aload_n 0, 1) := by decide +kernel
theorem dX3_pairsByTrying_13 : decode cX3_pairsByTrying 13 = .ok (.iload_n 3, 1) := by decide +kernel
theorem dX3_pairsByTrying_14 : decode cX3_pairsByTrying 14 = .ok (.iload_n 1, 1) := by decide +kernel
theorem dX3_pairsByTrying_15 : decode cX3_pairsByTrying 15 = .ok (.invokevirtual 133, 3) := by decide +kernel
theorem dX3_pairsByTrying_18 : decode cX3_pairsByTrying 18 = .ok (.ifCond .eq 9, 3) := by decide +kernel
theorem dX3_pairsByTrying_21 : decode cX3_pairsByTrying 21 = .ok (.iload_n 2, 1) := by decide +kernel
theorem dX3_pairsByTrying_22 : decode cX3_pairsByTrying 22 = .ok (.iconst 1, 1) := by decide +kernel
theorem dX3_pairsByTrying_23 : decode cX3_pairsByTrying 23 = .ok (.iload_n 3, 1) := by decide +kernel
theorem dX3_pairsByTrying_24 : decode cX3_pairsByTrying 24 = .ok (.ishl, 1) := by decide +kernel
theorem dX3_pairsByTrying_25 : decode cX3_pairsByTrying 25 = .ok (.ior, 1) := by decide +kernel
theorem dX3_pairsByTrying_26 : decode cX3_pairsByTrying 26 = .ok (.istore_n 2, 1) := by decide +kernel
theorem dX3_pairsByTrying_27 : decode cX3_pairsByTrying 27 = .ok (.iinc 3 1, 3) := by decide +kernel
theorem dX3_pairsByTrying_30 : decode cX3_pairsByTrying 30 = .ok (.goto (-26), 3) := by decide +kernel
theorem dX3_pairsByTrying_33 : decode cX3_pairsByTrying 33 = .ok (.aload_n 0, 1) := by decide +kernel
theorem dX3_pairsByTrying_34 : decode cX3_pairsByTrying 34 = .ok (.iload_n 2, 1) := by decide +kernel
theorem dX3_pairsByTrying_35 : decode cX3_pairsByTrying 35 = .ok (.iconst 0, 1) := by decide +kernel
theorem dX3_pairsByTrying_36 : decode cX3_pairsByTrying 36 = .ok (.invokestatic 136, 3) := by decide +kernel
theorem dX3_pairsByTrying_39 : decode cX3_pairsByTrying 39 = .ok (.ireturn, 1) := by decide +kernel
theorem dX3_mostPairs_0 : decode cX3_mostPairs 0 = .ok (.iload_n 2, 1) := by decide +kernel
theorem dX3_mostPairs_1 : decode cX3_mostPairs 1 = .ok (.aload_n 0, 1) := by decide +kernel
theorem dX3_mostPairs_2 : decode cX3_mostPairs 2 = .ok (.getfield 45, 3) := by decide +kernel
theorem dX3_mostPairs_5 : decode cX3_mostPairs 5 = .ok (.if_icmp .lt 5, 3) := by decide +kernel
theorem dX3_mostPairs_8 : decode cX3_mostPairs 8 = .ok (.iconst 0, 1) := by decide +kernel
theorem dX3_mostPairs_9 : decode cX3_mostPairs 9 = .ok (.ireturn, 1) := by decide +kernel
theorem dX3_mostPairs_10 : decode cX3_mostPairs 10 = .ok (.iload_n 1, 1) := by decide +kernel
theorem dX3_mostPairs_11 : decode cX3_mostPairs 11 = .ok (.iload_n 2, 1) := by decide +kernel
theorem dX3_mostPairs_12 : decode cX3_mostPairs 12 = .ok (.invokestatic 92, 3) := by decide +kernel
theorem dX3_mostPairs_15 : decode cX3_mostPairs 15 = .ok (.ifCond .ne 12, 3) := by decide +kernel
theorem dX3_mostPairs_18 : decode cX3_mostPairs 18 = .ok (.aload_n 0, 1) := by decide +kernel
theorem dX3_mostPairs_19 : decode cX3_mostPairs 19 = .ok (.iload_n 1, 1) := by decide +kernel
theorem dX3_mostPairs_20 : decode cX3_mostPairs 20 = .ok (.iload_n 2, 1) := by decide +kernel
theorem dX3_mostPairs_21 : decode cX3_mostPairs 21 = .ok (.iconst 1, 1) := by decide +kernel
theorem dX3_mostPairs_22 : decode cX3_mostPairs 22 = .ok (.iadd, 1) := by decide +kernel
theorem dX3_mostPairs_23 : decode cX3_mostPairs 23 = .ok (.invokestatic 136, 3) := by decide +kernel
theorem dX3_mostPairs_26 : decode cX3_mostPairs 26 = .ok (.ireturn, 1) := by decide +kernel
theorem dX3_mostPairs_27 : decode cX3_mostPairs 27 = .ok (.iload_n 1, 1) := by decide +kernel
theorem dX3_mostPairs_28 : decode cX3_mostPairs 28 = .ok (.iconst 1, 1) := by decide +kernel
theorem dX3_mostPairs_29 : decode cX3_mostPairs 29 = .ok (.iload_n 2, 1) := by decide +kernel
theorem dX3_mostPairs_30 : decode cX3_mostPairs 30 = .ok (.ishl, 1) := by decide +kernel
theorem dX3_mostPairs_31 : decode cX3_mostPairs 31 = .ok (.iconst (-1), 1) := by decide +kernel
theorem dX3_mostPairs_32 : decode cX3_mostPairs 32 = .ok (.ixor, 1) := by decide +kernel
theorem dX3_mostPairs_33 : decode cX3_mostPairs 33 = .ok (.iand, 1) := by decide +kernel
theorem dX3_mostPairs_34 : decode cX3_mostPairs 34 = .ok (.istore_n 3, 1) := by decide +kernel
theorem dX3_mostPairs_35 : decode cX3_mostPairs 35 = .ok (.iload_n 1, 1) := by decide +kernel
theorem dX3_mostPairs_36 : decode cX3_mostPairs 36 = .ok (.invokestatic 140, 3) := by decide +kernel
theorem dX3_mostPairs_39 : decode cX3_mostPairs 39 = .ok (.iconst 2, 1) := by decide +kernel
theorem dX3_mostPairs_40 : decode cX3_mostPairs 40 = .ok (.idiv, 1) := by decide +kernel
theorem dX3_mostPairs_41 : decode cX3_mostPairs 41 = .ok (.istore 4, 2) := by decide +kernel
theorem dX3_mostPairs_43 : decode cX3_mostPairs 43 = .ok (.aload_n 0, 1) := by decide +kernel
theorem dX3_mostPairs_44 : decode cX3_mostPairs 44 = .ok (.iload_n 3, 1) := by decide +kernel
theorem dX3_mostPairs_45 : decode cX3_mostPairs 45 = .ok (.iload_n 2, 1) := by decide +kernel
theorem dX3_mostPairs_46 : decode cX3_mostPairs 46 = .ok (.iconst 1, 1) := by decide +kernel
theorem dX3_mostPairs_47 : decode cX3_mostPairs 47 = .ok (.iadd, 1) := by decide +kernel
theorem dX3_mostPairs_48 : decode cX3_mostPairs 48 = .ok (.invokestatic 136, 3) := by decide +kernel
theorem dX3_mostPairs_51 : decode cX3_mostPairs 51 = .ok (.istore 5, 2) := by decide +kernel
theorem dX3_mostPairs_53 : decode cX3_mostPairs 53 = .ok (.iload_n 2, 1) := by decide +kernel
theorem dX3_mostPairs_54 : decode cX3_mostPairs 54 = .ok (.iconst 1, 1) := by decide +kernel
theorem dX3_mostPairs_55 : decode cX3_mostPairs 55 = .ok (.iadd, 1) := by decide +kernel
theorem dX3_mostPairs_56 : decode cX3_mostPairs 56 = .ok (.istore 6, 2) := by decide +kernel
theorem dX3_mostPairs_58 : decode cX3_mostPairs 58 = .ok (.iload 6, 2) := by decide +kernel
theorem dX3_mostPairs_60 : decode cX3_mostPairs 60 = .ok (.aload_n 0, 1) := by decide +kernel
theorem dX3_mostPairs_61 : decode cX3_mostPairs 61 = .ok (.getfield 45, 3) := by decide +kernel
theorem dX3_mostPairs_64 : decode cX3_mostPairs 64 = .ok (.if_icmp .ge 59, 3) := by decide +kernel
theorem dX3_mostPairs_67 : decode cX3_mostPairs 67 = .ok (.iload 5, 2) := by decide +kernel
theorem dX3_mostPairs_69 : decode cX3_mostPairs 69 = .ok (.iload 4, 2) := by decide +kernel
theorem dX3_mostPairs_71 : decode cX3_mostPairs 71 = .ok (.if_icmp .ge 52, 3) := by decide +kernel
theorem dX3_mostPairs_74 : decode cX3_mostPairs 74 = .ok (.iload_n 3, 1) := by decide +kernel
theorem dX3_mostPairs_75 : decode cX3_mostPairs 75 = .ok (.iload 6, 2) := by decide +kernel
theorem dX3_mostPairs_77 : decode cX3_mostPairs 77 = .ok (.invokestatic 92, 3) := by decide +kernel
theorem dX3_mostPairs_80 : decode cX3_mostPairs 80 = .ok (.ifCond .eq 37, 3) := by decide +kernel
theorem dX3_mostPairs_83 : decode cX3_mostPairs 83 = .ok (.aload_n 0, 1) := by decide +kernel
theorem dX3_mostPairs_84 : decode cX3_mostPairs 84 = .ok (.iload_n 2, 1) := by decide +kernel
theorem dX3_mostPairs_85 : decode cX3_mostPairs 85 = .ok (.iload 6, 2) := by decide +kernel
theorem dX3_mostPairs_87 : decode cX3_mostPairs 87 = .ok (.invokevirtual 145, 3) := by decide +kernel
theorem dX3_mostPairs_90 : decode cX3_mostPairs 90 = .ok (.ifCond .eq 27, 3) := by decide +kernel
theorem dX3_mostPairs_93 : decode cX3_mostPairs 93 = .ok (.iload 5, 2) := by decide +kernel
theorem dX3_mostPairs_95 : decode cX3_mostPairs 95 = .ok (.iconst 1, 1) := by decide +kernel
theorem dX3_mostPairs_96 : decode cX3_mostPairs 96 = .ok (.aload_n 0, 1) := by decide +kernel
theorem dX3_mostPairs_97 : decode cX3_mostPairs 97 = .ok (.iload_n 3, 1) := by decide +kernel
theorem dX3_mostPairs_98 : decode cX3_mostPairs 98 = .ok (.iconst 1, 1) := by decide +kernel
theorem dX3_mostPairs_99 : decode cX3_mostPairs 99 = .ok (.iload 6, 2) := by decide +kernel
theorem dX3_mostPairs_101 : decode cX3_mostPairs 101 = .ok (.ishl, 1) := by decide +kernel
theorem dX3_mostPairs_102 : decode cX3_mostPairs 102 = .ok (.iconst (-1), 1) := by decide +kernel
theorem dX3_mostPairs_103 : decode cX3_mostPairs 103 = .ok (.ixor, 1) := by decide +kernel
theorem dX3_mostPairs_104 : decode cX3_mostPairs 104 = .ok (.iand, 1) := by decide +kernel
theorem dX3_mostPairs_105 : decode cX3_mostPairs 105 = .ok (.iload_n 2, 1) := by decide +kernel
theorem dX3_mostPairs_106 : decode cX3_mostPairs 106 = .ok (.iconst 1, 1) := by decide +kernel
theorem dX3_mostPairs_107 : decode cX3_mostPairs 107 = .ok (.iadd, 1) := by decide +kernel
theorem dX3_mostPairs_108 : decode cX3_mostPairs 108 = .ok (.invokestatic 136, 3) := by decide +kernel
theorem dX3_mostPairs_111 : decode cX3_mostPairs 111 = .ok (.iadd, 1) := by decide +kernel
theorem dX3_mostPairs_112 : decode cX3_mostPairs 112 = .ok (.invokestatic 115, 3) := by decide +kernel
theorem dX3_mostPairs_115 : decode cX3_mostPairs 115 = .ok (.istore 5, 2) := by decide +kernel
theorem dX3_mostPairs_117 : decode cX3_mostPairs 117 = .ok (.iinc 6 1, 3) := by decide +kernel
theorem dX3_mostPairs_120 : decode cX3_mostPairs 120 = .ok (.goto (-62), 3) := by decide +kernel
theorem dX3_mostPairs_123 : decode cX3_mostPairs 123 = .ok (.iload 5, 2) := by decide +kernel
theorem dX3_mostPairs_125 : decode cX3_mostPairs 125 = .ok (.ireturn, 1) := by decide +kernel
theorem dX3_pairsByCounting_0 : decode cX3_pairsByCounting 0 = .ok (.iconst 0, 1) := by decide +kernel
theorem dX3_pairsByCounting_1 : decode cX3_pairsByCounting 1 = .ok (.istore_n 2, 1) := by decide +kernel
theorem dX3_pairsByCounting_2 : decode cX3_pairsByCounting 2 = .ok (.iconst 1, 1) := by decide +kernel
theorem dX3_pairsByCounting_3 : decode cX3_pairsByCounting 3 = .ok (.istore_n 3, 1) := by decide +kernel
theorem dX3_pairsByCounting_4 : decode cX3_pairsByCounting 4 = .ok (.iload_n 3, 1) := by decide +kernel
theorem dX3_pairsByCounting_5 : decode cX3_pairsByCounting 5 = .ok (.bipush 9, 2) := by decide +kernel
theorem dX3_pairsByCounting_7 : decode cX3_pairsByCounting 7 = .ok (.if_icmp .gt 18, 3) := by decide +kernel
theorem dX3_pairsByCounting_10 : decode cX3_pairsByCounting 10 = .ok (.iload_n 2, 1) := by decide +kernel
theorem dX3_pairsByCounting_11 : decode cX3_pairsByCounting 11 = .ok (.aload_n 0, 1) := by decide +kernel
theorem dX3_pairsByCounting_12 : decode cX3_pairsByCounting 12 = .ok (.iload_n 1, 1) := by decide +kernel
theorem dX3_pairsByCounting_13 : decode cX3_pairsByCounting 13 = .ok (.iload_n 3, 1) := by decide +kernel
theorem dX3_pairsByCounting_14 : decode cX3_pairsByCounting 14 = .ok (.invokevirtual 148, 3) := by decide +kernel
theorem dX3_pairsByCounting_17 : decode cX3_pairsByCounting 17 = .ok (.iadd, 1) := by decide +kernel
theorem dX3_pairsByCounting_18 : decode cX3_pairsByCounting 18 = .ok (.istore_n 2, 1) := by decide +kernel
theorem dX3_pairsByCounting_19 : decode cX3_pairsByCounting 19 = .ok (.iinc 3 1, 3) := by decide +kernel
theorem dX3_pairsByCounting_22 : decode cX3_pairsByCounting 22 = .ok (.goto (-18), 3) := by decide +kernel
theorem dX3_pairsByCounting_25 : decode cX3_pairsByCounting 25 = .ok (.iload_n 2, 1) := by decide +kernel
theorem dX3_pairsByCounting_26 : decode cX3_pairsByCounting 26 = .ok (.ireturn, 1) := by decide +kernel
theorem dX3_pairsOfSize_0 : decode cX3_pairsOfSize 0 = .ok (.iconst 0, 1) := by decide +kernel
theorem dX3_pairsOfSize_1 : decode cX3_pairsOfSize 1 = .ok (.istore_n 3, 1) := by decide +kernel
theorem dX3_pairsOfSize_2 : decode cX3_pairsOfSize 2 = .ok (.iconst 0, 1) := by decide +kernel
theorem dX3_pairsOfSize_3 : decode cX3_pairsOfSize 3 = .ok (.istore 4, 2) := by decide +kernel
theorem dX3_pairsOfSize_5 : decode cX3_pairsOfSize 5 = .ok (.iconst 0, 1) := by decide +kernel
theorem dX3_pairsOfSize_6 : decode cX3_pairsOfSize 6 = .ok (.istore 5, 2) := by decide +kernel
theorem dX3_pairsOfSize_8 : decode cX3_pairsOfSize 8 = .ok (.iload 5, 2) := by decide +kernel
theorem dX3_pairsOfSize_10 : decode cX3_pairsOfSize 10 = .ok (.ldc 84, 2) := by decide +kernel
theorem dX3_pairsOfSize_12 : decode cX3_pairsOfSize 12 = .ok (.invokevirtual 151, 3) := by decide +kernel
theorem dX3_pairsOfSize_15 : decode cX3_pairsOfSize 15 = .ok (.if_icmp .ge 52, 3) := by decide +kernel
theorem dX3_pairsOfSize_18 : decode cX3_pairsOfSize 18 = .ok (.ldc 84, 2) := by decide +kernel
theorem dX3_pairsOfSize_20 : decode cX3_pairsOfSize 20 = .ok (.iload 5, 2) := by decide +kernel
theorem dX3_pairsOfSize_22 : decode cX3_pairsOfSize 22 = .ok (.invokevirtual 155, 3) := by decide +kernel
theorem dX3_pairsOfSize_25 : decode cX3_pairsOfSize 25 = .ok (.bipush 119, 2) := by decide +kernel
theorem dX3_pairsOfSize_27 : decode cX3_pairsOfSize 27 = .ok (.if_icmp .eq 34, 3) := by decide +kernel
theorem dX3_pairsOfSize_30 : decode cX3_pairsOfSize 30 = .ok (.aload_n 0, 1) := by decide +kernel
theorem dX3_pairsOfSize_31 : decode cX3_pairsOfSize 31 = .ok (.iload_n 1, 1) := by decide +kernel
theorem dX3_pairsOfSize_32 : decode cX3_pairsOfSize 32 = .ok (.iload_n 2, 1) := by decide +kernel
theorem dX3_pairsOfSize_33 : decode cX3_pairsOfSize 33 = .ok (.ldc 84, 2) := by decide +kernel
theorem dX3_pairsOfSize_35 : decode cX3_pairsOfSize 35 = .ok (.iload 5, 2) := by decide +kernel
theorem dX3_pairsOfSize_37 : decode cX3_pairsOfSize 37 = .ok (.invokevirtual 155, 3) := by decide +kernel
theorem dX3_pairsOfSize_40 : decode cX3_pairsOfSize 40 = .ok (.invokevirtual 158, 3) := by decide +kernel
theorem dX3_pairsOfSize_43 : decode cX3_pairsOfSize 43 = .ok (.istore 6, 2) := by decide +kernel
theorem dX3_pairsOfSize_45 : decode cX3_pairsOfSize 45 = .ok (.iload_n 3, 1) := by decide +kernel
theorem dX3_pairsOfSize_46 : decode cX3_pairsOfSize 46 = .ok (.iload 6, 2) := by decide +kernel
theorem dX3_pairsOfSize_48 : decode cX3_pairsOfSize 48 = .ok (.iconst 2, 1) := by decide +kernel
theorem dX3_pairsOfSize_49 : decode cX3_pairsOfSize 49 = .ok (.idiv, 1) := by decide +kernel
theorem dX3_pairsOfSize_50 : decode cX3_pairsOfSize 50 = .ok (.iadd, 1) := by decide +kernel
theorem dX3_pairsOfSize_51 : decode cX3_pairsOfSize 51 = .ok (.istore_n 3, 1) := by decide +kernel
theorem dX3_pairsOfSize_52 : decode cX3_pairsOfSize 52 = .ok (.iload 4, 2) := by decide +kernel
theorem dX3_pairsOfSize_54 : decode cX3_pairsOfSize 54 = .ok (.iload 6, 2) := by decide +kernel
theorem dX3_pairsOfSize_56 : decode cX3_pairsOfSize 56 = .ok (.iconst 2, 1) := by decide +kernel
theorem dX3_pairsOfSize_57 : decode cX3_pairsOfSize 57 = .ok (.irem, 1) := by decide +kernel
theorem dX3_pairsOfSize_58 : decode cX3_pairsOfSize 58 = .ok (.iadd, 1) := by decide +kernel
theorem dX3_pairsOfSize_59 : decode cX3_pairsOfSize 59 = .ok (.istore 4, 2) := by decide +kernel
theorem dX3_pairsOfSize_61 : decode cX3_pairsOfSize 61 = .ok (.iinc 5 1, 3) := by decide +kernel
theorem dX3_pairsOfSize_64 : decode cX3_pairsOfSize 64 = .ok (.goto (-56), 3) := by decide +kernel
theorem dX3_pairsOfSize_67 : decode cX3_pairsOfSize 67 = .ok (.aload_n 0, 1) := by decide +kernel
theorem dX3_pairsOfSize_68 : decode cX3_pairsOfSize 68 = .ok (.iload_n 1, 1) := by decide +kernel
theorem dX3_pairsOfSize_69 : decode cX3_pairsOfSize 69 = .ok (.iload_n 2, 1) := by decide +kernel
theorem dX3_pairsOfSize_70 : decode cX3_pairsOfSize 70 = .ok (.bipush 119, 2) := by decide +kernel
theorem dX3_pairsOfSize_72 : decode cX3_pairsOfSize 72 = .ok (.invokevirtual 158, 3) := by decide +kernel
theorem dX3_pairsOfSize_75 : decode cX3_pairsOfSize 75 = .ok (.istore 5, 2) := by decide +kernel
theorem dX3_pairsOfSize_77 : decode cX3_pairsOfSize 77 = .ok (.iload 4, 2) := by decide +kernel
theorem dX3_pairsOfSize_79 : decode cX3_pairsOfSize 79 = .ok (.iload 5, 2) := by decide +kernel
theorem dX3_pairsOfSize_81 : decode cX3_pairsOfSize 81 = .ok (.invokestatic 65, 3) := by decide +kernel
theorem dX3_pairsOfSize_84 : decode cX3_pairsOfSize 84 = .ok (.istore 6, 2) := by decide +kernel
theorem dX3_pairsOfSize_86 : decode cX3_pairsOfSize 86 = .ok (.iload_n 3, 1) := by decide +kernel
theorem dX3_pairsOfSize_87 : decode cX3_pairsOfSize 87 = .ok (.iload 6, 2) := by decide +kernel
theorem dX3_pairsOfSize_89 : decode cX3_pairsOfSize 89 = .ok (.iadd, 1) := by decide +kernel
theorem dX3_pairsOfSize_90 : decode cX3_pairsOfSize 90 = .ok (.iload 5, 2) := by decide +kernel
theorem dX3_pairsOfSize_92 : decode cX3_pairsOfSize 92 = .ok (.iload 6, 2) := by decide +kernel
theorem dX3_pairsOfSize_94 : decode cX3_pairsOfSize 94 = .ok (.isub, 1) := by decide +kernel
theorem dX3_pairsOfSize_95 : decode cX3_pairsOfSize 95 = .ok (.iconst 2, 1) := by decide +kernel
theorem dX3_pairsOfSize_96 : decode cX3_pairsOfSize 96 = .ok (.idiv, 1) := by decide +kernel
theorem dX3_pairsOfSize_97 : decode cX3_pairsOfSize 97 = .ok (.iadd, 1) := by decide +kernel
theorem dX3_pairsOfSize_98 : decode cX3_pairsOfSize 98 = .ok (.ireturn, 1) := by decide +kernel
theorem dX3_singles_0 : decode cX3_singles 0 = .ok (.iconst 0, 1) := by decide +kernel
theorem dX3_singles_1 : decode cX3_singles 1 = .ok (.istore 4, 2) := by decide +kernel
theorem dX3_singles_3 : decode cX3_singles 3 = .ok (.iconst 0, 1) := by decide +kernel
theorem dX3_singles_4 : decode cX3_singles 4 = .ok (.istore 5, 2) := by decide +kernel
theorem dX3_singles_6 : decode cX3_singles 6 = .ok (.iload 5, 2) := by decide +kernel
theorem dX3_singles_8 : decode cX3_singles 8 = .ok (.aload_n 0, 1) := by decide +kernel
theorem dX3_singles_9 : decode cX3_singles 9 = .ok (.getfield 45, 3) := by decide +kernel
theorem dX3_singles_12 : decode cX3_singles 12 = .ok (.if_icmp .ge 44, 3) := by decide +kernel
theorem dX3_singles_15 : decode cX3_singles 15 = .ok (.aload_n 0, 1) := by decide +kernel
theorem dX3_singles_16 : decode cX3_singles 16 = .ok (.iload 5, 2) := by decide +kernel
theorem dX3_singles_18 : decode cX3_singles 18 = .ok (.iload_n 1, 1) := by decide +kernel
theorem dX3_singles_19 : decode cX3_singles 19 = .ok (.invokevirtual 133, 3) := by decide +kernel
theorem dX3_singles_22 : decode cX3_singles 22 = .ok (.ifCond .eq 28, 3) := by decide +kernel
theorem dX3_singles_25 : decode cX3_singles 25 = .ok (.aload_n 0, 1) := by decide +kernel
theorem dX3_singles_26 : decode cX3_singles 26 = .ok (.getfield 15, 3) := by decide +kernel
theorem dX3_singles_29 : decode cX3_singles 29 = .ok (.iload 5, 2) := by decide +kernel
theorem dX3_singles_31 : decode cX3_singles 31 = .ok (.iaload, 1) := by decide +kernel
theorem dX3_singles_32 : decode cX3_singles 32 = .ok (.iload_n 2, 1) := by decide +kernel
theorem dX3_singles_33 : decode cX3_singles 33 = .ok (.if_icmp .ne 17, 3) := by decide +kernel
theorem dX3_singles_36 : decode cX3_singles 36 = .ok (.aload_n 0, 1) := by decide +kernel
theorem dX3_singles_37 : decode cX3_singles 37 = .ok (.getfield 9, 3) := by decide +kernel
theorem dX3_singles_40 : decode cX3_singles 40 = .ok (.iload 5, 2) := by decide +kernel
theorem dX3_singles_42 : decode cX3_singles 42 = .ok (.iaload, 1) := by decide +kernel
theorem dX3_singles_43 : decode cX3_singles 43 = .ok (.iload_n 3, 1) := by decide +kernel
theorem dX3_singles_44 : decode cX3_singles 44 = .ok (.if_icmp .ne 6, 3) := by decide +kernel
theorem dX3_singles_47 : decode cX3_singles 47 = .ok (.iinc 4 1, 3) := by decide +kernel
theorem dX3_singles_50 : decode cX3_singles 50 = .ok (.iinc 5 1, 3) := by decide +kernel
theorem dX3_singles_53 : decode cX3_singles 53 = .ok (.goto (-47), 3) := by decide +kernel
theorem dX3_singles_56 : decode cX3_singles 56 = .ok (.iload 4, 2) := by decide +kernel
theorem dX3_singles_58 : decode cX3_singles 58 = .ok (.ireturn, 1) := by decide +kernel
theorem dX3_countsAgree_0 : decode cX3_countsAgree 0 = .ok (.iconst 0, 1) := by decide +kernel
theorem dX3_countsAgree_1 : decode cX3_countsAgree 1 = .ok (.istore_n 1, 1) := by decide +kernel
theorem dX3_countsAgree_2 : decode cX3_countsAgree 2 = .ok (.iload_n 1, 1) := by decide +kernel
theorem dX3_countsAgree_3 : decode cX3_countsAgree 3 = .ok (.iconst 5, 1) := by decide +kernel
theorem dX3_countsAgree_4 : decode cX3_countsAgree 4 = .ok (.if_icmp .ge 24, 3) := by decide +kernel
theorem dX3_countsAgree_7 : decode cX3_countsAgree 7 = .ok (.aload_n 0, 1) := by decide +kernel
theorem dX3_countsAgree_8 : decode cX3_countsAgree 8 = .ok (.iload_n 1, 1) := by decide +kernel
theorem dX3_countsAgree_9 : decode cX3_countsAgree 9 = .ok (.invokevirtual 162, 3) := by decide +kernel
theorem dX3_countsAgree_12 : decode cX3_countsAgree 12 = .ok (.aload_n 0, 1) := by decide +kernel
theorem dX3_countsAgree_13 : decode cX3_countsAgree 13 = .ok (.iload_n 1, 1) := by decide +kernel
theorem dX3_countsAgree_14 : decode cX3_countsAgree 14 = .ok (.invokevirtual 165, 3) := by decide +kernel
theorem dX3_countsAgree_17 : decode cX3_countsAgree 17 = .ok (.if_icmp .eq 5, 3) := by decide +kernel
theorem dX3_countsAgree_20 : decode cX3_countsAgree 20 = .ok (.iconst 0, 1) := by decide +kernel
theorem dX3_countsAgree_21 : decode cX3_countsAgree 21 = .ok (.ireturn, 1) := by decide +kernel
theorem dX3_countsAgree_22 : decode cX3_countsAgree 22 = .ok (.iinc 1 1, 3) := by decide +kernel
theorem dX3_countsAgree_25 : decode cX3_countsAgree 25 = .ok (.goto (-23), 3) := by decide +kernel
theorem dX3_countsAgree_28 : decode cX3_countsAgree 28 = .ok (.iconst 1, 1) := by decide +kernel
theorem dX3_countsAgree_29 : decode cX3_countsAgree 29 = .ok (.ireturn, 1) := by decide +kernel
theorem dX3_pairsAreSound_0 : decode cX3_pairsAreSound 0 = .ok (.iconst 0, 1) := by decide +kernel
theorem dX3_pairsAreSound_1 : decode cX3_pairsAreSound 1 = .ok (.istore_n 1, 1) := by decide +kernel
theorem dX3_pairsAreSound_2 : decode cX3_pairsAreSound 2 = .ok (.iload_n 1, 1) := by decide +kernel
theorem dX3_pairsAreSound_3 : decode cX3_pairsAreSound 3 = .ok (.aload_n 0, 1) := by decide +kernel
theorem dX3_pairsAreSound_4 : decode cX3_pairsAreSound 4 = .ok (.getfield 45, 3) := by decide +kernel
theorem dX3_pairsAreSound_7 : decode cX3_pairsAreSound 7 = .ok (.if_icmp .ge 35, 3) := by decide +kernel
theorem dX3_pairsAreSound_10 : decode cX3_pairsAreSound 10 = .ok (.aload_n 0, 1) := by decide +kernel
theorem dX3_pairsAreSound_11 : decode cX3_pairsAreSound 11 = .ok (.getfield 33, 3) := by decide +kernel
theorem dX3_pairsAreSound_14 : decode cX3_pairsAreSound 14 = .ok (.iload_n 1, 1) := by decide +kernel
theorem dX3_pairsAreSound_15 : decode cX3_pairsAreSound 15 = .ok (.iaload, 1) := by decide +kernel
theorem dX3_pairsAreSound_16 : decode cX3_pairsAreSound 16 = .ok (.iconst (-1), 1) := by decide +kernel
theorem dX3_pairsAreSound_17 : decode cX3_pairsAreSound 17 = .ok (.if_icmp .eq 19, 3) := by decide +kernel
theorem dX3_pairsAreSound_20 : decode cX3_pairsAreSound 20 = .ok (.aload_n 0, 1) := by decide +kernel
theorem dX3_pairsAreSound_21 : decode cX3_pairsAreSound 21 = .ok (.iload_n 1, 1) := by decide +kernel
theorem dX3_pairsAreSound_22 : decode cX3_pairsAreSound 22 = .ok (.aload_n 0, 1) := by decide +kernel
theorem dX3_pairsAreSound_23 : decode cX3_pairsAreSound 23 = .ok (.getfield 33, 3) := by decide +kernel
theorem dX3_pairsAreSound_26 : decode cX3_pairsAreSound 26 = .ok (.iload_n 1, 1) := by decide +kernel
theorem dX3_pairsAreSound_27 : decode cX3_pairsAreSound 27 = .ok (.iaload, 1) := by decide +kernel
theorem dX3_pairsAreSound_28 : decode cX3_pairsAreSound 28 = .ok (.invokevirtual 168, 3) := by decide +kernel
theorem dX3_pairsAreSound_31 : decode cX3_pairsAreSound 31 = .ok (.ifCond .ne 5, 3) := by decide +kernel
theorem dX3_pairsAreSound_34 : decode cX3_pairsAreSound 34 = .ok (.iconst 0, 1) := by decide +kernel
theorem dX3_pairsAreSound_35 : decode cX3_pairsAreSound 35 = .ok (.ireturn, 1) := by decide +kernel
theorem dX3_pairsAreSound_36 : decode cX3_pairsAreSound 36 = .ok (.iinc 1 1, 3) := by decide +kernel
theorem dX3_pairsAreSound_39 : decode cX3_pairsAreSound 39 = .ok (.goto (-37), 3) := by decide +kernel
theorem dX3_pairsAreSound_42 : decode cX3_pairsAreSound 42 = .ok (.iconst 1, 1) := by decide +kernel
theorem dX3_pairsAreSound_43 : decode cX3_pairsAreSound 43 = .ok (.ireturn, 1) := by decide +kernel
theorem dX3_isSoundPair_0 : decode cX3_isSoundPair 0 = .ok (.aload_n 0, 1) := by decide +kernel
theorem dX3_isSoundPair_1 : decode cX3_isSoundPair 1 = .ok (.iload_n 2, 1) := by decide +kernel
theorem dX3_isSoundPair_2 : decode cX3_isSoundPair 2 = .ok (.invokevirtual 130, 3) := by decide +kernel
theorem dX3_isSoundPair_5 : decode cX3_isSoundPair 5 = .ok (.ifCond .eq 51, 3) := by decide +kernel
theorem dX3_isSoundPair_8 : decode cX3_isSoundPair 8 = .ok (.aload_n 0, 1) := by decide +kernel
theorem dX3_isSoundPair_9 : decode cX3_isSoundPair 9 = .ok (.getfield 33, 3) := by decide +kernel
theorem dX3_isSoundPair_12 : decode cX3_isSoundPair 12 = .ok (.iload_n 2, 1) := by decide +kernel
theorem dX3_isSoundPair_13 : decode cX3_isSoundPair 13 = .ok (.iaload, 1) := by decide +kernel
theorem dX3_isSoundPair_14 : decode cX3_isSoundPair 14 = .ok (.iload_n 1, 1) := by decide +kernel
theorem dX3_isSoundPair_15 : decode cX3_isSoundPair 15 = .ok (.if_icmp .ne 41, 3) := by decide +kernel
theorem dX3_isSoundPair_18 : decode cX3_isSoundPair 18 = .ok (.aload_n 0, 1) := by decide +kernel
theorem dX3_isSoundPair_19 : decode cX3_isSoundPair 19 = .ok (.iload_n 1, 1) := by decide +kernel
theorem dX3_isSoundPair_20 : decode cX3_isSoundPair 20 = .ok (.iload_n 2, 1) := by decide +kernel
theorem dX3_isSoundPair_21 : decode cX3_isSoundPair 21 = .ok (.invokevirtual 145, 3) := by decide +kernel
theorem dX3_isSoundPair_24 : decode cX3_isSoundPair 24 = .ok (.ifCond .eq 32, 3) := by decide +kernel
theorem dX3_isSoundPair_27 : decode cX3_isSoundPair 27 = .ok (.aload_n 0, 1) := by decide +kernel
theorem dX3_isSoundPair_28 : decode cX3_isSoundPair 28 = .ok (.getfield 18, 3) := by decide +kernel
theorem dX3_isSoundPair_31 : decode cX3_isSoundPair 31 = .ok (.iload_n 1, 1) := by decide +kernel
theorem dX3_isSoundPair_32 : decode cX3_isSoundPair 32 = .ok (.iaload, 1) := by decide +kernel
theorem dX3_isSoundPair_33 : decode cX3_isSoundPair 33 = .ok (.iconst 3, 1) := by decide +kernel
theorem dX3_isSoundPair_34 : decode cX3_isSoundPair 34 = .ok (.if_icmp .ne 22, 3) := by decide +kernel
theorem dX3_isSoundPair_37 : decode cX3_isSoundPair 37 = .ok (.aload_n 0, 1) := by decide +kernel
theorem dX3_isSoundPair_38 : decode cX3_isSoundPair 38 = .ok (.iload_n 2, 1) := by decide +kernel
theorem dX3_isSoundPair_39 : decode cX3_isSoundPair 39 = .ok (.iconst 3, 1) := by decide +kernel
theorem dX3_isSoundPair_40 : decode cX3_isSoundPair 40 = .ok (.aload_n 0, 1) := by decide +kernel
theorem dX3_isSoundPair_41 : decode cX3_isSoundPair 41 = .ok (.getfield 21, 3) := by decide +kernel
theorem dX3_isSoundPair_44 : decode cX3_isSoundPair 44 = .ok (.iload_n 1, 1) := by decide +kernel
theorem dX3_isSoundPair_45 : decode cX3_isSoundPair 45 = .ok (.iaload, 1) := by decide +kernel
theorem dX3_isSoundPair_46 : decode cX3_isSoundPair 46 = .ok (.invokevirtual 77, 3) := by decide +kernel
theorem dX3_isSoundPair_49 : decode cX3_isSoundPair 49 = .ok (.ifCond .eq 7, 3) := by decide +kernel
theorem dX3_isSoundPair_52 : decode cX3_isSoundPair 52 = .ok (.iconst 1, 1) := by decide +kernel
theorem dX3_isSoundPair_53 : decode cX3_isSoundPair 53 = .ok (.goto 4, 3) := by decide +kernel
theorem dX3_isSoundPair_56 : decode cX3_isSoundPair 56 = .ok (.iconst 0, 1) := by decide +kernel
theorem dX3_isSoundPair_57 : decode cX3_isSoundPair 57 = .ok (.ireturn, 1) := by decide +kernel
theorem dX3_changeQuota_0 : decode cX3_changeQuota 0 = .ok (.aload_n 0, 1) := by decide +kernel
theorem dX3_changeQuota_1 : decode cX3_changeQuota 1 = .ok (.getfield 36, 3) := by decide +kernel
theorem dX3_changeQuota_4 : decode cX3_changeQuota 4 = .ok (.iload_n 1, 1) := by decide +kernel
theorem dX3_changeQuota_5 : decode cX3_changeQuota 5 = .ok (.iaload, 1) := by decide +kernel
theorem dX3_changeQuota_6 : decode cX3_changeQuota 6 = .ok (.istore_n 3, 1) := by decide +kernel
theorem dX3_changeQuota_7 : decode cX3_changeQuota 7 = .ok (.aload_n 0, 1) := by decide +kernel
theorem dX3_changeQuota_8 : decode cX3_changeQuota 8 = .ok (.getfield 36, 3) := by decide +kernel
theorem dX3_changeQuota_11 : decode cX3_changeQuota 11 = .ok (.iload_n 1, 1) := by decide +kernel
theorem dX3_changeQuota_12 : decode cX3_changeQuota 12 = .ok (.iload_n 2, 1) := by decide +kernel
theorem dX3_changeQuota_13 : decode cX3_changeQuota 13 = .ok (.iastore, 1) := by decide +kernel
theorem dX3_changeQuota_14 : decode cX3_changeQuota 14 = .ok (.iload_n 3, 1) := by decide +kernel
theorem dX3_changeQuota_15 : decode cX3_changeQuota 15 = .ok (.ireturn, 1) := by decide +kernel
theorem dX3_forbid_0 : decode cX3_forbid 0 = .ok (.aload_n 0, 1) := by decide +kernel
theorem dX3_forbid_1 : decode cX3_forbid 1 = .ok (.iload_n 1, 1) := by decide +kernel
theorem dX3_forbid_2 : decode cX3_forbid 2 = .ok (.iload_n 2, 1) := by decide +kernel
theorem dX3_forbid_3 : decode cX3_forbid 3 = .ok (.invokevirtual 111, 3) := by decide +kernel
theorem dX3_forbid_6 : decode cX3_forbid 6 = .ok (.ifCond .ne 7, 3) := by decide +kernel
theorem dX3_forbid_9 : decode cX3_forbid 9 = .ok (.iconst 1, 1) := by decide +kernel
theorem dX3_forbid_10 : decode cX3_forbid 10 = .ok (.goto 4, 3) := by decide +kernel
theorem dX3_forbid_13 : decode cX3_forbid 13 = .ok (.iconst 0, 1) := by decide +kernel
theorem dX3_forbid_14 : decode cX3_forbid 14 = .ok (.istore_n 3, 1) := by decide +kernel
theorem dX3_forbid_15 : decode cX3_forbid 15 = .ok (.aload_n 0, 1) := by decide +kernel
theorem dX3_forbid_16 : decode cX3_forbid 16 = .ok (.getfield 39, 3) := by decide +kernel
theorem dX3_forbid_19 : decode cX3_forbid 19 = .ok (.iload_n 1, 1) := by decide +kernel
theorem dX3_forbid_20 : decode cX3_forbid 20 = .ok (.dup2, 1) := by decide +kernel
theorem dX3_forbid_21 : decode cX3_forbid 21 = .ok (.iaload, 1) := by decide +kernel
theorem dX3_forbid_22 : decode cX3_forbid 22 = .ok (.iconst 1, 1) := by decide +kernel
theorem dX3_forbid_23 : decode cX3_forbid 23 = .ok (.ldc 84, 2) := by decide +kernel
theorem dX3_forbid_25 : decode cX3_forbid 25 = .ok (.iload_n 2, 1) := by decide +kernel
theorem dX3_forbid_26 : decode cX3_forbid 26 = .ok (.invokevirtual 86, 3) := by decide +kernel
theorem dX3_forbid_29 : decode cX3_forbid 29 = .ok (.ishl, 1) := by decide +kernel
theorem dX3_forbid_30 : decode cX3_forbid 30 = .ok (.ior, 1) := by decide +kernel
theorem dX3_forbid_31 : decode cX3_forbid 31 = .ok (.iastore, 1) := by decide +kernel
theorem dX3_forbid_32 : decode cX3_forbid 32 = .ok (.iload_n 3, 1) := by decide +kernel
theorem dX3_forbid_33 : decode cX3_forbid 33 = .ok (.ireturn, 1) := by decide +kernel
theorem dX3_permit_0 : decode cX3_permit 0 = .ok (.aload_n 0, 1) := by decide +kernel
theorem dX3_permit_1 : decode cX3_permit 1 = .ok (.iload_n 1, 1) := by decide +kernel
theorem dX3_permit_2 : decode cX3_permit 2 = .ok (.iload_n 2, 1) := by decide +kernel
theorem dX3_permit_3 : decode cX3_permit 3 = .ok (.invokevirtual 111, 3) := by decide +kernel
theorem dX3_permit_6 : decode cX3_permit 6 = .ok (.istore_n 3, 1) := by decide +kernel
theorem dX3_permit_7 : decode cX3_permit 7 = .ok (.aload_n 0, 1) := by decide +kernel
theorem dX3_permit_8 : decode cX3_permit 8 = .ok (.getfield 39, 3) := by decide +kernel
theorem dX3_permit_11 : decode cX3_permit 11 = .ok (.iload_n 1, 1) := by decide +kernel
theorem dX3_permit_12 : decode cX3_permit 12 = .ok (.dup2, 1) := by decide +kernel
theorem dX3_permit_13 : decode cX3_permit 13 = .ok (.iaload, 1) := by decide +kernel
theorem dX3_permit_14 : decode cX3_permit 14 = .ok (.iconst 1, 1) := by decide +kernel
theorem dX3_permit_15 : decode cX3_permit 15 = .ok (.ldc 84, 2) := by decide +kernel
theorem dX3_permit_17 : decode cX3_permit 17 = .ok (.iload_n 2, 1) := by decide +kernel
theorem dX3_permit_18 : decode cX3_permit 18 = .ok (.invokevirtual 86, 3) := by decide +kernel
theorem dX3_permit_21 : decode cX3_permit 21 = .ok (.ishl, 1) := by decide +kernel
theorem dX3_permit_22 : decode cX3_permit 22 = .ok (.iconst (-1), 1) := by decide +kernel
theorem dX3_permit_23 : decode cX3_permit 23 = .ok (.ixor, 1) := by decide +kernel
theorem dX3_permit_24 : decode cX3_permit 24 = .ok (.iand, 1) := by decide +kernel
theorem dX3_permit_25 : decode cX3_permit 25 = .ok (.iastore, 1) := by decide +kernel
theorem dX3_permit_26 : decode cX3_permit 26 = .ok (.iload_n 3, 1) := by decide +kernel
theorem dX3_permit_27 : decode cX3_permit 27 = .ok (.ireturn, 1) := by decide +kernel
theorem dX3_clauseBetween_0 : decode cX3_clauseBetween 0 = .ok (.aload_n 0, 1) := by decide +kernel
theorem dX3_clauseBetween_1 : decode cX3_clauseBetween 1 = .ok (.getfield 42, 3) := by decide +kernel
theorem dX3_clauseBetween_4 : decode cX3_clauseBetween 4 = .ok (.iload_n 1, 1) := by decide +kernel
theorem dX3_clauseBetween_5 : decode cX3_clauseBetween 5 = .ok (.iconst 5, 1) := by decide +kernel
theorem dX3_clauseBetween_6 : decode cX3_clauseBetween 6 = .ok (.imul, 1) := by decide +kernel
theorem dX3_clauseBetween_7 : decode cX3_clauseBetween 7 = .ok (.iload_n 2, 1) := by decide +kernel
theorem dX3_clauseBetween_8 : decode cX3_clauseBetween 8 = .ok (.iadd, 1) := by decide +kernel
theorem dX3_clauseBetween_9 : decode cX3_clauseBetween 9 = .ok (.iaload, 1) := by decide +kernel
theorem dX3_clauseBetween_10 : decode cX3_clauseBetween 10 = .ok (.ireturn, 1) := by decide +kernel
theorem dX3_hasTreaty_0 : decode cX3_hasTreaty 0 = .ok (.aload_n 0, 1) := by decide +kernel
theorem dX3_hasTreaty_1 : decode cX3_hasTreaty 1 = .ok (.iload_n 1, 1) := by decide +kernel
theorem dX3_hasTreaty_2 : decode cX3_hasTreaty 2 = .ok (.iload_n 2, 1) := by decide +kernel
theorem dX3_hasTreaty_3 : decode cX3_hasTreaty 3 = .ok (.invokevirtual 124, 3) := by decide +kernel
theorem dX3_hasTreaty_6 : decode cX3_hasTreaty 6 = .ok (.ifCond .eq 7, 3) := by decide +kernel
theorem dX3_hasTreaty_9 : decode cX3_hasTreaty 9 = .ok (.iconst 1, 1) := by decide +kernel
theorem dX3_hasTreaty_10 : decode cX3_hasTreaty 10 = .ok (.goto 4, 3) := by decide +kernel
theorem dX3_hasTreaty_13 : decode cX3_hasTreaty 13 = .ok (.iconst 0, 1) := by decide +kernel
theorem dX3_hasTreaty_14 : decode cX3_hasTreaty 14 = .ok (.ireturn, 1) := by decide +kernel
theorem dX3_sign_0 : decode cX3_sign 0 = .ok (.aload_n 0, 1) := by decide +kernel
theorem dX3_sign_1 : decode cX3_sign 1 = .ok (.getfield 42, 3) := by decide +kernel
theorem dX3_sign_4 : decode cX3_sign 4 = .ok (.iload_n 1, 1) := by decide +kernel
theorem dX3_sign_5 : decode cX3_sign 5 = .ok (.iconst 5, 1) := by decide +kernel
theorem dX3_sign_6 : decode cX3_sign 6 = .ok (.imul, 1) := by decide +kernel
theorem dX3_sign_7 : decode cX3_sign 7 = .ok (.iload_n 2, 1) := by decide +kernel
theorem dX3_sign_8 : decode cX3_sign 8 = .ok (.iadd, 1) := by decide +kernel
theorem dX3_sign_9 : decode cX3_sign 9 = .ok (.iload_n 3, 1) := by decide +kernel
theorem dX3_sign_10 : decode cX3_sign 10 = .ok (.iastore, 1) := by decide +kernel
theorem dX3_sign_11 : decode cX3_sign 11 = .ok (.aload_n 0, 1) := by decide +kernel
theorem dX3_sign_12 : decode cX3_sign 12 = .ok (.getfield 42, 3) := by decide +kernel
theorem dX3_sign_15 : decode cX3_sign 15 = .ok (.iload_n 2, 1) := by decide +kernel
theorem dX3_sign_16 : decode cX3_sign 16 = .ok (.iconst 5, 1) := by decide +kernel
theorem dX3_sign_17 : decode cX3_sign 17 = .ok (.imul, 1) := by decide +kernel
theorem dX3_sign_18 : decode cX3_sign 18 = .ok (.iload_n 1, 1) := by decide +kernel
theorem dX3_sign_19 : decode cX3_sign 19 = .ok (.iadd, 1) := by decide +kernel
theorem dX3_sign_20 : decode cX3_sign 20 = .ok (.iload_n 3, 1) := by decide +kernel
theorem dX3_sign_21 : decode cX3_sign 21 = .ok (.iastore, 1) := by decide +kernel
theorem dX3_sign_22 : decode cX3_sign 22 = .ok (.aload_n 0, 1) := by decide +kernel
theorem dX3_sign_23 : decode cX3_sign 23 = .ok (.invokevirtual 171, 3) := by decide +kernel
theorem dX3_sign_26 : decode cX3_sign 26 = .ok (.ireturn, 1) := by decide +kernel
theorem dX3_cancel_0 : decode cX3_cancel 0 = .ok (.aload_n 0, 1) := by decide +kernel
theorem dX3_cancel_1 : decode cX3_cancel 1 = .ok (.getfield 42, 3) := by decide +kernel
theorem dX3_cancel_4 : decode cX3_cancel 4 = .ok (.iload_n 1, 1) := by decide +kernel
theorem dX3_cancel_5 : decode cX3_cancel 5 = .ok (.iconst 5, 1) := by decide +kernel
theorem dX3_cancel_6 : decode cX3_cancel 6 = .ok (.imul, 1) := by decide +kernel
theorem dX3_cancel_7 : decode cX3_cancel 7 = .ok (.iload_n 2, 1) := by decide +kernel
theorem dX3_cancel_8 : decode cX3_cancel 8 = .ok (.iadd, 1) := by decide +kernel
theorem dX3_cancel_9 : decode cX3_cancel 9 = .ok (.iconst 0, 1) := by decide +kernel
theorem dX3_cancel_10 : decode cX3_cancel 10 = .ok (.iastore, 1) := by decide +kernel
theorem dX3_cancel_11 : decode cX3_cancel 11 = .ok (.aload_n 0, 1) := by decide +kernel
theorem dX3_cancel_12 : decode cX3_cancel 12 = .ok (.getfield 42, 3) := by decide +kernel
theorem dX3_cancel_15 : decode cX3_cancel 15 = .ok (.iload_n 2, 1) := by decide +kernel
theorem dX3_cancel_16 : decode cX3_cancel 16 = .ok (.iconst 5, 1) := by decide +kernel
theorem dX3_cancel_17 : decode cX3_cancel 17 = .ok (.imul, 1) := by decide +kernel
theorem dX3_cancel_18 : decode cX3_cancel 18 = .ok (.iload_n 1, 1) := by decide +kernel
theorem dX3_cancel_19 : decode cX3_cancel 19 = .ok (.iadd, 1) := by decide +kernel
theorem dX3_cancel_20 : decode cX3_cancel 20 = .ok (.iconst 0, 1) := by decide +kernel
theorem dX3_cancel_21 : decode cX3_cancel 21 = .ok (.iastore, 1) := by decide +kernel
theorem dX3_cancel_22 : decode cX3_cancel 22 = .ok (.aload_n 0, 1) := by decide +kernel
theorem dX3_cancel_23 : decode cX3_cancel 23 = .ok (.invokevirtual 171, 3) := by decide +kernel
theorem dX3_cancel_26 : decode cX3_cancel 26 = .ok (.ireturn, 1) := by decide +kernel
theorem dX3_treaties_0 : decode cX3_treaties 0 = .ok (.iconst 0, 1) := by decide +kernel
theorem dX3_treaties_1 : decode cX3_treaties 1 = .ok (.istore_n 1, 1) := by decide +kernel
theorem dX3_treaties_2 : decode cX3_treaties 2 = .ok (.iconst 0, 1) := by decide +kernel
theorem dX3_treaties_3 : decode cX3_treaties 3 = .ok (.istore_n 2, 1) := by decide +kernel
theorem dX3_treaties_4 : decode cX3_treaties 4 = .ok (.iload_n 2, 1) := by decide +kernel
theorem dX3_treaties_5 : decode cX3_treaties 5 = .ok (.aload_n 0, 1) := by decide +kernel
theorem dX3_treaties_6 : decode cX3_treaties 6 = .ok (.getfield 42, 3) := by decide +kernel
theorem dX3_treaties_9 : decode cX3_treaties 9 = .ok (.arraylength, 1) := by decide +kernel
theorem dX3_treaties_10 : decode cX3_treaties 10 = .ok (.if_icmp .ge 21, 3) := by decide +kernel
theorem dX3_treaties_13 : decode cX3_treaties 13 = .ok (.aload_n 0, 1) := by decide +kernel
theorem dX3_treaties_14 : decode cX3_treaties 14 = .ok (.getfield 42, 3) := by decide +kernel
theorem dX3_treaties_17 : decode cX3_treaties 17 = .ok (.iload_n 2, 1) := by decide +kernel
theorem dX3_treaties_18 : decode cX3_treaties 18 = .ok (.iaload, 1) := by decide +kernel
theorem dX3_treaties_19 : decode cX3_treaties 19 = .ok (.ifCond .eq 6, 3) := by decide +kernel
theorem dX3_treaties_22 : decode cX3_treaties 22 = .ok (.iinc 1 1, 3) := by decide +kernel
theorem dX3_treaties_25 : decode cX3_treaties 25 = .ok (.iinc 2 1, 3) := by decide +kernel
theorem dX3_treaties_28 : decode cX3_treaties 28 = .ok (.goto (-24), 3) := by decide +kernel
theorem dX3_treaties_31 : decode cX3_treaties 31 = .ok (.iload_n 1, 1) := by decide +kernel
theorem dX3_treaties_32 : decode cX3_treaties 32 = .ok (.iconst 2, 1) := by decide +kernel
theorem dX3_treaties_33 : decode cX3_treaties 33 = .ok (.idiv, 1) := by decide +kernel
theorem dX3_treaties_34 : decode cX3_treaties 34 = .ok (.ireturn, 1) := by decide +kernel
theorem dX3_advance_0 : decode cX3_advance 0 = .ok (.aload_n 0, 1) := by decide +kernel
theorem dX3_advance_1 : decode cX3_advance 1 = .ok (.getfield 58, 3) := by decide +kernel
theorem dX3_advance_4 : decode cX3_advance 4 = .ok (.istore_n 2, 1) := by decide +kernel
theorem dX3_advance_5 : decode cX3_advance 5 = .ok (.iconst 0, 1) := by decide +kernel
theorem dX3_advance_6 : decode cX3_advance 6 = .ok (.istore_n 3, 1) := by decide +kernel
theorem dX3_advance_7 : decode cX3_advance 7 = .ok (.iload_n 3, 1) := by decide +kernel
theorem dX3_advance_8 : decode cX3_advance 8 = .ok (.iload_n 1, 1) := by decide +kernel
theorem dX3_advance_9 : decode cX3_advance 9 = .ok (.if_icmp .ge 23, 3) := by decide +kernel
theorem dX3_advance_12 : decode cX3_advance 12 = .ok (.aload_n 0, 1) := by decide +kernel
theorem dX3_advance_13 : decode cX3_advance 13 = .ok (.dup, 1) := by decide +kernel
theorem dX3_advance_14 : decode cX3_advance 14 = .ok (.getfield 49, 3) := by decide +kernel
theorem dX3_advance_17 : decode cX3_advance 17 = .ok (.iconst 1, 1) := by decide +kernel
theorem dX3_advance_18 : decode cX3_advance 18 = .ok (.iadd, 1) := by decide +kernel
theorem dX3_advance_19 : decode cX3_advance 19 = .ok (.putfield 49, 3) := by decide +kernel
theorem dX3_advance_22 : decode cX3_advance 22 = .ok (.aload_n 0, 1) := by decide +kernel
theorem dX3_advance_23 : decode cX3_advance 23 = .ok (.invokevirtual 174, 3) := by decide +kernel
theorem dX3_advance_26 : decode cX3_advance 26 = .ok (.iinc 3 1, 3) := by decide +kernel
theorem dX3_advance_29 : decode cX3_advance 29 = .ok (.goto (-22), 3) := by decide +kernel
theorem dX3_advance_32 : decode cX3_advance 32 = .ok (.aload_n 0, 1) := by decide +kernel
theorem dX3_advance_33 : decode cX3_advance 33 = .ok (.getfield 58, 3) := by decide +kernel
theorem dX3_advance_36 : decode cX3_advance 36 = .ok (.iload_n 2, 1) := by decide +kernel
theorem dX3_advance_37 : decode cX3_advance 37 = .ok (.isub, 1) := by decide +kernel
theorem dX3_advance_38 : decode cX3_advance 38 = .ok (.ireturn, 1) := by decide +kernel
theorem dX3_expelAll_0 : decode cX3_expelAll 0 = .ok (.iconst 0, 1) := by decide +kernel
theorem dX3_expelAll_1 : decode cX3_expelAll 1 = .ok (.istore_n 1, 1) := by decide +kernel
theorem dX3_expelAll_2 : decode cX3_expelAll 2 = .ok (.iload_n 1, 1) := by decide +kernel
theorem dX3_expelAll_3 : decode cX3_expelAll 3 = .ok (.aload_n 0, 1) := by decide +kernel
theorem dX3_expelAll_4 : decode cX3_expelAll 4 = .ok (.getfield 45, 3) := by decide +kernel
theorem dX3_expelAll_7 : decode cX3_expelAll 7 = .ok (.if_icmp .ge 38, 3) := by decide +kernel
theorem dX3_expelAll_10 : decode cX3_expelAll 10 = .ok (.aload_n 0, 1) := by decide +kernel
theorem dX3_expelAll_11 : decode cX3_expelAll 11 = .ok (.iload_n 1, 1) := by decide +kernel
theorem dX3_expelAll_12 : decode cX3_expelAll 12 = .ok (.aload_n 0, 1) := by decide +kernel
theorem dX3_expelAll_13 : decode cX3_expelAll 13 = .ok (.getfield 49, 3) := by decide +kernel
theorem dX3_expelAll_16 : decode cX3_expelAll 16 = .ok (.invokevirtual 177, 3) := by decide +kernel
theorem dX3_expelAll_19 : decode cX3_expelAll 19 = .ok (.ifCond .eq 20, 3) := by decide +kernel
theorem dX3_expelAll_22 : decode cX3_expelAll 22 = .ok (.aload_n 0, 1) := by decide +kernel
theorem dX3_expelAll_23 : decode cX3_expelAll 23 = .ok (.getfield 18, 3) := by decide +kernel
theorem dX3_expelAll_26 : decode cX3_expelAll 26 = .ok (.iload_n 1, 1) := by decide +kernel
theorem dX3_expelAll_27 : decode cX3_expelAll 27 = .ok (.iconst 0, 1) := by decide +kernel
theorem dX3_expelAll_28 : decode cX3_expelAll 28 = .ok (.iastore, 1) := by decide +kernel
theorem dX3_expelAll_29 : decode cX3_expelAll 29 = .ok (.aload_n 0, 1) := by decide +kernel
theorem dX3_expelAll_30 : decode cX3_expelAll 30 = .ok (.dup, 1) := by decide +kernel
theorem dX3_expelAll_31 : decode cX3_expelAll 31 = .ok (.getfield 58, 3) := by decide +kernel
theorem dX3_expelAll_34 : decode cX3_expelAll 34 = .ok (.iconst 1, 1) := by decide +kernel
theorem dX3_expelAll_35 : decode cX3_expelAll 35 = .ok (.iadd, 1) := by decide +kernel
theorem dX3_expelAll_36 : decode cX3_expelAll 36 = .ok (.putfield 58, 3) := by decide +kernel
theorem dX3_expelAll_39 : decode cX3_expelAll 39 = .ok (.iinc 1 1, 3) := by decide +kernel
theorem dX3_expelAll_42 : decode cX3_expelAll 42 = .ok (.goto (-40), 3) := by decide +kernel
theorem dX3_expelAll_45 : decode cX3_expelAll 45 = .ok (.return_, 1) := by decide +kernel
theorem dX3_expires_0 : decode cX3_expires 0 = .ok (.aload_n 0, 1) := by decide +kernel
theorem dX3_expires_1 : decode cX3_expires 1 = .ok (.getfield 18, 3) := by decide +kernel
theorem dX3_expires_4 : decode cX3_expires 4 = .ok (.iload_n 1, 1) := by decide +kernel
theorem dX3_expires_5 : decode cX3_expires 5 = .ok (.iaload, 1) := by decide +kernel
theorem dX3_expires_6 : decode cX3_expires 6 = .ok (.iconst 3, 1) := by decide +kernel
theorem dX3_expires_7 : decode cX3_expires 7 = .ok (.if_icmp .ne 27, 3) := by decide +kernel
theorem dX3_expires_10 : decode cX3_expires 10 = .ok (.aload_n 0, 1) := by decide +kernel
theorem dX3_expires_11 : decode cX3_expires 11 = .ok (.getfield 33, 3) := by decide +kernel
theorem dX3_expires_14 : decode cX3_expires 14 = .ok (.iload_n 1, 1) := by decide +kernel
theorem dX3_expires_15 : decode cX3_expires 15 = .ok (.iaload, 1) := by decide +kernel
theorem dX3_expires_16 : decode cX3_expires 16 = .ok (.iconst (-1), 1) := by decide +kernel
theorem dX3_expires_17 : decode cX3_expires 17 = .ok (.if_icmp .ne 17, 3) := by decide +kernel
theorem dX3_expires_20 : decode cX3_expires 20 = .ok (.aload_n 0, 1) := by decide +kernel
theorem dX3_expires_21 : decode cX3_expires 21 = .ok (.getfield 30, 3) := by decide +kernel
theorem dX3_expires_24 : decode cX3_expires 24 = .ok (.iload_n 1, 1) := by decide +kernel
theorem dX3_expires_25 : decode cX3_expires 25 = .ok (.iaload, 1) := by decide +kernel
theorem dX3_expires_26 : decode cX3_expires 26 = .ok (.iload_n 2, 1) := by decide +kernel
theorem dX3_expires_27 : decode cX3_expires 27 = .ok (.if_icmp .ge 7, 3) := by decide +kernel
theorem dX3_expires_30 : decode cX3_expires 30 = .ok (.iconst 1, 1) := by decide +kernel
theorem dX3_expires_31 : decode cX3_expires 31 = .ok (.goto 4, 3) := by decide +kernel
theorem dX3_expires_34 : decode cX3_expires 34 = .ok (.iconst 0, 1) := by decide +kernel
theorem dX3_expires_35 : decode cX3_expires 35 = .ok (.ireturn, 1) := by decide +kernel
theorem dX3_expiring_0 : decode cX3_expiring 0 = .ok (.iconst 0, 1) := by decide +kernel
theorem dX3_expiring_1 : decode cX3_expiring 1 = .ok (.istore_n 2, 1) := by decide +kernel
theorem dX3_expiring_2 : decode cX3_expiring 2 = .ok (.iconst 0, 1) := by decide +kernel
theorem dX3_expiring_3 : decode cX3_expiring 3 = .ok (.istore_n 3, 1) := by decide +kernel
theorem dX3_expiring_4 : decode cX3_expiring 4 = .ok (.iload_n 3, 1) := by decide +kernel
theorem dX3_expiring_5 : decode cX3_expiring 5 = .ok (.aload_n 0, 1) := by decide +kernel
theorem dX3_expiring_6 : decode cX3_expiring 6 = .ok (.getfield 45, 3) := by decide +kernel
theorem dX3_expiring_9 : decode cX3_expiring 9 = .ok (.if_icmp .ge 21, 3) := by decide +kernel
theorem dX3_expiring_12 : decode cX3_expiring 12 = .ok (.aload_n 0, 1) := by decide +kernel
theorem dX3_expiring_13 : decode cX3_expiring 13 = .ok (.iload_n 3, 1) := by decide +kernel
theorem dX3_expiring_14 : decode cX3_expiring 14 = .ok (.iload_n 1, 1) := by decide +kernel
theorem dX3_expiring_15 : decode cX3_expiring 15 = .ok (.invokevirtual 177, 3) := by decide +kernel
theorem dX3_expiring_18 : decode cX3_expiring 18 = .ok (.ifCond .eq 6, 3) := by decide +kernel
theorem dX3_expiring_21 : decode cX3_expiring 21 = .ok (.iinc 2 1, 3) := by decide +kernel
theorem dX3_expiring_24 : decode cX3_expiring 24 = .ok (.iinc 3 1, 3) := by decide +kernel
theorem dX3_expiring_27 : decode cX3_expiring 27 = .ok (.goto (-23), 3) := by decide +kernel
theorem dX3_expiring_30 : decode cX3_expiring 30 = .ok (.iload_n 2, 1) := by decide +kernel
theorem dX3_expiring_31 : decode cX3_expiring 31 = .ok (.ireturn, 1) := by decide +kernel
theorem dX3_rankedDrawer_0 : decode cX3_rankedDrawer 0 = .ok (.iconst 0, 1) := by decide +kernel
theorem dX3_rankedDrawer_1 : decode cX3_rankedDrawer 1 = .ok (.istore_n 2, 1) := by decide +kernel
theorem dX3_rankedDrawer_2 : decode cX3_rankedDrawer 2 = .ok (.iload_n 2, 1) := by decide +kernel
theorem dX3_rankedDrawer_3 : decode cX3_rankedDrawer 3 = .ok (.iconst 5, 1) := by decide +kernel
theorem dX3_rankedDrawer_4 : decode cX3_rankedDrawer 4 = .ok (.if_icmp .ge 20, 3) := by decide +kernel
theorem dX3_rankedDrawer_7 : decode cX3_rankedDrawer 7 = .ok (.aload_n 0, 1) := by decide +kernel
theorem dX3_rankedDrawer_8 : decode cX3_rankedDrawer 8 = .ok (.iload_n 2, 1) := by decide +kernel
theorem dX3_rankedDrawer_9 : decode cX3_rankedDrawer 9 = .ok (.invokevirtual 180, 3) := by decide +kernel
theorem dX3_rankedDrawer_12 : decode cX3_rankedDrawer 12 = .ok (.iload_n 1, 1) := by decide +kernel
theorem dX3_rankedDrawer_13 : decode cX3_rankedDrawer 13 = .ok (.if_icmp .ne 5, 3) := by decide +kernel
theorem dX3_rankedDrawer_16 : decode cX3_rankedDrawer 16 = .ok (.iload_n 2, 1) := by decide +kernel
theorem dX3_rankedDrawer_17 : decode cX3_rankedDrawer 17 = .ok (.ireturn, 1) := by decide +kernel
theorem dX3_rankedDrawer_18 : decode cX3_rankedDrawer 18 = .ok (.iinc 2 1, 3) := by decide +kernel
theorem dX3_rankedDrawer_21 : decode cX3_rankedDrawer 21 = .ok (.goto (-19), 3) := by decide +kernel
theorem dX3_rankedDrawer_24 : decode cX3_rankedDrawer 24 = .ok (.iconst (-1), 1) := by decide +kernel
theorem dX3_rankedDrawer_25 : decode cX3_rankedDrawer 25 = .ok (.ireturn, 1) := by decide +kernel
theorem dX3_rankedAhead_0 : decode cX3_rankedAhead 0 = .ok (.iconst 0, 1) := by decide +kernel
theorem dX3_rankedAhead_1 : decode cX3_rankedAhead 1 = .ok (.istore_n 2, 1) := by decide +kernel
theorem dX3_rankedAhead_2 : decode cX3_rankedAhead 2 = .ok (.iconst 0, 1) := by decide +kernel
theorem dX3_rankedAhead_3 : decode cX3_rankedAhead 3 = .ok (.istore_n 3, 1) := by decide +kernel
theorem dX3_rankedAhead_4 : decode cX3_rankedAhead 4 = .ok (.iload_n 3, 1) := by decide +kernel
theorem dX3_rankedAhead_5 : decode cX3_rankedAhead 5 = .ok (.iconst 5, 1) := by decide +kernel
theorem dX3_rankedAhead_6 : decode cX3_rankedAhead 6 = .ok (.if_icmp .ge 21, 3) := by decide +kernel
theorem dX3_rankedAhead_9 : decode cX3_rankedAhead 9 = .ok (.aload_n 0, 1) := by decide +kernel
theorem dX3_rankedAhead_10 : decode cX3_rankedAhead 10 = .ok (.iload_n 3, 1) := by decide +kernel
theorem dX3_rankedAhead_11 : decode cX3_rankedAhead 11 = .ok (.iload_n 1, 1) := by decide +kernel
theorem dX3_rankedAhead_12 : decode cX3_rankedAhead 12 = .ok (.invokevirtual 183, 3) := by decide +kernel
theorem dX3_rankedAhead_15 : decode cX3_rankedAhead 15 = .ok (.ifCond .eq 6, 3) := by decide +kernel
theorem dX3_rankedAhead_18 : decode cX3_rankedAhead 18 = .ok (.iinc 2 1, 3) := by decide +kernel
theorem dX3_rankedAhead_21 : decode cX3_rankedAhead 21 = .ok (.iinc 3 1, 3) := by decide +kernel
theorem dX3_rankedAhead_24 : decode cX3_rankedAhead 24 = .ok (.goto (-20), 3) := by decide +kernel
theorem dX3_rankedAhead_27 : decode cX3_rankedAhead 27 = .ok (.iload_n 2, 1) := by decide +kernel
theorem dX3_rankedAhead_28 : decode cX3_rankedAhead 28 = .ok (.ireturn, 1) := by decide +kernel
theorem dX3_ranksAhead_0 : decode cX3_ranksAhead 0 = .ok (.aload_n 0, 1) := by decide +kernel
theorem dX3_ranksAhead_1 : decode cX3_ranksAhead 1 = .ok (.iconst 3, 1) := by decide +kernel
theorem dX3_ranksAhead_2 : decode cX3_ranksAhead 2 = .ok (.iload_n 1, 1) := by decide +kernel
theorem dX3_ranksAhead_3 : decode cX3_ranksAhead 3 = .ok (.invokevirtual 81, 3) := by decide +kernel
theorem dX3_ranksAhead_6 : decode cX3_ranksAhead 6 = .ok (.aload_n 0, 1) := by decide +kernel
theorem dX3_ranksAhead_7 : decode cX3_ranksAhead 7 = .ok (.iconst 3, 1) := by decide +kernel
theorem dX3_ranksAhead_8 : decode cX3_ranksAhead 8 = .ok (.iload_n 2, 1) := by decide +kernel
theorem dX3_ranksAhead_9 : decode cX3_ranksAhead 9 = .ok (.invokevirtual 81, 3) := by decide +kernel
theorem dX3_ranksAhead_12 : decode cX3_ranksAhead 12 = .ok (.isub, 1) := by decide +kernel
theorem dX3_ranksAhead_13 : decode cX3_ranksAhead 13 = .ok (.istore_n 3, 1) := by decide +kernel
theorem dX3_ranksAhead_14 : decode cX3_ranksAhead 14 = .ok (.iload_n 3, 1) := by decide +kernel
theorem dX3_ranksAhead_15 : decode cX3_ranksAhead 15 = .ok (.ifCond .eq 13, 3) := by decide +kernel
theorem dX3_ranksAhead_18 : decode cX3_ranksAhead 18 = .ok (.iload_n 3, 1) := by decide +kernel
theorem dX3_ranksAhead_19 : decode cX3_ranksAhead 19 = .ok (.ifCond .le 7, 3) := by decide +kernel
theorem dX3_ranksAhead_22 : decode cX3_ranksAhead 22 = .ok (.iconst 1, 1) := by decide +kernel
theorem dX3_ranksAhead_23 : decode cX3_ranksAhead 23 = .ok (.goto 4, 3) := by decide +kernel
theorem dX3_ranksAhead_26 : decode cX3_ranksAhead 26 = .ok (.iconst 0, 1) := by decide +kernel
theorem dX3_ranksAhead_27 : decode cX3_ranksAhead 27 = .ok (.ireturn, 1) := by decide +kernel
theorem dX3_ranksAhead_28 : decode cX3_ranksAhead 28 = .ok (.aload_n 0, 1) := by decide +kernel
theorem dX3_ranksAhead_29 : decode cX3_ranksAhead 29 = .ok (.iload_n 1, 1) := by decide +kernel
theorem dX3_ranksAhead_30 : decode cX3_ranksAhead 30 = .ok (.invokevirtual 127, 3) := by decide +kernel
theorem dX3_ranksAhead_33 : decode cX3_ranksAhead 33 = .ok (.aload_n 0, 1) := by decide +kernel
theorem dX3_ranksAhead_34 : decode cX3_ranksAhead 34 = .ok (.iload_n 2, 1) := by decide +kernel
theorem dX3_ranksAhead_35 : decode cX3_ranksAhead 35 = .ok (.invokevirtual 127, 3) := by decide +kernel
theorem dX3_ranksAhead_38 : decode cX3_ranksAhead 38 = .ok (.isub, 1) := by decide +kernel
theorem dX3_ranksAhead_39 : decode cX3_ranksAhead 39 = .ok (.istore 4, 2) := by decide +kernel
theorem dX3_ranksAhead_41 : decode cX3_ranksAhead 41 = .ok (.iload 4, 2) := by decide +kernel
theorem dX3_ranksAhead_43 : decode cX3_ranksAhead 43 = .ok (.ifCond .eq 16, 3) := by decide +kernel
theorem dX3_ranksAhead_46 : decode cX3_ranksAhead 46 = .ok (.iload 4, 2) := by decide +kernel
theorem dX3_ranksAhead_48 : decode cX3_ranksAhead 48 = .ok (.ifCond .le 7, 3) := by decide +kernel
theorem dX3_ranksAhead_51 : decode cX3_ranksAhead 51 = .ok (.iconst 1, 1) := by decide +kernel
theorem dX3_ranksAhead_52 : decode cX3_ranksAhead 52 = .ok (.goto 17, 3) := by decide +kernel
theorem dX3_ranksAhead_55 : decode cX3_ranksAhead 55 = .ok (.iconst 0, 1) := by decide +kernel
theorem dX3_ranksAhead_56 : decode cX3_ranksAhead 56 = .ok (.goto 13, 3) := by decide +kernel
theorem dX3_ranksAhead_59 : decode cX3_ranksAhead 59 = .ok (.iload_n 1, 1) := by decide +kernel
theorem dX3_ranksAhead_60 : decode cX3_ranksAhead 60 = .ok (.iload_n 2, 1) := by decide +kernel
theorem dX3_ranksAhead_61 : decode cX3_ranksAhead 61 = .ok (.if_icmp .ge 7, 3) := by decide +kernel
theorem dX3_ranksAhead_64 : decode cX3_ranksAhead 64 = .ok (.iconst 1, 1) := by decide +kernel
theorem dX3_ranksAhead_65 : decode cX3_ranksAhead 65 = .ok (.goto 4, 3) := by decide +kernel
theorem dX3_ranksAhead_68 : decode cX3_ranksAhead 68 = .ok (.iconst 0, 1) := by decide +kernel
theorem dX3_ranksAhead_69 : decode cX3_ranksAhead 69 = .ok (.ireturn, 1) := by decide +kernel
theorem dX3_sizeSum_0 : decode cX3_sizeSum 0 = .ok (.iconst 0, 1) := by decide +kernel
theorem dX3_sizeSum_1 : decode cX3_sizeSum 1 = .ok (.istore_n 1, 1) := by decide +kernel
theorem dX3_sizeSum_2 : decode cX3_sizeSum 2 = .ok (.iconst 0, 1) := by decide +kernel
theorem dX3_sizeSum_3 : decode cX3_sizeSum 3 = .ok (.istore_n 2, 1) := by decide +kernel
theorem dX3_sizeSum_4 : decode cX3_sizeSum 4 = .ok (.iload_n 2, 1) := by decide +kernel
theorem dX3_sizeSum_5 : decode cX3_sizeSum 5 = .ok (.aload_n 0, 1) := by decide +kernel
theorem dX3_sizeSum_6 : decode cX3_sizeSum 6 = .ok (.getfield 45, 3) := by decide +kernel
theorem dX3_sizeSum_9 : decode cX3_sizeSum 9 = .ok (.if_icmp .ge 18, 3) := by decide +kernel
theorem dX3_sizeSum_12 : decode cX3_sizeSum 12 = .ok (.iload_n 1, 1) := by decide +kernel
theorem dX3_sizeSum_13 : decode cX3_sizeSum 13 = .ok (.aload_n 0, 1) := by decide +kernel
theorem dX3_sizeSum_14 : decode cX3_sizeSum 14 = .ok (.getfield 15, 3) := by decide +kernel
theorem dX3_sizeSum_17 : decode cX3_sizeSum 17 = .ok (.iload_n 2, 1) := by decide +kernel
theorem dX3_sizeSum_18 : decode cX3_sizeSum 18 = .ok (.iaload, 1) := by decide +kernel
theorem dX3_sizeSum_19 : decode cX3_sizeSum 19 = .ok (.iadd, 1) := by decide +kernel
theorem dX3_sizeSum_20 : decode cX3_sizeSum 20 = .ok (.istore_n 1, 1) := by decide +kernel
theorem dX3_sizeSum_21 : decode cX3_sizeSum 21 = .ok (.iinc 2 1, 3) := by decide +kernel
theorem dX3_sizeSum_24 : decode cX3_sizeSum 24 = .ok (.goto (-20), 3) := by decide +kernel
theorem dX3_sizeSum_27 : decode cX3_sizeSum 27 = .ok (.iload_n 1, 1) := by decide +kernel
theorem dX3_sizeSum_28 : decode cX3_sizeSum 28 = .ok (.ireturn, 1) := by decide +kernel
theorem dX3_residentSum_0 : decode cX3_residentSum 0 = .ok (.iconst 0, 1) := by decide +kernel
theorem dX3_residentSum_1 : decode cX3_residentSum 1 = .ok (.istore_n 1, 1) := by decide +kernel
theorem dX3_residentSum_2 : decode cX3_residentSum 2 = .ok (.iconst 0, 1) := by decide +kernel
theorem dX3_residentSum_3 : decode cX3_residentSum 3 = .ok (.istore_n 2, 1) := by decide +kernel
theorem dX3_residentSum_4 : decode cX3_residentSum 4 = .ok (.iload_n 2, 1) := by decide +kernel
theorem dX3_residentSum_5 : decode cX3_residentSum 5 = .ok (.iconst 5, 1) := by decide +kernel
theorem dX3_residentSum_6 : decode cX3_residentSum 6 = .ok (.if_icmp .ge 18, 3) := by decide +kernel
theorem dX3_residentSum_9 : decode cX3_residentSum 9 = .ok (.iload_n 1, 1) := by decide +kernel
theorem dX3_residentSum_10 : decode cX3_residentSum 10 = .ok (.aload_n 0, 1) := by decide +kernel
theorem dX3_residentSum_11 : decode cX3_residentSum 11 = .ok (.iconst 3, 1) := by decide +kernel
theorem dX3_residentSum_12 : decode cX3_residentSum 12 = .ok (.iload_n 2, 1) := by decide +kernel
theorem dX3_residentSum_13 : decode cX3_residentSum 13 = .ok (.invokevirtual 81, 3) := by decide +kernel
theorem dX3_residentSum_16 : decode cX3_residentSum 16 = .ok (.iadd, 1) := by decide +kernel
theorem dX3_residentSum_17 : decode cX3_residentSum 17 = .ok (.istore_n 1, 1) := by decide +kernel
theorem dX3_residentSum_18 : decode cX3_residentSum 18 = .ok (.iinc 2 1, 3) := by decide +kernel
theorem dX3_residentSum_21 : decode cX3_residentSum 21 = .ok (.goto (-17), 3) := by decide +kernel
theorem dX3_residentSum_24 : decode cX3_residentSum 24 = .ok (.iload_n 1, 1) := by decide +kernel
theorem dX3_residentSum_25 : decode cX3_residentSum 25 = .ok (.ireturn, 1) := by decide +kernel
theorem dX4_init_0 : decode cX4_init 0 = .ok (.aload_n 0, 1) := by decide +kernel
theorem dX4_init_1 : decode cX4_init 1 = .ok (.invokespecial 1, 3) := by decide +kernel
theorem dX4_init_4 : decode cX4_init 4 = .ok (.aload_n 0, 1) := by decide +kernel
theorem dX4_init_5 : decode cX4_init 5 = .ok (.new 7, 3) := by decide +kernel
theorem dX4_init_8 : decode cX4_init 8 = .ok (.dup, 1) := by decide +kernel
theorem dX4_init_9 : decode cX4_init 9 = .ok (.invokespecial 9, 3) := by decide +kernel
theorem dX4_init_12 : decode cX4_init 12 = .ok (.putfield 10, 3) := by decide +kernel
theorem dX4_init_15 : decode cX4_init 15 = .ok (.aload_n 0, 1) := by decide +kernel
theorem dX4_init_16 : decode cX4_init 16 = .ok (.aload_n 0, 1) := by decide +kernel
theorem dX4_init_17 : decode cX4_init 17 = .ok (.getfield 10, 3) := by decide +kernel
theorem dX4_init_20 : decode cX4_init 20 = .ok (.getfield 16, 3) := by decide +kernel
theorem dX4_init_23 : decode cX4_init 23 = .ok (.putfield 20, 3) := by decide +kernel
theorem dX4_init_26 : decode cX4_init 26 = .ok (.aload_n 0, 1) := by decide +kernel
theorem dX4_init_27 : decode cX4_init 27 = .ok (.new 21, 3) := by decide +kernel
theorem dX4_init_30 : decode cX4_init 30 = .ok (.dup, 1) := by decide +kernel
theorem dX4_init_31 : decode cX4_init 31 = .ok (.invokespecial 23, 3) := by decide +kernel
theorem dX4_init_34 : decode cX4_init 34 = .ok (.putfield 24, 3) := by decide +kernel
theorem dX4_init_37 : decode cX4_init 37 = .ok (.aload_n 0, 1) := by decide +kernel
theorem dX4_init_38 : decode cX4_init 38 = .ok (.new 27, 3) := by decide +kernel
theorem dX4_init_41 : decode cX4_init 41 = .ok (.dup, 1) := by decide +kernel
theorem dX4_init_42 : decode cX4_init 42 = .ok (.invokespecial 29, 3) := by decide +kernel
theorem dX4_init_45 : decode cX4_init 45 = .ok (.putfield 30, 3) := by decide +kernel
theorem dX4_init_48 : decode cX4_init 48 = .ok (.aload_n 0, 1) := by decide +kernel
theorem dX4_init_49 : decode cX4_init 49 = .ok (.new 34, 3) := by decide +kernel
theorem dX4_init_52 : decode cX4_init 52 = .ok (.dup, 1) := by decide +kernel
theorem dX4_init_53 : decode cX4_init 53 = .ok (.invokespecial 36, 3) := by decide +kernel
theorem dX4_init_56 : decode cX4_init 56 = .ok (.putfield 37, 3) := by decide +kernel
theorem dX4_init_59 : decode cX4_init 59 = .ok (.aload_n 0, 1) := by decide +kernel
theorem dX4_init_60 : decode cX4_init 60 = .ok (.new 41, 3) := by decide +kernel
theorem dX4_init_63 : decode cX4_init 63 = .ok (.dup, 1) := by decide +kernel
theorem dX4_init_64 : decode cX4_init 64 = .ok (.invokespecial 43, 3) := by decide +kernel
theorem dX4_init_67 : decode cX4_init 67 = .ok (.putfield 44, 3) := by decide +kernel
theorem dX4_init_70 : decode cX4_init 70 = .ok (.aload_n 0, 1) := by decide +kernel
theorem dX4_init_71 : decode cX4_init 71 = .ok (.iconst 0, 1) := by decide +kernel
theorem dX4_init_72 : decode cX4_init 72 = .ok (.putfield 48, 3) := by decide +kernel
theorem dX4_init_75 : decode cX4_init 75 = .ok (.aload_n 0, 1) := by decide +kernel
theorem dX4_init_76 : decode cX4_init 76 = .ok (.iconst 0, 1) := by decide +kernel
theorem dX4_init_77 : decode cX4_init 77 = .ok (.putfield 52, 3) := by decide +kernel
theorem dX4_init_80 : decode cX4_init 80 = .ok (.aload_n 0, 1) := by decide +kernel
theorem dX4_init_81 : decode cX4_init 81 = .ok (.iconst 0, 1) := by decide +kernel
theorem dX4_init_82 : decode cX4_init 82 = .ok (.putfield 55, 3) := by decide +kernel
theorem dX4_init_85 : decode cX4_init 85 = .ok (.aload_n 0, 1) := by decide +kernel
theorem dX4_init_86 : decode cX4_init 86 = .ok (.iconst (-1), 1) := by decide +kernel
theorem dX4_init_87 : decode cX4_init 87 = .ok (.putfield 58, 3) := by decide +kernel
theorem dX4_init_90 : decode cX4_init 90 = .ok (.return_, 1) := by decide +kernel
theorem dX4_addSock_0 : decode cX4_addSock 0 = .ok (.aload_n 0, 1) := by decide +kernel
theorem dX4_addSock_1 : decode cX4_addSock 1 = .ok (.aload_n 0, 1) := by decide +kernel
theorem dX4_addSock_2 : decode cX4_addSock 2 = .ok (.getfield 10, 3) := by decide +kernel
theorem dX4_addSock_5 : decode cX4_addSock 5 = .ok (.iload_n 1, 1) := by decide +kernel
theorem dX4_addSock_6 : decode cX4_addSock 6 = .ok (.iload_n 2, 1) := by decide +kernel
theorem dX4_addSock_7 : decode cX4_addSock 7 = .ok (.invokevirtual 61, 3) := by decide +kernel
theorem dX4_addSock_10 : decode cX4_addSock 10 = .ok (.invokevirtual 65, 3) := by decide +kernel
theorem dX4_addSock_13 : decode cX4_addSock 13 = .ok (.aload_n 0, 1) := by decide +kernel
theorem dX4_addSock_14 : decode cX4_addSock 14 = .ok (.getfield 30, 3) := by decide +kernel
theorem dX4_addSock_17 : decode cX4_addSock 17 = .ok (.aload_n 0, 1) := by decide +kernel
theorem dX4_addSock_18 : decode cX4_addSock 18 = .ok (.getfield 20, 3) := by decide +kernel
theorem dX4_addSock_21 : decode cX4_addSock 21 = .ok (.invokevirtual 69, 3) := by decide +kernel
theorem dX4_addSock_24 : decode cX4_addSock 24 = .ok (.aload_n 0, 1) := by decide +kernel
theorem dX4_addSock_25 : decode cX4_addSock 25 = .ok (.getfield 20, 3) := by decide +kernel
theorem dX4_addSock_28 : decode cX4_addSock 28 = .ok (.iload_n 1, 1) := by decide +kernel
theorem dX4_addSock_29 : decode cX4_addSock 29 = .ok (.iload_n 2, 1) := by decide +kernel
theorem dX4_addSock_30 : decode cX4_addSock 30 = .ok (.invokevirtual 73, 3) := by decide +kernel
theorem dX4_addSock_33 : decode cX4_addSock 33 = .ok (.ireturn, 1) := by decide +kernel
theorem dX4_sockCount_0 : decode cX4_sockCount 0 = .ok (.aload_n 0, 1) := by decide +kernel
theorem dX4_sockCount_1 : decode cX4_sockCount 1 = .ok (.getfield 20, 3) := by decide +kernel
theorem dX4_sockCount_4 : decode cX4_sockCount 4 = .ok (.getfield 76, 3) := by decide +kernel
theorem dX4_sockCount_7 : decode cX4_sockCount 7 = .ok (.ireturn, 1) := by decide +kernel
theorem dX4_colourOf_0 : decode cX4_colourOf 0 = .ok (.aload_n 0, 1) := by decide +kernel
theorem dX4_colourOf_1 : decode cX4_colourOf 1 = .ok (.iload_n 1, 1) := by decide +kernel
theorem dX4_colourOf_2 : decode cX4_colourOf 2 = .ok (.invokevirtual 79, 3) := by decide +kernel
theorem dX4_colourOf_5 : decode cX4_colourOf 5 = .ok (.aload_n 0, 1) := by decide +kernel
theorem dX4_colourOf_6 : decode cX4_colourOf 6 = .ok (.getfield 20, 3) := by decide +kernel
theorem dX4_colourOf_9 : decode cX4_colourOf 9 = .ok (.iload_n 1, 1) := by decide +kernel
theorem dX4_colourOf_10 : decode cX4_colourOf 10 = .ok (.invokevirtual 82, 3) := by decide +kernel
theorem dX4_colourOf_13 : decode cX4_colourOf 13 = .ok (.ireturn, 1) := by decide +kernel
theorem dX4_sizeOf_0 : decode cX4_sizeOf 0 = .ok (.aload_n 0, 1) := by decide +kernel
theorem dX4_sizeOf_1 : decode cX4_sizeOf 1 = .ok (.iload_n 1, 1) := by decide +kernel
theorem dX4_sizeOf_2 : decode cX4_sizeOf 2 = .ok (.invokevirtual 79, 3) := by decide +kernel
theorem dX4_sizeOf_5 : decode cX4_sizeOf 5 = .ok (.aload_n 0, 1) := by decide +kernel
theorem dX4_sizeOf_6 : decode cX4_sizeOf 6 = .ok (.getfield 20, 3) := by decide +kernel
theorem dX4_sizeOf_9 : decode cX4_sizeOf 9 = .ok (.getfield 86, 3) := by decide +kernel
theorem dX4_sizeOf_12 : decode cX4_sizeOf 12 = .ok (.iload_n 1, 1) := by decide +kernel
theorem dX4_sizeOf_13 : decode cX4_sizeOf 13 = .ok (.iaload, 1) := by decide +kernel
theorem dX4_sizeOf_14 : decode cX4_sizeOf 14 = .ok (.ireturn, 1) := by decide +kernel
theorem dX4_isAway_0 : decode cX4_isAway 0 = .ok (.aload_n 0, 1) := by decide +kernel
theorem dX4_isAway_1 : decode cX4_isAway 1 = .ok (.iload_n 1, 1) := by decide +kernel
theorem dX4_isAway_2 : decode cX4_isAway 2 = .ok (.invokevirtual 79, 3) := by decide +kernel
theorem dX4_isAway_5 : decode cX4_isAway 5 = .ok (.aload_n 0, 1) := by decide +kernel
theorem dX4_isAway_6 : decode cX4_isAway 6 = .ok (.getfield 20, 3) := by decide +kernel
theorem dX4_isAway_9 : decode cX4_isAway 9 = .ok (.getfield 90, 3) := by decide +kernel
theorem dX4_isAway_12 : decode cX4_isAway 12 = .ok (.iload_n 1, 1) := by decide +kernel
theorem dX4_isAway_13 : decode cX4_isAway 13 = .ok (.iaload, 1) := by decide +kernel
theorem dX4_isAway_14 : decode cX4_isAway 14 = .ok (.ifCond .ne 7, 3) := by decide +kernel
theorem dX4_isAway_17 : decode cX4_isAway 17 = .ok (.iconst 1, 1) := by decide +kernel
theorem dX4_isAway_18 : decode cX4_isAway 18 = .ok (.goto 4, 3) := by decide +kernel
theorem dX4_isAway_21 : decode cX4_isAway 21 = .ok (.iconst 0, 1) := by decide +kernel
theorem dX4_isAway_22 : decode cX4_isAway 22 = .ok (.ireturn, 1) := by decide +kernel
theorem dX4_isPending_0 : decode cX4_isPending 0 = .ok (.aload_n 0, 1) := by decide +kernel
theorem dX4_isPending_1 : decode cX4_isPending 1 = .ok (.iload_n 1, 1) := by decide +kernel
theorem dX4_isPending_2 : decode cX4_isPending 2 = .ok (.invokevirtual 79, 3) := by decide +kernel
theorem dX4_isPending_5 : decode cX4_isPending 5 = .ok (.aload_n 0, 1) := by decide +kernel
theorem dX4_isPending_6 : decode cX4_isPending 6 = .ok (.getfield 20, 3) := by decide +kernel
theorem dX4_isPending_9 : decode cX4_isPending 9 = .ok (.getfield 90, 3) := by decide +kernel
theorem dX4_isPending_12 : decode cX4_isPending 12 = .ok (.iload_n 1, 1) := by decide +kernel
theorem dX4_isPending_13 : decode cX4_isPending 13 = .ok (.iaload, 1) := by decide +kernel
theorem dX4_isPending_14 : decode cX4_isPending 14 = .ok (.iconst 1, 1) := by decide +kernel
theorem dX4_isPending_15 : decode cX4_isPending 15 = .ok (.if_icmp .ne 7, 3) := by decide +kernel
theorem dX4_isPending_18 : decode cX4_isPending 18 = .ok (.iconst 1, 1) := by decide +kernel
theorem dX4_isPending_19 : decode cX4_isPending 19 = .ok (.goto 4, 3) := by decide +kernel
theorem dX4_isPending_22 : decode cX4_isPending 22 = .ok (.iconst 0, 1) := by decide +kernel
theorem dX4_isPending_23 : decode cX4_isPending 23 = .ok (.ireturn, 1) := by decide +kernel
theorem dX4_isRefused_0 : decode cX4_isRefused 0 = .ok (.aload_n 0, 1) := by decide +kernel
theorem dX4_isRefused_1 : decode cX4_isRefused 1 = .ok (.iload_n 1, 1) := by decide +kernel
theorem dX4_isRefused_2 : decode cX4_isRefused 2 = .ok (.invokevirtual 79, 3) := by decide +kernel
theorem dX4_isRefused_5 : decode cX4_isRefused 5 = .ok (.aload_n 0, 1) := by decide +kernel
theorem dX4_isRefused_6 : decode cX4_isRefused 6 = .ok (.getfield 20, 3) := by decide +kernel
theorem dX4_isRefused_9 : decode cX4_isRefused 9 = .ok (.getfield 90, 3) := by decide +kernel
theorem dX4_isRefused_12 : decode cX4_isRefused 12 = .ok (.iload_n 1, 1) := by decide +kernel
theorem dX4_isRefused_13 : decode cX4_isRefused 13 = .ok (.iaload, 1) := by decide +kernel
theorem dX4_isRefused_14 : decode cX4_isRefused 14 = .ok (.iconst 2, 1) := by decide +kernel
theorem dX4_isRefused_15 : decode cX4_isRefused 15 = .ok (.if_icmp .ne 7, 3) := by decide +kernel
theorem dX4_isRefused_18 : decode cX4_isRefused 18 = .ok (.iconst 1, 1) := by decide +kernel
theorem dX4_isRefused_19 : decode cX4_isRefused 19 = .ok (.goto 4, 3) := by decide +kernel
theorem dX4_isRefused_22 : decode cX4_isRefused 22 = .ok (.iconst 0, 1) := by decide +kernel
theorem dX4_isRefused_23 : decode cX4_isRefused 23 = .ok (.ireturn, 1) := by decide +kernel
theorem dX4_isResident_0 : decode cX4_isResident 0 = .ok (.aload_n 0, 1) := by decide +kernel
theorem dX4_isResident_1 : decode cX4_isResident 1 = .ok (.iload_n 1, 1) := by decide +kernel
theorem dX4_isResident_2 : decode cX4_isResident 2 = .ok (.invokevirtual 79, 3) := by decide +kernel
theorem dX4_isResident_5 : decode cX4_isResident 5 = .ok (.aload_n 0, 1) := by decide +kernel
theorem dX4_isResident_6 : decode cX4_isResident 6 = .ok (.getfield 20, 3) := by decide +kernel
theorem dX4_isResident_9 : decode cX4_isResident 9 = .ok (.getfield 90, 3) := by decide +kernel
theorem dX4_isResident_12 : decode cX4_isResident 12 = .ok (.iload_n 1, 1) := by decide +kernel
theorem dX4_isResident_13 : decode cX4_isResident 13 = .ok (.iaload, 1) := by decide +kernel
theorem dX4_isResident_14 : decode cX4_isResident 14 = .ok (.iconst 3, 1) := by decide +kernel
theorem dX4_isResident_15 : decode cX4_isResident 15 = .ok (.if_icmp .ne 7, 3) := by decide +kernel
theorem dX4_isResident_18 : decode cX4_isResident 18 = .ok (.iconst 1, 1) := by decide +kernel
theorem dX4_isResident_19 : decode cX4_isResident 19 = .ok (.goto 4, 3) := by decide +kernel
theorem dX4_isResident_22 : decode cX4_isResident 22 = .ok (.iconst 0, 1) := by decide +kernel
theorem dX4_isResident_23 : decode cX4_isResident 23 = .ok (.ireturn, 1) := by decide +kernel
theorem dX4_drawerOf_0 : decode cX4_drawerOf 0 = .ok (.aload_n 0, 1) := by decide +kernel
theorem dX4_drawerOf_1 : decode cX4_drawerOf 1 = .ok (.iload_n 1, 1) := by decide +kernel
theorem dX4_drawerOf_2 : decode cX4_drawerOf 2 = .ok (.invokevirtual 79, 3) := by decide +kernel
theorem dX4_drawerOf_5 : decode cX4_drawerOf 5 = .ok (.aload_n 0, 1) := by decide +kernel
theorem dX4_drawerOf_6 : decode cX4_drawerOf 6 = .ok (.aload_n 0, 1) := by decide +kernel
theorem dX4_drawerOf_7 : decode cX4_drawerOf 7 = .ok (.getfield 20, 3) := by decide +kernel
theorem dX4_drawerOf_10 : decode cX4_drawerOf 10 = .ok (.getfield 90, 3) := by decide +kernel
theorem dX4_drawerOf_13 : decode cX4_drawerOf 13 = .ok (.iload_n 1, 1) := by decide +kernel
theorem dX4_drawerOf_14 : decode cX4_drawerOf 14 = .ok (.iaload, 1) := by decide +kernel
theorem dX4_drawerOf_15 : decode cX4_drawerOf 15 = .ok (.ifCond .eq 7, 3) := by decide +kernel
theorem dX4_drawerOf_18 : decode cX4_drawerOf 18 = .ok (.iconst 1, 1) := by decide +kernel
theorem dX4_drawerOf_19 : decode cX4_drawerOf 19 = .ok (.goto 4, 3) := by decide +kernel
theorem dX4_drawerOf_22 : decode cX4_drawerOf 22 = .ok (.iconst 0, 1) := by decide +kernel
theorem dX4_drawerOf_23 : decode cX4_drawerOf 23 = .ok (.invokevirtual 93, 3) := by decide +kernel
theorem dX4_drawerOf_26 : decode cX4_drawerOf 26 = .ok (.aload_n 0, 1) := by decide +kernel
theorem dX4_drawerOf_27 : decode cX4_drawerOf 27 = .ok (.getfield 20, 3) := by decide +kernel
theorem dX4_drawerOf_30 : decode cX4_drawerOf 30 = .ok (.getfield 97, 3) := by decide +kernel
theorem dX4_drawerOf_33 : decode cX4_drawerOf 33 = .ok (.iload_n 1, 1) := by decide +kernel
theorem dX4_drawerOf_34 : decode cX4_drawerOf 34 = .ok (.iaload, 1) := by decide +kernel
theorem dX4_drawerOf_35 : decode cX4_drawerOf 35 = .ok (.ireturn, 1) := by decide +kernel
theorem dX4_levelOf_0 : decode cX4_levelOf 0 = .ok (.aload_n 0, 1) := by decide +kernel
theorem dX4_levelOf_1 : decode cX4_levelOf 1 = .ok (.iload_n 1, 1) := by decide +kernel
theorem dX4_levelOf_2 : decode cX4_levelOf 2 = .ok (.invokevirtual 79, 3) := by decide +kernel
theorem dX4_levelOf_5 : decode cX4_levelOf 5 = .ok (.aload_n 0, 1) := by decide +kernel
theorem dX4_levelOf_6 : decode cX4_levelOf 6 = .ok (.aload_n 0, 1) := by decide +kernel
theorem dX4_levelOf_7 : decode cX4_levelOf 7 = .ok (.getfield 20, 3) := by decide +kernel
theorem dX4_levelOf_10 : decode cX4_levelOf 10 = .ok (.iload_n 1, 1) := by decide +kernel
theorem dX4_levelOf_11 : decode cX4_levelOf 11 = .ok (.invokevirtual 100, 3) := by decide +kernel
theorem dX4_levelOf_14 : decode cX4_levelOf 14 = .ok (.invokevirtual 93, 3) := by decide +kernel
theorem dX4_levelOf_17 : decode cX4_levelOf 17 = .ok (.aload_n 0, 1) := by decide +kernel
theorem dX4_levelOf_18 : decode cX4_levelOf 18 = .ok (.getfield 20, 3) := by decide +kernel
theorem dX4_levelOf_21 : decode cX4_levelOf 21 = .ok (.getfield 104, 3) := by decide +kernel
theorem dX4_levelOf_24 : decode cX4_levelOf 24 = .ok (.iload_n 1, 1) := by decide +kernel
theorem dX4_levelOf_25 : decode cX4_levelOf 25 = .ok (.iaload, 1) := by decide +kernel
theorem dX4_levelOf_26 : decode cX4_levelOf 26 = .ok (.ireturn, 1) := by decide +kernel
theorem dX4_visaDay_0 : decode cX4_visaDay 0 = .ok (.aload_n 0, 1) := by decide +kernel
theorem dX4_visaDay_1 : decode cX4_visaDay 1 = .ok (.iload_n 1, 1) := by decide +kernel
theorem dX4_visaDay_2 : decode cX4_visaDay 2 = .ok (.invokevirtual 79, 3) := by decide +kernel
theorem dX4_visaDay_5 : decode cX4_visaDay 5 = .ok (.aload_n 0, 1) := by decide +kernel
theorem dX4_visaDay_6 : decode cX4_visaDay 6 = .ok (.aload_n 0, 1) := by decide +kernel
theorem dX4_visaDay_7 : decode cX4_visaDay 7 = .ok (.getfield 20, 3) := by decide +kernel
theorem dX4_visaDay_10 : decode cX4_visaDay 10 = .ok (.getfield 90, 3) := by decide +kernel
theorem dX4_visaDay_13 : decode cX4_visaDay 13 = .ok (.iload_n 1, 1) := by decide +kernel
theorem dX4_visaDay_14 : decode cX4_visaDay 14 = .ok (.iaload, 1) := by decide +kernel
theorem dX4_visaDay_15 : decode cX4_visaDay 15 = .ok (.iconst 3, 1) := by decide +kernel
theorem dX4_visaDay_16 : decode cX4_visaDay 16 = .ok (.if_icmp .ne 7, 3) := by decide +kernel
theorem dX4_visaDay_19 : decode cX4_visaDay 19 = .ok (.iconst 1, 1) := by decide +kernel
theorem dX4_visaDay_20 : decode cX4_visaDay 20 = .ok (.goto 4, 3) := by decide +kernel
theorem dX4_visaDay_23 : decode cX4_visaDay 23 = .ok (.iconst 0, 1) := by decide +kernel
theorem dX4_visaDay_24 : decode cX4_visaDay 24 = .ok (.invokevirtual 93, 3) := by decide +kernel
theorem dX4_visaDay_27 : decode cX4_visaDay 27 = .ok (.aload_n 0, 1) := by decide +kernel
theorem dX4_visaDay_28 : decode cX4_visaDay 28 = .ok (.getfield 20, 3) := by decide +kernel
theorem dX4_visaDay_31 : decode cX4_visaDay 31 = .ok (.getfield 107, 3) := by decide +kernel
theorem dX4_visaDay_34 : decode cX4_visaDay 34 = .ok (.iload_n 1, 1) := by decide +kernel
theorem dX4_visaDay_35 : decode cX4_visaDay 35 = .ok (.iaload, 1) := by decide +kernel
theorem dX4_visaDay_36 : decode cX4_visaDay 36 = .ok (.ireturn, 1) := by decide +kernel
theorem dX4_partnerOf_0 : decode cX4_partnerOf 0 = .ok (.aload_n 0, 1) := by decide +kernel
theorem dX4_partnerOf_1 : decode cX4_partnerOf 1 = .ok (.iload_n 1, 1) := by decide +kernel
theorem dX4_partnerOf_2 : decode cX4_partnerOf 2 = .ok (.invokevirtual 79, 3) := by decide +kernel
theorem dX4_partnerOf_5 : decode cX4_partnerOf 5 = .ok (.aload_n 0, 1) := by decide +kernel
theorem dX4_partnerOf_6 : decode cX4_partnerOf 6 = .ok (.aload_n 0, 1) := by decide +kernel
theorem dX4_partnerOf_7 : decode cX4_partnerOf 7 = .ok (.getfield 20, 3) := by decide +kernel
theorem dX4_partnerOf_10 : decode cX4_partnerOf 10 = .ok (.getfield 110, 3) := by decide +kernel
theorem dX4_partnerOf_13 : decode cX4_partnerOf 13 = .ok (.iload_n 1, 1) := by decide +kernel
theorem dX4_partnerOf_14 : decode cX4_partnerOf 14 = .ok (.iaload, 1) := by decide +kernel
theorem dX4_partnerOf_15 : decode cX4_partnerOf 15 = .ok (.iconst (-1), 1) := by decide +kernel
theorem dX4_partnerOf_16 : decode cX4_partnerOf 16 = .ok (.if_icmp .eq 7, 3) := by decide +kernel
theorem dX4_partnerOf_19 : decode cX4_partnerOf 19 = .ok (.iconst 1, 1) := by decide +kernel
theorem dX4_partnerOf_20 : decode cX4_partnerOf 20 = .ok (.goto 4, 3) := by decide +kernel
theorem dX4_partnerOf_23 : decode cX4_partnerOf 23 = .ok (.iconst 0, 1) := by decide +kernel
theorem dX4_partnerOf_24 : decode cX4_partnerOf 24 = .ok (.invokevirtual 93, 3) := by decide +kernel
theorem dX4_partnerOf_27 : decode cX4_partnerOf 27 = .ok (.aload_n 0, 1) := by decide +kernel
theorem dX4_partnerOf_28 : decode cX4_partnerOf 28 = .ok (.getfield 20, 3) := by decide +kernel
theorem dX4_partnerOf_31 : decode cX4_partnerOf 31 = .ok (.getfield 110, 3) := by decide +kernel
theorem dX4_partnerOf_34 : decode cX4_partnerOf 34 = .ok (.iload_n 1, 1) := by decide +kernel
theorem dX4_partnerOf_35 : decode cX4_partnerOf 35 = .ok (.iaload, 1) := by decide +kernel
theorem dX4_partnerOf_36 : decode cX4_partnerOf 36 = .ok (.ireturn, 1) := by decide +kernel
theorem dX4_matches_0 : decode cX4_matches 0 = .ok (.aload_n 0, 1) := by decide +kernel
theorem dX4_matches_1 : decode cX4_matches 1 = .ok (.iload_n 1, 1) := by decide +kernel
theorem dX4_matches_2 : decode cX4_matches 2 = .ok (.invokevirtual 79, 3) := by decide +kernel
theorem dX4_matches_5 : decode cX4_matches 5 = .ok (.aload_n 0, 1) := by decide +kernel
theorem dX4_matches_6 : decode cX4_matches 6 = .ok (.iload_n 2, 1) := by decide +kernel
theorem dX4_matches_7 : decode cX4_matches 7 = .ok (.invokevirtual 79, 3) := by decide +kernel
theorem dX4_matches_10 : decode cX4_matches 10 = .ok (.aload_n 0, 1) := by decide +kernel
theorem dX4_matches_11 : decode cX4_matches 11 = .ok (.getfield 20, 3) := by decide +kernel
theorem dX4_matches_14 : decode cX4_matches 14 = .ok (.iload_n 1, 1) := by decide +kernel
theorem dX4_matches_15 : decode cX4_matches 15 = .ok (.iload_n 2, 1) := by decide +kernel
theorem dX4_matches_16 : decode cX4_matches 16 = .ok (.invokevirtual 113, 3) := by decide +kernel
theorem dX4_matches_19 : decode cX4_matches 19 = .ok (.ireturn, 1) := by decide +kernel
theorem dX4_apply_0 : decode cX4_apply 0 = .ok (.aload_n 0, 1) := by decide +kernel
theorem dX4_apply_1 : decode cX4_apply 1 = .ok (.aload_n 0, 1) := by decide +kernel
theorem dX4_apply_2 : decode cX4_apply 2 = .ok (.getfield 10, 3) := by decide +kernel
theorem dX4_apply_5 : decode cX4_apply 5 = .ok (.iload_n 1, 1) := by decide +kernel
theorem dX4_apply_6 : decode cX4_apply 6 = .ok (.iload_n 2, 1) := by decide +kernel
theorem dX4_apply_7 : decode cX4_apply 7 = .ok (.invokevirtual 117, 3) := by decide +kernel
theorem dX4_apply_10 : decode cX4_apply 10 = .ok (.invokevirtual 65, 3) := by decide +kernel
theorem dX4_apply_13 : decode cX4_apply 13 = .ok (.aload_n 0, 1) := by decide +kernel
theorem dX4_apply_14 : decode cX4_apply 14 = .ok (.getfield 30, 3) := by decide +kernel
theorem dX4_apply_17 : decode cX4_apply 17 = .ok (.aload_n 0, 1) := by decide +kernel
theorem dX4_apply_18 : decode cX4_apply 18 = .ok (.getfield 20, 3) := by decide +kernel
theorem dX4_apply_21 : decode cX4_apply 21 = .ok (.invokevirtual 69, 3) := by decide +kernel
theorem dX4_apply_24 : decode cX4_apply 24 = .ok (.aload_n 0, 1) := by decide +kernel
theorem dX4_apply_25 : decode cX4_apply 25 = .ok (.getfield 20, 3) := by decide +kernel
theorem dX4_apply_28 : decode cX4_apply 28 = .ok (.iload_n 1, 1) := by decide +kernel
theorem dX4_apply_29 : decode cX4_apply 29 = .ok (.iload_n 2, 1) := by decide +kernel
theorem dX4_apply_30 : decode cX4_apply 30 = .ok (.invokevirtual 121, 3) := by decide +kernel
theorem dX4_apply_33 : decode cX4_apply 33 = .ok (.ireturn, 1) := by decide +kernel
theorem dX4_withdraw_0 : decode cX4_withdraw 0 = .ok (.aload_n 0, 1) := by decide +kernel
theorem dX4_withdraw_1 : decode cX4_withdraw 1 = .ok (.aload_n 0, 1) := by decide +kernel
theorem dX4_withdraw_2 : decode cX4_withdraw 2 = .ok (.getfield 10, 3) := by decide +kernel
theorem dX4_withdraw_5 : decode cX4_withdraw 5 = .ok (.iload_n 1, 1) := by decide +kernel
theorem dX4_withdraw_6 : decode cX4_withdraw 6 = .ok (.invokevirtual 124, 3) := by decide +kernel
theorem dX4_withdraw_9 : decode cX4_withdraw 9 = .ok (.invokevirtual 65, 3) := by decide +kernel
theorem dX4_withdraw_12 : decode cX4_withdraw 12 = .ok (.aload_n 0, 1) := by decide +kernel
theorem dX4_withdraw_13 : decode cX4_withdraw 13 = .ok (.getfield 30, 3) := by decide +kernel
theorem dX4_withdraw_16 : decode cX4_withdraw 16 = .ok (.aload_n 0, 1) := by decide +kernel
theorem dX4_withdraw_17 : decode cX4_withdraw 17 = .ok (.getfield 20, 3) := by decide +kernel
theorem dX4_withdraw_20 : decode cX4_withdraw 20 = .ok (.invokevirtual 69, 3) := by decide +kernel
theorem dX4_withdraw_23 : decode cX4_withdraw 23 = .ok (.aload_n 0, 1) := by decide +kernel
theorem dX4_withdraw_24 : decode cX4_withdraw 24 = .ok (.getfield 20, 3) := by decide +kernel
theorem dX4_withdraw_27 : decode cX4_withdraw 27 = .ok (.iload_n 1, 1) := by decide +kernel
theorem dX4_withdraw_28 : decode cX4_withdraw 28 = .ok (.invokevirtual 128, 3) := by decide +kernel
theorem dX4_withdraw_31 : decode cX4_withdraw 31 = .ok (.ireturn, 1) := by decide +kernel
theorem dX4_appeal_0 : decode cX4_appeal 0 = .ok (.aload_n 0, 1) := by decide +kernel
theorem dX4_appeal_1 : decode cX4_appeal 1 = .ok (.aload_n 0, 1) := by decide +kernel
theorem dX4_appeal_2 : decode cX4_appeal 2 = .ok (.getfield 10, 3) := by decide +kernel
theorem dX4_appeal_5 : decode cX4_appeal 5 = .ok (.iload_n 1, 1) := by decide +kernel
theorem dX4_appeal_6 : decode cX4_appeal 6 = .ok (.invokevirtual 131, 3) := by decide +kernel
theorem dX4_appeal_9 : decode cX4_appeal 9 = .ok (.invokevirtual 65, 3) := by decide +kernel
theorem dX4_appeal_12 : decode cX4_appeal 12 = .ok (.aload_n 0, 1) := by decide +kernel
theorem dX4_appeal_13 : decode cX4_appeal 13 = .ok (.getfield 30, 3) := by decide +kernel
theorem dX4_appeal_16 : decode cX4_appeal 16 = .ok (.aload_n 0, 1) := by decide +kernel
theorem dX4_appeal_17 : decode cX4_appeal 17 = .ok (.getfield 20, 3) := by decide +kernel
theorem dX4_appeal_20 : decode cX4_appeal 20 = .ok (.invokevirtual 69, 3) := by decide +kernel
theorem dX4_appeal_23 : decode cX4_appeal 23 = .ok (.aload_n 0, 1) := by decide +kernel
theorem dX4_appeal_24 : decode cX4_appeal 24 = .ok (.getfield 20, 3) := by decide +kernel
theorem dX4_appeal_27 : decode cX4_appeal 27 = .ok (.iload_n 1, 1) := by decide +kernel
theorem dX4_appeal_28 : decode cX4_appeal 28 = .ok (.invokevirtual 134, 3) := by decide +kernel
theorem dX4_appeal_31 : decode cX4_appeal 31 = .ok (.ireturn, 1) := by decide +kernel
theorem dX4_decide_0 : decode cX4_decide 0 = .ok (.aload_n 0, 1) := by decide +kernel
theorem dX4_decide_1 : decode cX4_decide 1 = .ok (.aload_n 0, 1) := by decide +kernel
theorem dX4_decide_2 : decode cX4_decide 2 = .ok (.getfield 10, 3) := by decide +kernel
theorem dX4_decide_5 : decode cX4_decide 5 = .ok (.iload_n 1, 1) := by decide +kernel
theorem dX4_decide_6 : decode cX4_decide 6 = .ok (.invokevirtual 137, 3) := by decide +kernel
theorem dX4_decide_9 : decode cX4_decide 9 = .ok (.invokevirtual 65, 3) := by decide +kernel
theorem dX4_decide_12 : decode cX4_decide 12 = .ok (.aload_n 0, 1) := by decide +kernel
theorem dX4_decide_13 : decode cX4_decide 13 = .ok (.getfield 30, 3) := by decide +kernel
theorem dX4_decide_16 : decode cX4_decide 16 = .ok (.aload_n 0, 1) := by decide +kernel
theorem dX4_decide_17 : decode cX4_decide 17 = .ok (.getfield 20, 3) := by decide +kernel
theorem dX4_decide_20 : decode cX4_decide 20 = .ok (.invokevirtual 69, 3) := by decide +kernel
theorem dX4_decide_23 : decode cX4_decide 23 = .ok (.aload_n 0, 1) := by decide +kernel
theorem dX4_decide_24 : decode cX4_decide 24 = .ok (.getfield 20, 3) := by decide +kernel
theorem dX4_decide_27 : decode cX4_decide 27 = .ok (.iload_n 1, 1) := by decide +kernel
theorem dX4_decide_28 : decode cX4_decide 28 = .ok (.invokevirtual 140, 3) := by decide +kernel
theorem dX4_decide_31 : decode cX4_decide 31 = .ok (.ireturn, 1) := by decide +kernel
theorem dX4_wouldAdmit_0 : decode cX4_wouldAdmit 0 = .ok (.aload_n 0, 1) := by decide +kernel
theorem dX4_wouldAdmit_1 : decode cX4_wouldAdmit 1 = .ok (.iload_n 1, 1) := by decide +kernel
theorem dX4_wouldAdmit_2 : decode cX4_wouldAdmit 2 = .ok (.invokevirtual 143, 3) := by decide +kernel
theorem dX4_wouldAdmit_5 : decode cX4_wouldAdmit 5 = .ok (.aload_n 0, 1) := by decide +kernel
theorem dX4_wouldAdmit_6 : decode cX4_wouldAdmit 6 = .ok (.getfield 20, 3) := by decide +kernel
theorem dX4_wouldAdmit_9 : decode cX4_wouldAdmit 9 = .ok (.iload_n 1, 1) := by decide +kernel
theorem dX4_wouldAdmit_10 : decode cX4_wouldAdmit 10 = .ok (.invokevirtual 146, 3) := by decide +kernel
theorem dX4_wouldAdmit_13 : decode cX4_wouldAdmit 13 = .ok (.ireturn, 1) := by decide +kernel
theorem dX4_queueAt_0 : decode cX4_queueAt 0 = .ok (.aload_n 0, 1) := by decide +kernel
theorem dX4_queueAt_1 : decode cX4_queueAt 1 = .ok (.iload_n 1, 1) := by decide +kernel
theorem dX4_queueAt_2 : decode cX4_queueAt 2 = .ok (.invokevirtual 143, 3) := by decide +kernel
theorem dX4_queueAt_5 : decode cX4_queueAt 5 = .ok (.aload_n 0, 1) := by decide +kernel
theorem dX4_queueAt_6 : decode cX4_queueAt 6 = .ok (.getfield 20, 3) := by decide +kernel
theorem dX4_queueAt_9 : decode cX4_queueAt 9 = .ok (.iload_n 1, 1) := by decide +kernel
theorem dX4_queueAt_10 : decode cX4_queueAt 10 = .ok (.iload_n 2, 1) := by decide +kernel
theorem dX4_queueAt_11 : decode cX4_queueAt 11 = .ok (.invokevirtual 149, 3) := by decide +kernel
theorem dX4_queueAt_14 : decode cX4_queueAt 14 = .ok (.istore_n 3, 1) := by decide +kernel
theorem dX4_queueAt_15 : decode cX4_queueAt 15 = .ok (.aload_n 0, 1) := by decide +kernel
theorem dX4_queueAt_16 : decode cX4_queueAt 16 = .ok (.iload_n 3, 1) := by decide +kernel
theorem dX4_queueAt_17 : decode cX4_queueAt 17 = .ok (.iconst (-1), 1) := by decide +kernel
theorem dX4_queueAt_18 : decode cX4_queueAt 18 = .ok (.if_icmp .eq 7, 3) := by decide +kernel
theorem dX4_queueAt_21 : decode cX4_queueAt 21 = .ok (.iconst 1, 1) := by decide +kernel
theorem dX4_queueAt_22 : decode cX4_queueAt 22 = .ok (.goto 4, 3) := by decide +kernel
theorem dX4_queueAt_25 : decode cX4_queueAt 25 = .ok (.iconst 0, 1) := by decide +kernel
theorem dX4_queueAt_26 : decode cX4_queueAt 26 = .ok (.invokevirtual 93, 3) := by decide +kernel
theorem dX4_queueAt_29 : decode cX4_queueAt 29 = .ok (.iload_n 3, 1) := by decide +kernel
theorem dX4_queueAt_30 : decode cX4_queueAt 30 = .ok (.ireturn, 1) := by decide +kernel
theorem dX4_pendingCount_0 : decode cX4_pendingCount 0 = .ok (.aload_n 0, 1) := by decide +kernel
theorem dX4_pendingCount_1 : decode cX4_pendingCount 1 = .ok (.iload_n 1, 1) := by decide +kernel
theorem dX4_pendingCount_2 : decode cX4_pendingCount 2 = .ok (.invokevirtual 143, 3) := by decide +kernel
theorem dX4_pendingCount_5 : decode cX4_pendingCount 5 = .ok (.aload_n 0, 1) := by decide +kernel
theorem dX4_pendingCount_6 : decode cX4_pendingCount 6 = .ok (.getfield 20, 3) := by decide +kernel
theorem dX4_pendingCount_9 : decode cX4_pendingCount 9 = .ok (.iconst 1, 1) := by decide +kernel
theorem dX4_pendingCount_10 : decode cX4_pendingCount 10 = .ok (.iload_n 1, 1) := by decide +kernel
theorem dX4_pendingCount_11 : decode cX4_pendingCount 11 = .ok (.invokevirtual 152, 3) := by decide +kernel
theorem dX4_pendingCount_14 : decode cX4_pendingCount 14 = .ok (.ireturn, 1) := by decide +kernel
theorem dX4_renew_0 : decode cX4_renew 0 = .ok (.aload_n 0, 1) := by decide +kernel
theorem dX4_renew_1 : decode cX4_renew 1 = .ok (.aload_n 0, 1) := by decide +kernel
theorem dX4_renew_2 : decode cX4_renew 2 = .ok (.getfield 10, 3) := by decide +kernel
theorem dX4_renew_5 : decode cX4_renew 5 = .ok (.iload_n 1, 1) := by decide +kernel
theorem dX4_renew_6 : decode cX4_renew 6 = .ok (.iload_n 2, 1) := by decide +kernel
theorem dX4_renew_7 : decode cX4_renew 7 = .ok (.invokevirtual 155, 3) := by decide +kernel
theorem dX4_renew_10 : decode cX4_renew 10 = .ok (.invokevirtual 65, 3) := by decide +kernel
theorem dX4_renew_13 : decode cX4_renew 13 = .ok (.aload_n 0, 1) := by decide +kernel
theorem dX4_renew_14 : decode cX4_renew 14 = .ok (.getfield 30, 3) := by decide +kernel
theorem dX4_renew_17 : decode cX4_renew 17 = .ok (.aload_n 0, 1) := by decide +kernel
theorem dX4_renew_18 : decode cX4_renew 18 = .ok (.getfield 20, 3) := by decide +kernel
theorem dX4_renew_21 : decode cX4_renew 21 = .ok (.invokevirtual 69, 3) := by decide +kernel
theorem dX4_renew_24 : decode cX4_renew 24 = .ok (.aload_n 0, 1) := by decide +kernel
theorem dX4_renew_25 : decode cX4_renew 25 = .ok (.getfield 20, 3) := by decide +kernel
theorem dX4_renew_28 : decode cX4_renew 28 = .ok (.iload_n 1, 1) := by decide +kernel
theorem dX4_renew_29 : decode cX4_renew 29 = .ok (.iload_n 2, 1) := by decide +kernel
theorem dX4_renew_30 : decode cX4_renew 30 = .ok (.invokevirtual 158, 3) := by decide +kernel
theorem dX4_renew_33 : decode cX4_renew 33 = .ok (.ireturn, 1) := by decide +kernel
theorem dX4_leave_0 : decode cX4_leave 0 = .ok (.aload_n 0, 1) := by decide +kernel
theorem dX4_leave_1 : decode cX4_leave 1 = .ok (.aload_n 0, 1) := by decide +kernel
theorem dX4_leave_2 : decode cX4_leave 2 = .ok (.getfield 10, 3) := by decide +kernel
theorem dX4_leave_5 : decode cX4_leave 5 = .ok (.iload_n 1, 1) := by decide +kernel
theorem dX4_leave_6 : decode cX4_leave 6 = .ok (.invokevirtual 161, 3) := by decide +kernel
theorem dX4_leave_9 : decode cX4_leave 9 = .ok (.invokevirtual 65, 3) := by decide +kernel
theorem dX4_leave_12 : decode cX4_leave 12 = .ok (.aload_n 0, 1) := by decide +kernel
theorem dX4_leave_13 : decode cX4_leave 13 = .ok (.getfield 30, 3) := by decide +kernel
theorem dX4_leave_16 : decode cX4_leave 16 = .ok (.aload_n 0, 1) := by decide +kernel
theorem dX4_leave_17 : decode cX4_leave 17 = .ok (.getfield 20, 3) := by decide +kernel
theorem dX4_leave_20 : decode cX4_leave 20 = .ok (.invokevirtual 69, 3) := by decide +kernel
theorem dX4_leave_23 : decode cX4_leave 23 = .ok (.aload_n 0, 1) := by decide +kernel
theorem dX4_leave_24 : decode cX4_leave 24 = .ok (.getfield 20, 3) := by decide +kernel
theorem dX4_leave_27 : decode cX4_leave 27 = .ok (.iload_n 1, 1) := by decide +kernel
theorem dX4_leave_28 : decode cX4_leave 28 = .ok (.invokevirtual 164, 3) := by decide +kernel
theorem dX4_leave_31 : decode cX4_leave 31 = .ok (.ireturn, 1) := by decide +kernel
theorem dX4_move_0 : decode cX4_move 0 = .ok (.aload_n 0, 1) := by decide +kernel
theorem dX4_move_1 : decode cX4_move 1 = .ok (.aload_n 0, 1) := by decide +kernel
theorem dX4_move_2 : decode cX4_move 2 = .ok (.getfield 10, 3) := by decide +kernel
theorem dX4_move_5 : decode cX4_move 5 = .ok (.iload_n 1, 1) := by decide +kernel
theorem dX4_move_6 : decode cX4_move 6 = .ok (.iload_n 2, 1) := by decide +kernel
theorem dX4_move_7 : decode cX4_move 7 = .ok (.invokevirtual 167, 3) := by decide +kernel
theorem dX4_move_10 : decode cX4_move 10 = .ok (.invokevirtual 65, 3) := by decide +kernel
theorem dX4_move_13 : decode cX4_move 13 = .ok (.aload_n 0, 1) := by decide +kernel
theorem dX4_move_14 : decode cX4_move 14 = .ok (.getfield 30, 3) := by decide +kernel
theorem dX4_move_17 : decode cX4_move 17 = .ok (.aload_n 0, 1) := by decide +kernel
theorem dX4_move_18 : decode cX4_move 18 = .ok (.getfield 20, 3) := by decide +kernel
theorem dX4_move_21 : decode cX4_move 21 = .ok (.invokevirtual 69, 3) := by decide +kernel
theorem dX4_move_24 : decode cX4_move 24 = .ok (.aload_n 0, 1) := by decide +kernel
theorem dX4_move_25 : decode cX4_move 25 = .ok (.getfield 20, 3) := by decide +kernel
theorem dX4_move_28 : decode cX4_move 28 = .ok (.iload_n 1, 1) := by decide +kernel
theorem dX4_move_29 : decode cX4_move 29 = .ok (.iload_n 2, 1) := by decide +kernel
theorem dX4_move_30 : decode cX4_move 30 = .ok (.invokevirtual 170, 3) := by decide +kernel
theorem dX4_move_33 : decode cX4_move 33 = .ok (.ireturn, 1) := by decide +kernel
theorem dX4_pair_0 : decode cX4_pair 0 = .ok (.aload_n 0, 1) := by decide +kernel
theorem dX4_pair_1 : decode cX4_pair 1 = .ok (.aload_n 0, 1) := by decide +kernel
theorem dX4_pair_2 : decode cX4_pair 2 = .ok (.getfield 10, 3) := by decide +kernel
theorem dX4_pair_5 : decode cX4_pair 5 = .ok (.iload_n 1, 1) := by decide +kernel
theorem dX4_pair_6 : decode cX4_pair 6 = .ok (.iload_n 2, 1) := by decide +kernel
theorem dX4_pair_7 : decode cX4_pair 7 = .ok (.invokevirtual 173, 3) := by decide +kernel
theorem dX4_pair_10 : decode cX4_pair 10 = .ok (.invokevirtual 65, 3) := by decide +kernel
theorem dX4_pair_13 : decode cX4_pair 13 = .ok (.aload_n 0, 1) := by decide +kernel
theorem dX4_pair_14 : decode cX4_pair 14 = .ok (.getfield 30, 3) := by decide +kernel
theorem dX4_pair_17 : decode cX4_pair 17 = .ok (.aload_n 0, 1) := by decide +kernel
theorem dX4_pair_18 : decode cX4_pair 18 = .ok (.getfield 20, 3) := by decide +kernel
theorem dX4_pair_21 : decode cX4_pair 21 = .ok (.invokevirtual 69, 3) := by decide +kernel
theorem dX4_pair_24 : decode cX4_pair 24 = .ok (.aload_n 0, 1) := by decide +kernel
theorem dX4_pair_25 : decode cX4_pair 25 = .ok (.getfield 20, 3) := by decide +kernel
theorem dX4_pair_28 : decode cX4_pair 28 = .ok (.iload_n 1, 1) := by decide +kernel
theorem dX4_pair_29 : decode cX4_pair 29 = .ok (.iload_n 2, 1) := by decide +kernel
theorem dX4_pair_30 : decode cX4_pair 30 = .ok (.invokevirtual 176, 3) := by decide +kernel
theorem dX4_pair_33 : decode cX4_pair 33 = .ok (.ireturn, 1) := by decide +kernel
theorem dX4_separate_0 : decode cX4_separate 0 = .ok (.aload_n 0, 1) := by decide +kernel
theorem dX4_separate_1 : decode cX4_separate 1 = .ok (.aload_n 0, 1) := by decide +kernel
theorem dX4_separate_2 : decode cX4_separate 2 = .ok (.getfield 10, 3) := by decide +kernel
theorem dX4_separate_5 : decode cX4_separate 5 = .ok (.iload_n 1, 1) := by decide +kernel
theorem dX4_separate_6 : decode cX4_separate 6 = .ok (.invokevirtual 179, 3) := by decide +kernel
theorem dX4_separate_9 : decode cX4_separate 9 = .ok (.invokevirtual 65, 3) := by decide +kernel
theorem dX4_separate_12 : decode cX4_separate 12 = .ok (.aload_n 0, 1) := by decide +kernel
theorem dX4_separate_13 : decode cX4_separate 13 = .ok (.getfield 30, 3) := by decide +kernel
theorem dX4_separate_16 : decode cX4_separate 16 = .ok (.aload_n 0, 1) := by decide +kernel
theorem dX4_separate_17 : decode cX4_separate 17 = .ok (.getfield 20, 3) := by decide +kernel
theorem dX4_separate_20 : decode cX4_separate 20 = .ok (.invokevirtual 69, 3) := by decide +kernel
theorem dX4_separate_23 : decode cX4_separate 23 = .ok (.aload_n 0, 1) := by decide +kernel
theorem dX4_separate_24 : decode cX4_separate 24 = .ok (.getfield 20, 3) := by decide +kernel
theorem dX4_separate_27 : decode cX4_separate 27 = .ok (.iload_n 1, 1) := by decide +kernel
theorem dX4_separate_28 : decode cX4_separate 28 = .ok (.invokevirtual 182, 3) := by decide +kernel
theorem dX4_separate_31 : decode cX4_separate 31 = .ok (.ireturn, 1) := by decide +kernel
theorem dX4_pairCount_0 : decode cX4_pairCount 0 = .ok (.aload_n 0, 1) := by decide +kernel
theorem dX4_pairCount_1 : decode cX4_pairCount 1 = .ok (.iload_n 1, 1) := by decide +kernel
theorem dX4_pairCount_2 : decode cX4_pairCount 2 = .ok (.invokevirtual 143, 3) := by decide +kernel
theorem dX4_pairCount_5 : decode cX4_pairCount 5 = .ok (.aload_n 0, 1) := by decide +kernel
theorem dX4_pairCount_6 : decode cX4_pairCount 6 = .ok (.getfield 20, 3) := by decide +kernel
theorem dX4_pairCount_9 : decode cX4_pairCount 9 = .ok (.iload_n 1, 1) := by decide +kernel
theorem dX4_pairCount_10 : decode cX4_pairCount 10 = .ok (.invokevirtual 185, 3) := by decide +kernel
theorem dX4_pairCount_13 : decode cX4_pairCount 13 = .ok (.ireturn, 1) := by decide +kernel
theorem dX4_possiblePairs_0 : decode cX4_possiblePairs 0 = .ok (.aload_n 0, 1) := by decide +kernel
theorem dX4_possiblePairs_1 : decode cX4_possiblePairs 1 = .ok (.iload_n 1, 1) := by decide +kernel
theorem dX4_possiblePairs_2 : decode cX4_possiblePairs 2 = .ok (.invokevirtual 143, 3) := by decide +kernel
theorem dX4_possiblePairs_5 : decode cX4_possiblePairs 5 = .ok (.aload_n 0, 1) := by decide +kernel
theorem dX4_possiblePairs_6 : decode cX4_possiblePairs 6 = .ok (.getfield 20, 3) := by decide +kernel
theorem dX4_possiblePairs_9 : decode cX4_possiblePairs 9 = .ok (.iload_n 1, 1) := by decide +kernel
theorem dX4_possiblePairs_10 : decode cX4_possiblePairs 10 = .ok (.invokevirtual 188, 3) := by decide +kernel
theorem dX4_possiblePairs_13 : decode cX4_possiblePairs 13 = .ok (.ireturn, 1) := by decide +kernel
theorem dX4_possiblePairsByColours_0 : decode cX4_possiblePairsByColours 0 = .ok (.aload_n 0, 1) := by decide +kernel
theorem dX4_possiblePairsByColours_1 : decode cX4_possiblePairsByColours 1 = .ok (.iload_n 1, 1) := by decide +kernel
theorem dX4_possiblePairsByColours_2 : decode cX4_possiblePairsByColours 2 = .ok (.invokevirtual 143, 3) := by decide +kernel
theorem dX4_possiblePairsByColours_5 : decode cX4_possiblePairsByColours 5 = .ok (.aload_n 0, 1) := by decide +kernel
theorem dX4_possiblePairsByColours_6 : decode cX4_possiblePairsByColours 6 = .ok (.getfield 20, 3) := by decide +kernel
theorem dX4_possiblePairsByColours_9 : decode cX4_possiblePairsByColours 9 = .ok (.iload_n 1, 1) := by decide +kernel
theorem dX4_possiblePairsByColours_10 : decode cX4_possiblePairsByColours 10 = .ok (.invokevirtual 191, 3) := by decide +kernel
theorem dX4_possiblePairsByColours_13 : decode cX4_possiblePairsByColours 13 = .ok (.ireturn, 1) := by decide +kernel
theorem dX4_setQuota_0 : decode cX4_setQuota 0 = .ok (.aload_n 0, 1) := by decide +kernel
theorem dX4_setQuota_1 : decode cX4_setQuota 1 = .ok (.aload_n 0, 1) := by decide +kernel
theorem dX4_setQuota_2 : decode cX4_setQuota 2 = .ok (.getfield 10, 3) := by decide +kernel
theorem dX4_setQuota_5 : decode cX4_setQuota 5 = .ok (.iload_n 1, 1) := by decide +kernel
theorem dX4_setQuota_6 : decode cX4_setQuota 6 = .ok (.iload_n 2, 1) := by decide +kernel
theorem dX4_setQuota_7 : decode cX4_setQuota 7 = .ok (.invokevirtual 194, 3) := by decide +kernel
theorem dX4_setQuota_10 : decode cX4_setQuota 10 = .ok (.invokevirtual 65, 3) := by decide +kernel
theorem dX4_setQuota_13 : decode cX4_setQuota 13 = .ok (.aload_n 0, 1) := by decide +kernel
theorem dX4_setQuota_14 : decode cX4_setQuota 14 = .ok (.getfield 30, 3) := by decide +kernel
theorem dX4_setQuota_17 : decode cX4_setQuota 17 = .ok (.aload_n 0, 1) := by decide +kernel
theorem dX4_setQuota_18 : decode cX4_setQuota 18 = .ok (.getfield 20, 3) := by decide +kernel
theorem dX4_setQuota_21 : decode cX4_setQuota 21 = .ok (.invokevirtual 69, 3) := by decide +kernel
theorem dX4_setQuota_24 : decode cX4_setQuota 24 = .ok (.aload_n 0, 1) := by decide +kernel
theorem dX4_setQuota_25 : decode cX4_setQuota 25 = .ok (.getfield 20, 3) := by decide +kernel
theorem dX4_setQuota_28 : decode cX4_setQuota 28 = .ok (.iload_n 1, 1) := by decide +kernel
theorem dX4_setQuota_29 : decode cX4_setQuota 29 = .ok (.iload_n 2, 1) := by decide +kernel
theorem dX4_setQuota_30 : decode cX4_setQuota 30 = .ok (.invokevirtual 197, 3) := by decide +kernel
theorem dX4_setQuota_33 : decode cX4_setQuota 33 = .ok (.ireturn, 1) := by decide +kernel
theorem dX4_ban_0 : decode cX4_ban 0 = .ok (.aload_n 0, 1) := by decide +kernel
theorem dX4_ban_1 : decode cX4_ban 1 = .ok (.aload_n 0, 1) := by decide +kernel
theorem dX4_ban_2 : decode cX4_ban 2 = .ok (.getfield 10, 3) := by decide +kernel
theorem dX4_ban_5 : decode cX4_ban 5 = .ok (.iload_n 1, 1) := by decide +kernel
theorem dX4_ban_6 : decode cX4_ban 6 = .ok (.iload_n 2, 1) := by decide +kernel
theorem dX4_ban_7 : decode cX4_ban 7 = .ok (.invokevirtual 200, 3) := by decide +kernel
theorem dX4_ban_10 : decode cX4_ban 10 = .ok (.invokevirtual 65, 3) := by decide +kernel
theorem dX4_ban_13 : decode cX4_ban 13 = .ok (.aload_n 0, 1) := by decide +kernel
theorem dX4_ban_14 : decode cX4_ban 14 = .ok (.getfield 30, 3) := by decide +kernel
theorem dX4_ban_17 : decode cX4_ban 17 = .ok (.aload_n 0, 1) := by decide +kernel
theorem dX4_ban_18 : decode cX4_ban 18 = .ok (.getfield 20, 3) := by decide +kernel
theorem dX4_ban_21 : decode cX4_ban 21 = .ok (.invokevirtual 69, 3) := by decide +kernel
theorem dX4_ban_24 : decode cX4_ban 24 = .ok (.aload_n 0, 1) := by decide +kernel
theorem dX4_ban_25 : decode cX4_ban 25 = .ok (.getfield 20, 3) := by decide +kernel
theorem dX4_ban_28 : decode cX4_ban 28 = .ok (.iload_n 1, 1) := by decide +kernel
theorem dX4_ban_29 : decode cX4_ban 29 = .ok (.iload_n 2, 1) := by decide +kernel
theorem dX4_ban_30 : decode cX4_ban 30 = .ok (.invokevirtual 204, 3) := by decide +kernel
theorem dX4_ban_33 : decode cX4_ban 33 = .ok (.ireturn, 1) := by decide +kernel
theorem dX4_unban_0 : decode cX4_unban 0 = .ok (.aload_n 0, 1) := by decide +kernel
theorem dX4_unban_1 : decode cX4_unban 1 = .ok (.aload_n 0, 1) := by decide +kernel
theorem dX4_unban_2 : decode cX4_unban 2 = .ok (.getfield 10, 3) := by decide +kernel
theorem dX4_unban_5 : decode cX4_unban 5 = .ok (.iload_n 1, 1) := by decide +kernel
theorem dX4_unban_6 : decode cX4_unban 6 = .ok (.iload_n 2, 1) := by decide +kernel
theorem dX4_unban_7 : decode cX4_unban 7 = .ok (.invokevirtual 200, 3) := by decide +kernel
theorem dX4_unban_10 : decode cX4_unban 10 = .ok (.invokevirtual 65, 3) := by decide +kernel
theorem dX4_unban_13 : decode cX4_unban 13 = .ok (.aload_n 0, 1) := by decide +kernel
theorem dX4_unban_14 : decode cX4_unban 14 = .ok (.getfield 30, 3) := by decide +kernel
theorem dX4_unban_17 : decode cX4_unban 17 = .ok (.aload_n 0, 1) := by decide +kernel
theorem dX4_unban_18 : decode cX4_unban 18 = .ok (.getfield 20, 3) := by decide +kernel
theorem dX4_unban_21 : decode cX4_unban 21 = .ok (.invokevirtual 69, 3) := by decide +kernel
theorem dX4_unban_24 : decode cX4_unban 24 = .ok (.aload_n 0, 1) := by decide +kernel
theorem dX4_unban_25 : decode cX4_unban 25 = .ok (.getfield 20, 3) := by decide +kernel
theorem dX4_unban_28 : decode cX4_unban 28 = .ok (.iload_n 1, 1) := by decide +kernel
theorem dX4_unban_29 : decode cX4_unban 29 = .ok (.iload_n 2, 1) := by decide +kernel
theorem dX4_unban_30 : decode cX4_unban 30 = .ok (.invokevirtual 208, 3) := by decide +kernel
theorem dX4_unban_33 : decode cX4_unban 33 = .ok (.ireturn, 1) := by decide +kernel
theorem dX4_signTreaty_0 : decode cX4_signTreaty 0 = .ok (.aload_n 0, 1) := by decide +kernel
theorem dX4_signTreaty_1 : decode cX4_signTreaty 1 = .ok (.aload_n 0, 1) := by decide +kernel
theorem dX4_signTreaty_2 : decode cX4_signTreaty 2 = .ok (.getfield 10, 3) := by decide +kernel
theorem dX4_signTreaty_5 : decode cX4_signTreaty 5 = .ok (.iload_n 1, 1) := by decide +kernel
theorem dX4_signTreaty_6 : decode cX4_signTreaty 6 = .ok (.iload_n 2, 1) := by decide +kernel
theorem dX4_signTreaty_7 : decode cX4_signTreaty 7 = .ok (.iload_n 3, 1) := by decide +kernel
theorem dX4_signTreaty_8 : decode cX4_signTreaty 8 = .ok (.invokevirtual 211, 3) := by decide +kernel
theorem dX4_signTreaty_11 : decode cX4_signTreaty 11 = .ok (.invokevirtual 65, 3) := by decide +kernel
theorem dX4_signTreaty_14 : decode cX4_signTreaty 14 = .ok (.aload_n 0, 1) := by decide +kernel
theorem dX4_signTreaty_15 : decode cX4_signTreaty 15 = .ok (.getfield 30, 3) := by decide +kernel
theorem dX4_signTreaty_18 : decode cX4_signTreaty 18 = .ok (.aload_n 0, 1) := by decide +kernel
theorem dX4_signTreaty_19 : decode cX4_signTreaty 19 = .ok (.getfield 20, 3) := by decide +kernel
theorem dX4_signTreaty_22 : decode cX4_signTreaty 22 = .ok (.invokevirtual 69, 3) := by decide +kernel
theorem dX4_signTreaty_25 : decode cX4_signTreaty 25 = .ok (.aload_n 0, 1) := by decide +kernel
theorem dX4_signTreaty_26 : decode cX4_signTreaty 26 = .ok (.getfield 20, 3) := by decide +kernel
theorem dX4_signTreaty_29 : decode cX4_signTreaty 29 = .ok (.iload_n 1, 1) := by decide +kernel
theorem dX4_signTreaty_30 : decode cX4_signTreaty 30 = .ok (.iload_n 2, 1) := by decide +kernel
theorem dX4_signTreaty_31 : decode cX4_signTreaty 31 = .ok (.iload_n 3, 1) := by decide +kernel
theorem dX4_signTreaty_32 : decode cX4_signTreaty 32 = .ok (.invokevirtual 215, 3) := by decide +kernel
theorem dX4_signTreaty_35 : decode cX4_signTreaty 35 = .ok (.ireturn, 1) := by decide +kernel
theorem dX4_endTreaty_0 : decode cX4_endTreaty 0 = .ok (.aload_n 0, 1) := by decide +kernel
theorem dX4_endTreaty_1 : decode cX4_endTreaty 1 = .ok (.aload_n 0, 1) := by decide +kernel
theorem dX4_endTreaty_2 : decode cX4_endTreaty 2 = .ok (.getfield 10, 3) := by decide +kernel
theorem dX4_endTreaty_5 : decode cX4_endTreaty 5 = .ok (.iload_n 1, 1) := by decide +kernel
theorem dX4_endTreaty_6 : decode cX4_endTreaty 6 = .ok (.iload_n 2, 1) := by decide +kernel
theorem dX4_endTreaty_7 : decode cX4_endTreaty 7 = .ok (.invokevirtual 218, 3) := by decide +kernel
theorem dX4_endTreaty_10 : decode cX4_endTreaty 10 = .ok (.invokevirtual 65, 3) := by decide +kernel
theorem dX4_endTreaty_13 : decode cX4_endTreaty 13 = .ok (.aload_n 0, 1) := by decide +kernel
theorem dX4_endTreaty_14 : decode cX4_endTreaty 14 = .ok (.getfield 30, 3) := by decide +kernel
theorem dX4_endTreaty_17 : decode cX4_endTreaty 17 = .ok (.aload_n 0, 1) := by decide +kernel
theorem dX4_endTreaty_18 : decode cX4_endTreaty 18 = .ok (.getfield 20, 3) := by decide +kernel
theorem dX4_endTreaty_21 : decode cX4_endTreaty 21 = .ok (.invokevirtual 69, 3) := by decide +kernel
theorem dX4_endTreaty_24 : decode cX4_endTreaty 24 = .ok (.aload_n 0, 1) := by decide +kernel
theorem dX4_endTreaty_25 : decode cX4_endTreaty 25 = .ok (.getfield 20, 3) := by decide +kernel
theorem dX4_endTreaty_28 : decode cX4_endTreaty 28 = .ok (.iload_n 1, 1) := by decide +kernel
theorem dX4_endTreaty_29 : decode cX4_endTreaty 29 = .ok (.iload_n 2, 1) := by decide +kernel
theorem dX4_endTreaty_30 : decode cX4_endTreaty 30 = .ok (.invokevirtual 221, 3) := by decide +kernel
theorem dX4_endTreaty_33 : decode cX4_endTreaty 33 = .ok (.ireturn, 1) := by decide +kernel
theorem dX4_clauseOf_0 : decode cX4_clauseOf 0 = .ok (.aload_n 0, 1) := by decide +kernel
theorem dX4_clauseOf_1 : decode cX4_clauseOf 1 = .ok (.iload_n 1, 1) := by decide +kernel
theorem dX4_clauseOf_2 : decode cX4_clauseOf 2 = .ok (.invokevirtual 143, 3) := by decide +kernel
theorem dX4_clauseOf_5 : decode cX4_clauseOf 5 = .ok (.aload_n 0, 1) := by decide +kernel
theorem dX4_clauseOf_6 : decode cX4_clauseOf 6 = .ok (.iload_n 2, 1) := by decide +kernel
theorem dX4_clauseOf_7 : decode cX4_clauseOf 7 = .ok (.invokevirtual 143, 3) := by decide +kernel
theorem dX4_clauseOf_10 : decode cX4_clauseOf 10 = .ok (.aload_n 0, 1) := by decide +kernel
theorem dX4_clauseOf_11 : decode cX4_clauseOf 11 = .ok (.aload_n 0, 1) := by decide +kernel
theorem dX4_clauseOf_12 : decode cX4_clauseOf 12 = .ok (.getfield 20, 3) := by decide +kernel
theorem dX4_clauseOf_15 : decode cX4_clauseOf 15 = .ok (.iload_n 1, 1) := by decide +kernel
theorem dX4_clauseOf_16 : decode cX4_clauseOf 16 = .ok (.iload_n 2, 1) := by decide +kernel
theorem dX4_clauseOf_17 : decode cX4_clauseOf 17 = .ok (.invokevirtual 224, 3) := by decide +kernel
theorem dX4_clauseOf_20 : decode cX4_clauseOf 20 = .ok (.invokevirtual 93, 3) := by decide +kernel
theorem dX4_clauseOf_23 : decode cX4_clauseOf 23 = .ok (.aload_n 0, 1) := by decide +kernel
theorem dX4_clauseOf_24 : decode cX4_clauseOf 24 = .ok (.getfield 20, 3) := by decide +kernel
theorem dX4_clauseOf_27 : decode cX4_clauseOf 27 = .ok (.iload_n 1, 1) := by decide +kernel
theorem dX4_clauseOf_28 : decode cX4_clauseOf 28 = .ok (.iload_n 2, 1) := by decide +kernel
theorem dX4_clauseOf_29 : decode cX4_clauseOf 29 = .ok (.invokevirtual 227, 3) := by decide +kernel
theorem dX4_clauseOf_32 : decode cX4_clauseOf 32 = .ok (.i2c, 1) := by decide +kernel
theorem dX4_clauseOf_33 : decode cX4_clauseOf 33 = .ok (.ireturn, 1) := by decide +kernel
theorem dX4_quotaOf_0 : decode cX4_quotaOf 0 = .ok (.aload_n 0, 1) := by decide +kernel
theorem dX4_quotaOf_1 : decode cX4_quotaOf 1 = .ok (.iload_n 1, 1) := by decide +kernel
theorem dX4_quotaOf_2 : decode cX4_quotaOf 2 = .ok (.invokevirtual 143, 3) := by decide +kernel
theorem dX4_quotaOf_5 : decode cX4_quotaOf 5 = .ok (.aload_n 0, 1) := by decide +kernel
theorem dX4_quotaOf_6 : decode cX4_quotaOf 6 = .ok (.getfield 20, 3) := by decide +kernel
theorem dX4_quotaOf_9 : decode cX4_quotaOf 9 = .ok (.getfield 230, 3) := by decide +kernel
theorem dX4_quotaOf_12 : decode cX4_quotaOf 12 = .ok (.iload_n 1, 1) := by decide +kernel
theorem dX4_quotaOf_13 : decode cX4_quotaOf 13 = .ok (.iaload, 1) := by decide +kernel
theorem dX4_quotaOf_14 : decode cX4_quotaOf 14 = .ok (.ireturn, 1) := by decide +kernel
theorem dX4_residents_0 : decode cX4_residents 0 = .ok (.aload_n 0, 1) := by decide +kernel
theorem dX4_residents_1 : decode cX4_residents 1 = .ok (.iload_n 1, 1) := by decide +kernel
theorem dX4_residents_2 : decode cX4_residents 2 = .ok (.invokevirtual 143, 3) := by decide +kernel
theorem dX4_residents_5 : decode cX4_residents 5 = .ok (.aload_n 0, 1) := by decide +kernel
theorem dX4_residents_6 : decode cX4_residents 6 = .ok (.getfield 20, 3) := by decide +kernel
theorem dX4_residents_9 : decode cX4_residents 9 = .ok (.iconst 3, 1) := by decide +kernel
theorem dX4_residents_10 : decode cX4_residents 10 = .ok (.iload_n 1, 1) := by decide +kernel
theorem dX4_residents_11 : decode cX4_residents 11 = .ok (.invokevirtual 152, 3) := by decide +kernel
theorem dX4_residents_14 : decode cX4_residents 14 = .ok (.ireturn, 1) := by decide +kernel
theorem dX4_residentAt_0 : decode cX4_residentAt 0 = .ok (.aload_n 0, 1) := by decide +kernel
theorem dX4_residentAt_1 : decode cX4_residentAt 1 = .ok (.iload_n 1, 1) := by decide +kernel
theorem dX4_residentAt_2 : decode cX4_residentAt 2 = .ok (.invokevirtual 143, 3) := by decide +kernel
theorem dX4_residentAt_5 : decode cX4_residentAt 5 = .ok (.aload_n 0, 1) := by decide +kernel
theorem dX4_residentAt_6 : decode cX4_residentAt 6 = .ok (.getfield 20, 3) := by decide +kernel
theorem dX4_residentAt_9 : decode cX4_residentAt 9 = .ok (.iload_n 1, 1) := by decide +kernel
theorem dX4_residentAt_10 : decode cX4_residentAt 10 = .ok (.iload_n 2, 1) := by decide +kernel
theorem dX4_residentAt_11 : decode cX4_residentAt 11 = .ok (.invokevirtual 233, 3) := by decide +kernel
theorem dX4_residentAt_14 : decode cX4_residentAt 14 = .ok (.istore_n 3, 1) := by decide +kernel
theorem dX4_residentAt_15 : decode cX4_residentAt 15 = .ok (.aload_n 0, 1) := by decide +kernel
theorem dX4_residentAt_16 : decode cX4_residentAt 16 = .ok (.iload_n 3, 1) := by decide +kernel
theorem dX4_residentAt_17 : decode cX4_residentAt 17 = .ok (.iconst (-1), 1) := by decide +kernel
theorem dX4_residentAt_18 : decode cX4_residentAt 18 = .ok (.if_icmp .eq 7, 3) := by decide +kernel
theorem dX4_residentAt_21 : decode cX4_residentAt 21 = .ok (.iconst 1, 1) := by decide +kernel
theorem dX4_residentAt_22 : decode cX4_residentAt 22 = .ok (.goto 4, 3) := by decide +kernel
theorem dX4_residentAt_25 : decode cX4_residentAt 25 = .ok (.iconst 0, 1) := by decide +kernel
theorem dX4_residentAt_26 : decode cX4_residentAt 26 = .ok (.invokevirtual 93, 3) := by decide +kernel
theorem dX4_residentAt_29 : decode cX4_residentAt 29 = .ok (.iload_n 3, 1) := by decide +kernel
theorem dX4_residentAt_30 : decode cX4_residentAt 30 = .ok (.ireturn, 1) := by decide +kernel
theorem dX4_isBanned_0 : decode cX4_isBanned 0 = .ok (.aload_n 0, 1) := by decide +kernel
theorem dX4_isBanned_1 : decode cX4_isBanned 1 = .ok (.aload_n 0, 1) := by decide +kernel
theorem dX4_isBanned_2 : decode cX4_isBanned 2 = .ok (.getfield 10, 3) := by decide +kernel
theorem dX4_isBanned_5 : decode cX4_isBanned 5 = .ok (.iload_n 1, 1) := by decide +kernel
theorem dX4_isBanned_6 : decode cX4_isBanned 6 = .ok (.iload_n 2, 1) := by decide +kernel
theorem dX4_isBanned_7 : decode cX4_isBanned 7 = .ok (.invokevirtual 200, 3) := by decide +kernel
theorem dX4_isBanned_10 : decode cX4_isBanned 10 = .ok (.invokevirtual 65, 3) := by decide +kernel
theorem dX4_isBanned_13 : decode cX4_isBanned 13 = .ok (.aload_n 0, 1) := by decide +kernel
theorem dX4_isBanned_14 : decode cX4_isBanned 14 = .ok (.getfield 20, 3) := by decide +kernel
theorem dX4_isBanned_17 : decode cX4_isBanned 17 = .ok (.iload_n 1, 1) := by decide +kernel
theorem dX4_isBanned_18 : decode cX4_isBanned 18 = .ok (.iload_n 2, 1) := by decide +kernel
theorem dX4_isBanned_19 : decode cX4_isBanned 19 = .ok (.invokevirtual 236, 3) := by decide +kernel
theorem dX4_isBanned_22 : decode cX4_isBanned 22 = .ok (.ireturn, 1) := by decide +kernel
theorem dX4_canMove_0 : decode cX4_canMove 0 = .ok (.aload_n 0, 1) := by decide +kernel
theorem dX4_canMove_1 : decode cX4_canMove 1 = .ok (.iload_n 1, 1) := by decide +kernel
theorem dX4_canMove_2 : decode cX4_canMove 2 = .ok (.invokevirtual 79, 3) := by decide +kernel
theorem dX4_canMove_5 : decode cX4_canMove 5 = .ok (.aload_n 0, 1) := by decide +kernel
theorem dX4_canMove_6 : decode cX4_canMove 6 = .ok (.iload_n 2, 1) := by decide +kernel
theorem dX4_canMove_7 : decode cX4_canMove 7 = .ok (.invokevirtual 143, 3) := by decide +kernel
theorem dX4_canMove_10 : decode cX4_canMove 10 = .ok (.aload_n 0, 1) := by decide +kernel
theorem dX4_canMove_11 : decode cX4_canMove 11 = .ok (.getfield 10, 3) := by decide +kernel
theorem dX4_canMove_14 : decode cX4_canMove 14 = .ok (.iload_n 1, 1) := by decide +kernel
theorem dX4_canMove_15 : decode cX4_canMove 15 = .ok (.iload_n 2, 1) := by decide +kernel
theorem dX4_canMove_16 : decode cX4_canMove 16 = .ok (.invokevirtual 167, 3) := by decide +kernel
theorem dX4_canMove_19 : decode cX4_canMove 19 = .ok (.ifCond .ne 7, 3) := by decide +kernel
theorem dX4_canMove_22 : decode cX4_canMove 22 = .ok (.iconst 1, 1) := by decide +kernel
theorem dX4_canMove_23 : decode cX4_canMove 23 = .ok (.goto 4, 3) := by decide +kernel
theorem dX4_canMove_26 : decode cX4_canMove 26 = .ok (.iconst 0, 1) := by decide +kernel
theorem dX4_canMove_27 : decode cX4_canMove 27 = .ok (.ireturn, 1) := by decide +kernel
theorem dX4_passDays_0 : decode cX4_passDays 0 = .ok (.aload_n 0, 1) := by decide +kernel
theorem dX4_passDays_1 : decode cX4_passDays 1 = .ok (.aload_n 0, 1) := by decide +kernel
theorem dX4_passDays_2 : decode cX4_passDays 2 = .ok (.getfield 10, 3) := by decide +kernel
theorem dX4_passDays_5 : decode cX4_passDays 5 = .ok (.iload_n 1, 1) := by decide +kernel
theorem dX4_passDays_6 : decode cX4_passDays 6 = .ok (.invokevirtual 239, 3) := by decide +kernel
theorem dX4_passDays_9 : decode cX4_passDays 9 = .ok (.invokevirtual 65, 3) := by decide +kernel
theorem dX4_passDays_12 : decode cX4_passDays 12 = .ok (.aload_n 0, 1) := by decide +kernel
theorem dX4_passDays_13 : decode cX4_passDays 13 = .ok (.getfield 30, 3) := by decide +kernel
theorem dX4_passDays_16 : decode cX4_passDays 16 = .ok (.aload_n 0, 1) := by decide +kernel
theorem dX4_passDays_17 : decode cX4_passDays 17 = .ok (.getfield 20, 3) := by decide +kernel
theorem dX4_passDays_20 : decode cX4_passDays 20 = .ok (.invokevirtual 69, 3) := by decide +kernel
theorem dX4_passDays_23 : decode cX4_passDays 23 = .ok (.aload_n 0, 1) := by decide +kernel
theorem dX4_passDays_24 : decode cX4_passDays 24 = .ok (.getfield 20, 3) := by decide +kernel
theorem dX4_passDays_27 : decode cX4_passDays 27 = .ok (.iload_n 1, 1) := by decide +kernel
theorem dX4_passDays_28 : decode cX4_passDays 28 = .ok (.invokevirtual 242, 3) := by decide +kernel
theorem dX4_passDays_31 : decode cX4_passDays 31 = .ok (.ireturn, 1) := by decide +kernel
theorem dX4_day_0 : decode cX4_day 0 = .ok (.aload_n 0, 1) := by decide +kernel
theorem dX4_day_1 : decode cX4_day 1 = .ok (.getfield 20, 3) := by decide +kernel
theorem dX4_day_4 : decode cX4_day 4 = .ok (.getfield 245, 3) := by decide +kernel
theorem dX4_day_7 : decode cX4_day 7 = .ok (.ireturn, 1) := by decide +kernel
theorem dX4_wouldExpel_0 : decode cX4_wouldExpel 0 = .ok (.aload_n 0, 1) := by decide +kernel
theorem dX4_wouldExpel_1 : decode cX4_wouldExpel 1 = .ok (.aload_n 0, 1) := by decide +kernel
theorem dX4_wouldExpel_2 : decode cX4_wouldExpel 2 = .ok (.getfield 10, 3) := by decide +kernel
theorem dX4_wouldExpel_5 : decode cX4_wouldExpel 5 = .ok (.iload_n 1, 1) := by decide +kernel
theorem dX4_wouldExpel_6 : decode cX4_wouldExpel 6 = .ok (.invokevirtual 239, 3) := by decide +kernel
theorem dX4_wouldExpel_9 : decode cX4_wouldExpel 9 = .ok (.invokevirtual 65, 3) := by decide +kernel
theorem dX4_wouldExpel_12 : decode cX4_wouldExpel 12 = .ok (.aload_n 0, 1) := by decide +kernel
theorem dX4_wouldExpel_13 : decode cX4_wouldExpel 13 = .ok (.getfield 20, 3) := by decide +kernel
theorem dX4_wouldExpel_16 : decode cX4_wouldExpel 16 = .ok (.aload_n 0, 1) := by decide +kernel
theorem dX4_wouldExpel_17 : decode cX4_wouldExpel 17 = .ok (.getfield 20, 3) := by decide +kernel
theorem dX4_wouldExpel_20 : decode cX4_wouldExpel 20 = .ok (.getfield 245, 3) := by decide +kernel
theorem dX4_wouldExpel_23 : decode cX4_wouldExpel 23 = .ok (.iload_n 1, 1) := by decide +kernel
theorem dX4_wouldExpel_24 : decode cX4_wouldExpel 24 = .ok (.iadd, 1) := by decide +kernel
theorem dX4_wouldExpel_25 : decode cX4_wouldExpel 25 = .ok (.invokevirtual 248, 3) := by decide +kernel
theorem dX4_wouldExpel_28 : decode cX4_wouldExpel 28 = .ok (.ireturn, 1) := by decide +kernel
theorem dX4_admittedCount_0 : decode cX4_admittedCount 0 = .ok (.aload_n 0, 1) := by decide +kernel
theorem dX4_admittedCount_1 : decode cX4_admittedCount 1 = .ok (.getfield 20, 3) := by decide +kernel
theorem dX4_admittedCount_4 : decode cX4_admittedCount 4 = .ok (.getfield 251, 3) := by decide +kernel
theorem dX4_admittedCount_7 : decode cX4_admittedCount 7 = .ok (.ireturn, 1) := by decide +kernel
theorem dX4_refusedCount_0 : decode cX4_refusedCount 0 = .ok (.aload_n 0, 1) := by decide +kernel
theorem dX4_refusedCount_1 : decode cX4_refusedCount 1 = .ok (.getfield 20, 3) := by decide +kernel
theorem dX4_refusedCount_4 : decode cX4_refusedCount 4 = .ok (.getfield 254, 3) := by decide +kernel
theorem dX4_refusedCount_7 : decode cX4_refusedCount 7 = .ok (.ireturn, 1) := by decide +kernel
theorem dX4_expelledCount_0 : decode cX4_expelledCount 0 = .ok (.aload_n 0, 1) := by decide +kernel
theorem dX4_expelledCount_1 : decode cX4_expelledCount 1 = .ok (.getfield 20, 3) := by decide +kernel
theorem dX4_expelledCount_4 : decode cX4_expelledCount 4 = .ok (.getfield 257, 3) := by decide +kernel
theorem dX4_expelledCount_7 : decode cX4_expelledCount 7 = .ok (.ireturn, 1) := by decide +kernel
theorem dX4_admissionBalance_0 : decode cX4_admissionBalance 0 = .ok (.aload_n 0, 1) := by decide +kernel
theorem dX4_admissionBalance_1 : decode cX4_admissionBalance 1 = .ok (.getfield 20, 3) := by decide +kernel
theorem dX4_admissionBalance_4 : decode cX4_admissionBalance 4 = .ok (.getfield 251, 3) := by decide +kernel
theorem dX4_admissionBalance_7 : decode cX4_admissionBalance 7 = .ok (.aload_n 0, 1) := by decide +kernel
theorem dX4_admissionBalance_8 : decode cX4_admissionBalance 8 = .ok (.getfield 20, 3) := by decide +kernel
theorem dX4_admissionBalance_11 : decode cX4_admissionBalance 11 = .ok (.getfield 257, 3) := by decide +kernel
theorem dX4_admissionBalance_14 : decode cX4_admissionBalance 14 = .ok (.isub, 1) := by decide +kernel
theorem dX4_admissionBalance_15 : decode cX4_admissionBalance 15 = .ok (.ireturn, 1) := by decide +kernel
theorem dX4_drawerByResidents_0 : decode cX4_drawerByResidents 0 = .ok (.aload_n 0, 1) := by decide +kernel
theorem dX4_drawerByResidents_1 : decode cX4_drawerByResidents 1 = .ok (.getfield 20, 3) := by decide +kernel
theorem dX4_drawerByResidents_4 : decode cX4_drawerByResidents 4 = .ok (.iload_n 1, 1) := by decide +kernel
theorem dX4_drawerByResidents_5 : decode cX4_drawerByResidents 5 = .ok (.invokevirtual 260, 3) := by decide +kernel
theorem dX4_drawerByResidents_8 : decode cX4_drawerByResidents 8 = .ok (.istore_n 2, 1) := by decide +kernel
theorem dX4_drawerByResidents_9 : decode cX4_drawerByResidents 9 = .ok (.aload_n 0, 1) := by decide +kernel
theorem dX4_drawerByResidents_10 : decode cX4_drawerByResidents 10 = .ok (.iload_n 2, 1) := by decide +kernel
theorem dX4_drawerByResidents_11 : decode cX4_drawerByResidents 11 = .ok (.iconst (-1), 1) := by decide +kernel
theorem dX4_drawerByResidents_12 : decode cX4_drawerByResidents 12 = .ok (.if_icmp .eq 7, 3) := by decide +kernel
theorem dX4_drawerByResidents_15 : decode cX4_drawerByResidents 15 = .ok (.iconst 1, 1) := by decide +kernel
theorem dX4_drawerByResidents_16 : decode cX4_drawerByResidents 16 = .ok (.goto 4, 3) := by decide +kernel
theorem dX4_drawerByResidents_19 : decode cX4_drawerByResidents 19 = .ok (.iconst 0, 1) := by decide +kernel
theorem dX4_drawerByResidents_20 : decode cX4_drawerByResidents 20 = .ok (.invokevirtual 93, 3) := by decide +kernel
theorem dX4_drawerByResidents_23 : decode cX4_drawerByResidents 23 = .ok (.iload_n 2, 1) := by decide +kernel
theorem dX4_drawerByResidents_24 : decode cX4_drawerByResidents 24 = .ok (.ireturn, 1) := by decide +kernel
theorem dX4_meanSize_0 : decode cX4_meanSize 0 = .ok (.aload_n 0, 1) := by decide +kernel
theorem dX4_meanSize_1 : decode cX4_meanSize 1 = .ok (.invokevirtual 263, 3) := by decide +kernel
theorem dX4_meanSize_4 : decode cX4_meanSize 4 = .ok (.aload_n 0, 1) := by decide +kernel
theorem dX4_meanSize_5 : decode cX4_meanSize 5 = .ok (.getfield 20, 3) := by decide +kernel
theorem dX4_meanSize_8 : decode cX4_meanSize 8 = .ok (.invokevirtual 266, 3) := by decide +kernel
theorem dX4_meanSize_11 : decode cX4_meanSize 11 = .ok (.i2d, 1) := by decide +kernel
theorem dX4_meanSize_12 : decode cX4_meanSize 12 = .ok (.aload_n 0, 1) := by decide +kernel
theorem dX4_meanSize_13 : decode cX4_meanSize 13 = .ok (.getfield 20, 3) := by decide +kernel
theorem dX4_meanSize_16 : decode cX4_meanSize 16 = .ok (.getfield 76, 3) := by decide +kernel
theorem dX4_meanSize_19 : decode cX4_meanSize 19 = .ok (.i2d, 1) := by decide +kernel
theorem dX4_meanSize_20 : decode cX4_meanSize 20 = .ok (.ddiv, 1) := by decide +kernel
theorem dX4_meanSize_21 : decode cX4_meanSize 21 = .ok (.dreturn, 1) := by decide +kernel
theorem dX4_residentShare_0 : decode cX4_residentShare 0 = .ok (.aload_n 0, 1) := by decide +kernel
theorem dX4_residentShare_1 : decode cX4_residentShare 1 = .ok (.invokevirtual 263, 3) := by decide +kernel
theorem dX4_residentShare_4 : decode cX4_residentShare 4 = .ok (.aload_n 0, 1) := by decide +kernel
theorem dX4_residentShare_5 : decode cX4_residentShare 5 = .ok (.getfield 20, 3) := by decide +kernel
theorem dX4_residentShare_8 : decode cX4_residentShare 8 = .ok (.invokevirtual 270, 3) := by decide +kernel
theorem dX4_residentShare_11 : decode cX4_residentShare 11 = .ok (.i2f, 1) := by decide +kernel
theorem dX4_residentShare_12 : decode cX4_residentShare 12 = .ok (.aload_n 0, 1) := by decide +kernel
theorem dX4_residentShare_13 : decode cX4_residentShare 13 = .ok (.getfield 20, 3) := by decide +kernel
theorem dX4_residentShare_16 : decode cX4_residentShare 16 = .ok (.getfield 76, 3) := by decide +kernel
theorem dX4_residentShare_19 : decode cX4_residentShare 19 = .ok (.i2f, 1) := by decide +kernel
theorem dX4_residentShare_20 : decode cX4_residentShare 20 = .ok (.fdiv, 1) := by decide +kernel
theorem dX4_residentShare_21 : decode cX4_residentShare 21 = .ok (.freturn, 1) := by decide +kernel
theorem dX4_isConsistent_0 : decode cX4_isConsistent 0 = .ok (.aload_n 0, 1) := by decide +kernel
theorem dX4_isConsistent_1 : decode cX4_isConsistent 1 = .ok (.getfield 20, 3) := by decide +kernel
theorem dX4_isConsistent_4 : decode cX4_isConsistent 4 = .ok (.invokevirtual 273, 3) := by decide +kernel
theorem dX4_isConsistent_7 : decode cX4_isConsistent 7 = .ok (.ifCond .eq 17, 3) := by decide +kernel
theorem dX4_isConsistent_10 : decode cX4_isConsistent 10 = .ok (.aload_n 0, 1) := by decide +kernel
theorem dX4_isConsistent_11 : decode cX4_isConsistent 11 = .ok (.getfield 20, 3) := by decide +kernel
theorem dX4_isConsistent_14 : decode cX4_isConsistent 14 = .ok (.invokevirtual 277, 3) := by decide +kernel
theorem dX4_isConsistent_17 : decode cX4_isConsistent 17 = .ok (.ifCond .eq 7, 3) := by decide +kernel
theorem dX4_isConsistent_20 : decode cX4_isConsistent 20 = .ok (.iconst 1, 1) := by decide +kernel
theorem dX4_isConsistent_21 : decode cX4_isConsistent 21 = .ok (.goto 4, 3) := by decide +kernel
theorem dX4_isConsistent_24 : decode cX4_isConsistent 24 = .ok (.iconst 0, 1) := by decide +kernel
theorem dX4_isConsistent_25 : decode cX4_isConsistent 25 = .ok (.ireturn, 1) := by decide +kernel
theorem dX4_writeSock_0 : decode cX4_writeSock 0 = .ok (.aload_n 0, 1) := by decide +kernel
theorem dX4_writeSock_1 : decode cX4_writeSock 1 = .ok (.iload_n 1, 1) := by decide +kernel
theorem dX4_writeSock_2 : decode cX4_writeSock 2 = .ok (.invokevirtual 79, 3) := by decide +kernel
theorem dX4_writeSock_5 : decode cX4_writeSock 5 = .ok (.aload_n 0, 1) := by decide +kernel
theorem dX4_writeSock_6 : decode cX4_writeSock 6 = .ok (.getfield 44, 3) := by decide +kernel
theorem dX4_writeSock_9 : decode cX4_writeSock 9 = .ok (.iconst 0, 1) := by decide +kernel
theorem dX4_writeSock_10 : decode cX4_writeSock 10 = .ok (.invokevirtual 280, 3) := by decide +kernel
theorem dX4_writeSock_13 : decode cX4_writeSock 13 = .ok (.aload_n 0, 1) := by decide +kernel
theorem dX4_writeSock_14 : decode cX4_writeSock 14 = .ok (.getfield 44, 3) := by decide +kernel
theorem dX4_writeSock_17 : decode cX4_writeSock 17 = .ok (.iload_n 1, 1) := by decide +kernel
theorem dX4_writeSock_18 : decode cX4_writeSock 18 = .ok (.invokevirtual 283, 3) := by decide +kernel
theorem dX4_writeSock_21 : decode cX4_writeSock 21 = .ok (.bipush 58, 2) := by decide +kernel
theorem dX4_writeSock_23 : decode cX4_writeSock 23 = .ok (.invokevirtual 287, 3) := by decide +kernel
theorem dX4_writeSock_26 : decode cX4_writeSock 26 = .ok (.aload_n 0, 1) := by decide +kernel
theorem dX4_writeSock_27 : decode cX4_writeSock 27 = .ok (.getfield 20, 3) := by decide +kernel
theorem dX4_writeSock_30 : decode cX4_writeSock 30 = .ok (.iload_n 1, 1) := by decide +kernel
theorem dX4_writeSock_31 : decode cX4_writeSock 31 = .ok (.invokevirtual 82, 3) := by decide +kernel
theorem dX4_writeSock_34 : decode cX4_writeSock 34 = .ok (.invokevirtual 287, 3) := by decide +kernel
theorem dX4_writeSock_37 : decode cX4_writeSock 37 = .ok (.aload_n 0, 1) := by decide +kernel
theorem dX4_writeSock_38 : decode cX4_writeSock 38 = .ok (.getfield 20, 3) := by decide +kernel
theorem dX4_writeSock_41 : decode cX4_writeSock 41 = .ok (.getfield 86, 3) := by decide +kernel
theorem dX4_writeSock_44 : decode cX4_writeSock 44 = .ok (.iload_n 1, 1) := by decide +kernel
theorem dX4_writeSock_45 : decode cX4_writeSock 45 = .ok (.iaload, 1) := by decide +kernel
theorem dX4_writeSock_46 : decode cX4_writeSock 46 = .ok (.invokevirtual 283, 3) := by decide +kernel
theorem dX4_writeSock_49 : decode cX4_writeSock 49 = .ok (.pop, 1) := by decide +kernel
theorem dX4_writeSock_50 : decode cX4_writeSock 50 = .ok (.aload_n 0, 1) := by decide +kernel
theorem dX4_writeSock_51 : decode cX4_writeSock 51 = .ok (.getfield 20, 3) := by decide +kernel
theorem dX4_writeSock_54 : decode cX4_writeSock 54 = .ok (.getfield 90, 3) := by decide +kernel
theorem dX4_writeSock_57 : decode cX4_writeSock 57 = .ok (.iload_n 1, 1) := by decide +kernel
theorem dX4_writeSock_58 : decode cX4_writeSock 58 = .ok (.iaload, 1) := by decide +kernel
theorem dX4_writeSock_59 : decode cX4_writeSock 59 = .ok (.ifCond .ne 16, 3) := by decide +kernel
theorem dX4_writeSock_62 : decode cX4_writeSock 62 = .ok (.aload_n 0, 1) := by decide +kernel
theorem dX4_writeSock_63 : decode cX4_writeSock 63 = .ok (.getfield 44, 3) := by decide +kernel
theorem dX4_writeSock_66 : decode cX4_writeSock 66 = .ok (.bipush 45, 2) := by decide +kernel
theorem dX4_writeSock_68 : decode cX4_writeSock 68 = .ok (.invokevirtual 287, 3) := by decide +kernel
theorem dX4_writeSock_71 : decode cX4_writeSock 71 = .ok (.pop, 1) := by decide +kernel
theorem dX4_writeSock_72 : decode cX4_writeSock 72 = .ok (.goto 29, 3) := by decide +kernel
theorem dX4_writeSock_75 : decode cX4_writeSock 75 = .ok (.aload_n 0, 1) := by decide +kernel
theorem dX4_writeSock_76 : decode cX4_writeSock 76 = .ok (.getfield 20, 3) := by decide +kernel
theorem dX4_writeSock_79 : decode cX4_writeSock 79 = .ok (.getfield 90, 3) := by decide +kernel
theorem dX4_writeSock_82 : decode cX4_writeSock 82 = .ok (.iload_n 1, 1) := by decide +kernel
theorem dX4_writeSock_83 : decode cX4_writeSock 83 = .ok (.iaload, 1) := by decide +kernel
theorem dX4_writeSock_84 : decode cX4_writeSock 84 = .ok (.iconst 3, 1) := by decide +kernel
theorem dX4_writeSock_85 : decode cX4_writeSock 85 = .ok (.if_icmp .ne 11, 3) := by decide +kernel
theorem dX4_writeSock_88 : decode cX4_writeSock 88 = .ok (.aload_n 0, 1) := by decide +kernel
theorem dX4_writeSock_89 : decode cX4_writeSock 89 = .ok (.iload_n 1, 1) := by decide +kernel
theorem dX4_writeSock_90 : decode cX4_writeSock 90 = .ok (.invokevirtual 290, 3) := by decide +kernel
theorem dX4_writeSock_93 : decode cX4_writeSock 93 = .ok (.goto 8, 3) := by decide +kernel
theorem dX4_writeSock_96 : decode cX4_writeSock 96 = .ok (.aload_n 0, 1) := by decide +kernel
theorem dX4_writeSock_97 : decode cX4_writeSock 97 = .ok (.iload_n 1, 1) := by decide +kernel
theorem dX4_writeSock_98 : decode cX4_writeSock 98 = .ok (.invokevirtual 293, 3) := by decide +kernel
theorem dX4_writeSock_101 : decode cX4_writeSock 101 = .ok (.aload_n 0, 1) := by decide +kernel
theorem dX4_writeSock_102 : decode cX4_writeSock 102 = .ok (.getfield 44, 3) := by decide +kernel
theorem dX4_writeSock_105 : decode cX4_writeSock 105 = .ok (.invokevirtual 296, 3) := by decide +kernel
theorem dX4_writeSock_108 : decode cX4_writeSock 108 = .ok (.ireturn, 1) := by decide +kernel
theorem dX4_outputAt_0 : decode cX4_outputAt 0 = .ok (.aload_n 0, 1) := by decide +kernel
theorem dX4_outputAt_1 : decode cX4_outputAt 1 = .ok (.iload_n 1, 1) := by decide +kernel
theorem dX4_outputAt_2 : decode cX4_outputAt 2 = .ok (.ifCond .lt 18, 3) := by decide +kernel
theorem dX4_outputAt_5 : decode cX4_outputAt 5 = .ok (.iload_n 1, 1) := by decide +kernel
theorem dX4_outputAt_6 : decode cX4_outputAt 6 = .ok (.aload_n 0, 1) := by decide +kernel
theorem dX4_outputAt_7 : decode cX4_outputAt 7 = .ok (.getfield 44, 3) := by decide +kernel
theorem dX4_outputAt_10 : decode cX4_outputAt 10 = .ok (.invokevirtual 296, 3) := by decide +kernel
theorem dX4_outputAt_13 : decode cX4_outputAt 13 = .ok (.if_icmp .ge 7, 3) := by decide +kernel
theorem dX4_outputAt_16 : decode cX4_outputAt 16 = .ok (.iconst 1, 1) := by decide +kernel
theorem dX4_outputAt_17 : decode cX4_outputAt 17 = .ok (.goto 4, 3) := by decide +kernel
theorem dX4_outputAt_20 : decode cX4_outputAt 20 = .ok (.iconst 0, 1) := by decide +kernel
theorem dX4_outputAt_21 : decode cX4_outputAt 21 = .ok (.invokevirtual 299, 3) := by decide +kernel
theorem dX4_outputAt_24 : decode cX4_outputAt 24 = .ok (.aload_n 0, 1) := by decide +kernel
theorem dX4_outputAt_25 : decode cX4_outputAt 25 = .ok (.getfield 44, 3) := by decide +kernel
theorem dX4_outputAt_28 : decode cX4_outputAt 28 = .ok (.iload_n 1, 1) := by decide +kernel
theorem dX4_outputAt_29 : decode cX4_outputAt 29 = .ok (.invokevirtual 302, 3) := by decide +kernel
theorem dX4_outputAt_32 : decode cX4_outputAt 32 = .ok (.ireturn, 1) := by decide +kernel
theorem dX4_appendInput_0 : decode cX4_appendInput 0 = .ok (.aload_n 0, 1) := by decide +kernel
theorem dX4_appendInput_1 : decode cX4_appendInput 1 = .ok (.iload_n 1, 1) := by decide +kernel
theorem dX4_appendInput_2 : decode cX4_appendInput 2 = .ok (.bipush 32, 2) := by decide +kernel
theorem dX4_appendInput_4 : decode cX4_appendInput 4 = .ok (.if_icmp .lt 13, 3) := by decide +kernel
theorem dX4_appendInput_7 : decode cX4_appendInput 7 = .ok (.iload_n 1, 1) := by decide +kernel
theorem dX4_appendInput_8 : decode cX4_appendInput 8 = .ok (.bipush 126, 2) := by decide +kernel
theorem dX4_appendInput_10 : decode cX4_appendInput 10 = .ok (.if_icmp .gt 7, 3) := by decide +kernel
theorem dX4_appendInput_13 : decode cX4_appendInput 13 = .ok (.iconst 1, 1) := by decide +kernel
theorem dX4_appendInput_14 : decode cX4_appendInput 14 = .ok (.goto 4, 3) := by decide +kernel
theorem dX4_appendInput_17 : decode cX4_appendInput 17 = .ok (.iconst 0, 1) := by decide +kernel
theorem dX4_appendInput_18 : decode cX4_appendInput 18 = .ok (.invokevirtual 305, 3) := by decide +kernel
theorem dX4_appendInput_21 : decode cX4_appendInput 21 = .ok (.aload_n 0, 1) := by decide +kernel
theorem dX4_appendInput_22 : decode cX4_appendInput 22 = .ok (.aload_n 0, 1) := by decide +kernel
theorem dX4_appendInput_23 : decode cX4_appendInput 23 = .ok (.getfield 37, 3) := by decide +kernel
theorem dX4_appendInput_26 : decode cX4_appendInput 26 = .ok (.getfield 308, 3) := by decide +kernel
theorem dX4_appendInput_29 : decode cX4_appendInput 29 = .ok (.bipush 60, 2) := by decide +kernel
theorem dX4_appendInput_31 : decode cX4_appendInput 31 = .ok (.if_icmp .ge 7, 3) := by decide +kernel
theorem dX4_appendInput_34 : decode cX4_appendInput 34 = .ok (.iconst 1, 1) := by decide +kernel
theorem dX4_appendInput_35 : decode cX4_appendInput 35 = .ok (.goto 4, 3) := by decide +kernel
theorem dX4_appendInput_38 : decode cX4_appendInput 38 = .ok (.iconst 0, 1) := by decide +kernel
theorem dX4_appendInput_39 : decode cX4_appendInput 39 = .ok (.invokevirtual 310, 3) := by decide +kernel
theorem dX4_appendInput_42 : decode cX4_appendInput 42 = .ok (.aload_n 0, 1) := by decide +kernel
theorem dX4_appendInput_43 : decode cX4_appendInput 43 = .ok (.getfield 37, 3) := by decide +kernel
theorem dX4_appendInput_46 : decode cX4_appendInput 46 = .ok (.iload_n 1, 1) := by decide +kernel
theorem dX4_appendInput_47 : decode cX4_appendInput 47 = .ok (.invokevirtual 313, 3) := by decide +kernel
theorem dX4_appendInput_50 : decode cX4_appendInput 50 = .ok (.ireturn, 1) := by decide +kernel
theorem dX4_execute_0 : decode cX4_execute 0 = .ok (.aload_n 0, 1) := by decide +kernel
theorem dX4_execute_1 : decode cX4_execute 1 = .ok (.getfield 37, 3) := by decide +kernel
theorem dX4_execute_4 : decode cX4_execute 4 = .ok (.invokevirtual 316, 3) := by decide +kernel
theorem dX4_execute_7 : decode cX4_execute 7 = .ok (.istore_n 1, 1) := by decide +kernel
theorem dX4_execute_8 : decode cX4_execute 8 = .ok (.iload_n 1, 1) := by decide +kernel
theorem dX4_execute_9 : decode cX4_execute 9 = .ok (.iconst (-1), 1) := by decide +kernel
theorem dX4_execute_10 : decode cX4_execute 10 = .ok (.if_icmp .eq 8, 3) := by decide +kernel
theorem dX4_execute_13 : decode cX4_execute 13 = .ok (.aload_n 0, 1) := by decide +kernel
theorem dX4_execute_14 : decode cX4_execute 14 = .ok (.iload_n 1, 1) := by decide +kernel
theorem dX4_execute_15 : decode cX4_execute 15 = .ok (.putfield 58, 3) := by decide +kernel
theorem dX4_execute_18 : decode cX4_execute 18 = .ok (.aload_n 0, 1) := by decide +kernel
theorem dX4_execute_19 : decode cX4_execute 19 = .ok (.iload_n 1, 1) := by decide +kernel
theorem dX4_execute_20 : decode cX4_execute 20 = .ok (.iconst (-1), 1) := by decide +kernel
theorem dX4_execute_21 : decode cX4_execute 21 = .ok (.if_icmp .ne 7, 3) := by decide +kernel
theorem dX4_execute_24 : decode cX4_execute 24 = .ok (.iconst 1, 1) := by decide +kernel
theorem dX4_execute_25 : decode cX4_execute 25 = .ok (.goto 4, 3) := by decide +kernel
theorem dX4_execute_28 : decode cX4_execute 28 = .ok (.iconst 0, 1) := by decide +kernel
theorem dX4_execute_29 : decode cX4_execute 29 = .ok (.invokevirtual 305, 3) := by decide +kernel
theorem dX4_execute_32 : decode cX4_execute 32 = .ok (.aload_n 0, 1) := by decide +kernel
theorem dX4_execute_33 : decode cX4_execute 33 = .ok (.getfield 24, 3) := by decide +kernel
theorem dX4_execute_36 : decode cX4_execute 36 = .ok (.aload_n 0, 1) := by decide +kernel
theorem dX4_execute_37 : decode cX4_execute 37 = .ok (.getfield 20, 3) := by decide +kernel
theorem dX4_execute_40 : decode cX4_execute 40 = .ok (.invokevirtual 319, 3) := by decide +kernel
theorem dX4_execute_43 : decode cX4_execute 43 = .ok (.aload_n 0, 1) := by decide +kernel
theorem dX4_execute_44 : decode cX4_execute 44 = .ok (.invokevirtual 322, 3) := by decide +kernel
theorem dX4_execute_47 : decode cX4_execute 47 = .ok (.istore_n 2, 1) := by decide +kernel
theorem dX4_execute_48 : decode cX4_execute 48 = .ok (.iload_n 2, 1) := by decide +kernel
theorem dX4_execute_49 : decode cX4_execute 49 = .ok (.aload_n 0, 1) := by decide +kernel
theorem dX4_execute_50 : decode cX4_execute 50 = .ok (.getfield 37, 3) := by decide +kernel
theorem dX4_execute_53 : decode cX4_execute 53 = .ok (.getfield 325, 3) := by decide +kernel
theorem dX4_execute_56 : decode cX4_execute 56 = .ok (.if_icmp .ge 41, 3) := by decide +kernel
theorem dX4_execute_59 : decode cX4_execute 59 = .ok (.aload_n 0, 1) := by decide +kernel
theorem dX4_execute_60 : decode cX4_execute 60 = .ok (.iload_n 2, 1) := by decide +kernel
theorem dX4_execute_61 : decode cX4_execute 61 = .ok (.invokevirtual 326, 3) := by decide +kernel
theorem dX4_execute_64 : decode cX4_execute 64 = .ok (.istore_n 3, 1) := by decide +kernel
theorem dX4_execute_65 : decode cX4_execute 65 = .ok (.aload_n 0, 1) := by decide +kernel
theorem dX4_execute_66 : decode cX4_execute 66 = .ok (.getfield 20, 3) := by decide +kernel
theorem dX4_execute_69 : decode cX4_execute 69 = .ok (.aload_n 0, 1) := by decide +kernel
theorem dX4_execute_70 : decode cX4_execute 70 = .ok (.getfield 24, 3) := by decide +kernel
theorem dX4_execute_73 : decode cX4_execute 73 = .ok (.invokevirtual 319, 3) := by decide +kernel
theorem dX4_execute_76 : decode cX4_execute 76 = .ok (.aload_n 0, 1) := by decide +kernel
theorem dX4_execute_77 : decode cX4_execute 77 = .ok (.iload_n 3, 1) := by decide +kernel
theorem dX4_execute_78 : decode cX4_execute 78 = .ok (.ifCond .le 7, 3) := by decide +kernel
theorem dX4_execute_81 : decode cX4_execute 81 = .ok (.iconst 1, 1) := by decide +kernel
theorem dX4_execute_82 : decode cX4_execute 82 = .ok (.goto 4, 3) := by decide +kernel
theorem dX4_execute_85 : decode cX4_execute 85 = .ok (.iconst 0, 1) := by decide +kernel
theorem dX4_execute_86 : decode cX4_execute 86 = .ok (.invokevirtual 310, 3) := by decide +kernel
theorem dX4_execute_89 : decode cX4_execute 89 = .ok (.aload_n 0, 1) := by decide +kernel
theorem dX4_execute_90 : decode cX4_execute 90 = .ok (.bipush 17, 2) := by decide +kernel
theorem dX4_execute_92 : decode cX4_execute 92 = .ok (.iload_n 2, 1) := by decide +kernel
theorem dX4_execute_93 : decode cX4_execute 93 = .ok (.iload_n 3, 1) := by decide +kernel
theorem dX4_execute_94 : decode cX4_execute 94 = .ok (.invokevirtual 329, 3) := by decide +kernel
theorem dX4_execute_97 : decode cX4_execute 97 = .ok (.aload_n 0, 1) := by decide +kernel
theorem dX4_execute_98 : decode cX4_execute 98 = .ok (.getfield 30, 3) := by decide +kernel
theorem dX4_execute_101 : decode cX4_execute 101 = .ok (.aload_n 0, 1) := by decide +kernel
theorem dX4_execute_102 : decode cX4_execute 102 = .ok (.getfield 24, 3) := by decide +kernel
theorem dX4_execute_105 : decode cX4_execute 105 = .ok (.invokevirtual 69, 3) := by decide +kernel
theorem dX4_execute_108 : decode cX4_execute 108 = .ok (.iload_n 2, 1) := by decide +kernel
theorem dX4_execute_109 : decode cX4_execute 109 = .ok (.ireturn, 1) := by decide +kernel
theorem dX4_syntaxErrorOffset_0 : decode cX4_syntaxErrorOffset 0 = .ok (.aload_n 0, 1) := by decide +kernel
theorem dX4_syntaxErrorOffset_1 : decode cX4_syntaxErrorOffset 1 = .ok (.aload_n 0, 1) := by decide +kernel
theorem dX4_syntaxErrorOffset_2 : decode cX4_syntaxErrorOffset 2 = .ok (.getfield 58, 3) := by decide +kernel
theorem dX4_syntaxErrorOffset_5 : decode cX4_syntaxErrorOffset 5 = .ok (.iconst (-1), 1) := by decide +kernel
theorem dX4_syntaxErrorOffset_6 : decode cX4_syntaxErrorOffset 6 = .ok (.if_icmp .eq 7, 3) := by decide +kernel
theorem dX4_syntaxErrorOffset_9 : decode cX4_syntaxErrorOffset 9 = .ok (.iconst 1, 1) := by decide +kernel
theorem dX4_syntaxErrorOffset_10 : decode cX4_syntaxErrorOffset 10 = .ok (.goto 4, 3) := by decide +kernel
theorem dX4_syntaxErrorOffset_13 : decode cX4_syntaxErrorOffset 13 = .ok (.iconst 0, 1) := by decide +kernel
theorem dX4_syntaxErrorOffset_14 : decode cX4_syntaxErrorOffset 14 = .ok (.invokevirtual 93, 3) := by decide +kernel
theorem dX4_syntaxErrorOffset_17 : decode cX4_syntaxErrorOffset 17 = .ok (.aload_n 0, 1) := by decide +kernel
theorem dX4_syntaxErrorOffset_18 : decode cX4_syntaxErrorOffset 18 = .ok (.getfield 58, 3) := by decide +kernel
theorem dX4_syntaxErrorOffset_21 : decode cX4_syntaxErrorOffset 21 = .ok (.ireturn, 1) := by decide +kernel
theorem dX4_rejectionReason_0 : decode cX4_rejectionReason 0 = .ok (.aload_n 0, 1) := by decide +kernel
theorem dX4_rejectionReason_1 : decode cX4_rejectionReason 1 = .ok (.aload_n 0, 1) := by decide +kernel
theorem dX4_rejectionReason_2 : decode cX4_rejectionReason 2 = .ok (.getfield 48, 3) := by decide +kernel
theorem dX4_rejectionReason_5 : decode cX4_rejectionReason 5 = .ok (.ifCond .eq 7, 3) := by decide +kernel
theorem dX4_rejectionReason_8 : decode cX4_rejectionReason 8 = .ok (.iconst 1, 1) := by decide +kernel
theorem dX4_rejectionReason_9 : decode cX4_rejectionReason 9 = .ok (.goto 4, 3) := by decide +kernel
theorem dX4_rejectionReason_12 : decode cX4_rejectionReason 12 = .ok (.iconst 0, 1) := by decide +kernel
theorem dX4_rejectionReason_13 : decode cX4_rejectionReason 13 = .ok (.invokevirtual 93, 3) := by decide +kernel
theorem dX4_rejectionReason_16 : decode cX4_rejectionReason 16 = .ok (.aload_n 0, 1) := by decide +kernel
theorem dX4_rejectionReason_17 : decode cX4_rejectionReason 17 = .ok (.getfield 48, 3) := by decide +kernel
theorem dX4_rejectionReason_20 : decode cX4_rejectionReason 20 = .ok (.ireturn, 1) := by decide +kernel
theorem dX4_rejectionDetail_0 : decode cX4_rejectionDetail 0 = .ok (.aload_n 0, 1) := by decide +kernel
theorem dX4_rejectionDetail_1 : decode cX4_rejectionDetail 1 = .ok (.aload_n 0, 1) := by decide +kernel
theorem dX4_rejectionDetail_2 : decode cX4_rejectionDetail 2 = .ok (.getfield 48, 3) := by decide +kernel
theorem dX4_rejectionDetail_5 : decode cX4_rejectionDetail 5 = .ok (.ifCond .eq 7, 3) := by decide +kernel
theorem dX4_rejectionDetail_8 : decode cX4_rejectionDetail 8 = .ok (.iconst 1, 1) := by decide +kernel
theorem dX4_rejectionDetail_9 : decode cX4_rejectionDetail 9 = .ok (.goto 4, 3) := by decide +kernel
theorem dX4_rejectionDetail_12 : decode cX4_rejectionDetail 12 = .ok (.iconst 0, 1) := by decide +kernel
theorem dX4_rejectionDetail_13 : decode cX4_rejectionDetail 13 = .ok (.invokevirtual 93, 3) := by decide +kernel
theorem dX4_rejectionDetail_16 : decode cX4_rejectionDetail 16 = .ok (.aload_n 0, 1) := by decide +kernel
theorem dX4_rejectionDetail_17 : decode cX4_rejectionDetail 17 = .ok (.getfield 52, 3) := by decide +kernel
theorem dX4_rejectionDetail_20 : decode cX4_rejectionDetail 20 = .ok (.ireturn, 1) := by decide +kernel
theorem dX4_causeReason_0 : decode cX4_causeReason 0 = .ok (.aload_n 0, 1) := by decide +kernel
theorem dX4_causeReason_1 : decode cX4_causeReason 1 = .ok (.aload_n 0, 1) := by decide +kernel
theorem dX4_causeReason_2 : decode cX4_causeReason 2 = .ok (.getfield 48, 3) := by decide +kernel
theorem dX4_causeReason_5 : decode cX4_causeReason 5 = .ok (.bipush 17, 2) := by decide +kernel
theorem dX4_causeReason_7 : decode cX4_causeReason 7 = .ok (.if_icmp .ne 7, 3) := by decide +kernel
theorem dX4_causeReason_10 : decode cX4_causeReason 10 = .ok (.iconst 1, 1) := by decide +kernel
theorem dX4_causeReason_11 : decode cX4_causeReason 11 = .ok (.goto 4, 3) := by decide +kernel
theorem dX4_causeReason_14 : decode cX4_causeReason 14 = .ok (.iconst 0, 1) := by decide +kernel
theorem dX4_causeReason_15 : decode cX4_causeReason 15 = .ok (.invokevirtual 93, 3) := by decide +kernel
theorem dX4_causeReason_18 : decode cX4_causeReason 18 = .ok (.aload_n 0, 1) := by decide +kernel
theorem dX4_causeReason_19 : decode cX4_causeReason 19 = .ok (.getfield 55, 3) := by decide +kernel
theorem dX4_causeReason_22 : decode cX4_causeReason 22 = .ok (.ireturn, 1) := by decide +kernel
theorem dX4_undo_0 : decode cX4_undo 0 = .ok (.aload_n 0, 1) := by decide +kernel
theorem dX4_undo_1 : decode cX4_undo 1 = .ok (.aload_n 0, 1) := by decide +kernel
theorem dX4_undo_2 : decode cX4_undo 2 = .ok (.getfield 30, 3) := by decide +kernel
theorem dX4_undo_5 : decode cX4_undo 5 = .ok (.getfield 333, 3) := by decide +kernel
theorem dX4_undo_8 : decode cX4_undo 8 = .ok (.ifCond .le 7, 3) := by decide +kernel
theorem dX4_undo_11 : decode cX4_undo 11 = .ok (.iconst 1, 1) := by decide +kernel
theorem dX4_undo_12 : decode cX4_undo 12 = .ok (.goto 4, 3) := by decide +kernel
theorem dX4_undo_15 : decode cX4_undo 15 = .ok (.iconst 0, 1) := by decide +kernel
theorem dX4_undo_16 : decode cX4_undo 16 = .ok (.invokevirtual 310, 3) := by decide +kernel
theorem dX4_undo_19 : decode cX4_undo 19 = .ok (.aload_n 0, 1) := by decide +kernel
theorem dX4_undo_20 : decode cX4_undo 20 = .ok (.getfield 30, 3) := by decide +kernel
theorem dX4_undo_23 : decode cX4_undo 23 = .ok (.aload_n 0, 1) := by decide +kernel
theorem dX4_undo_24 : decode cX4_undo 24 = .ok (.getfield 20, 3) := by decide +kernel
theorem dX4_undo_27 : decode cX4_undo 27 = .ok (.invokevirtual 336, 3) := by decide +kernel
theorem dX4_undo_30 : decode cX4_undo 30 = .ok (.ireturn, 1) := by decide +kernel
theorem dX4_saveSnapshot_0 : decode cX4_saveSnapshot 0 = .ok (.aload_n 0, 1) := by decide +kernel
theorem dX4_saveSnapshot_1 : decode cX4_saveSnapshot 1 = .ok (.getfield 30, 3) := by decide +kernel
theorem dX4_saveSnapshot_4 : decode cX4_saveSnapshot 4 = .ok (.aload_n 0, 1) := by decide +kernel
theorem dX4_saveSnapshot_5 : decode cX4_saveSnapshot 5 = .ok (.getfield 20, 3) := by decide +kernel
theorem dX4_saveSnapshot_8 : decode cX4_saveSnapshot 8 = .ok (.invokevirtual 340, 3) := by decide +kernel
theorem dX4_saveSnapshot_11 : decode cX4_saveSnapshot 11 = .ok (.aload_n 0, 1) := by decide +kernel
theorem dX4_saveSnapshot_12 : decode cX4_saveSnapshot 12 = .ok (.getfield 20, 3) := by decide +kernel
theorem dX4_saveSnapshot_15 : decode cX4_saveSnapshot 15 = .ok (.getfield 76, 3) := by decide +kernel
theorem dX4_saveSnapshot_18 : decode cX4_saveSnapshot 18 = .ok (.ireturn, 1) := by decide +kernel
theorem dX4_restoreSnapshot_0 : decode cX4_restoreSnapshot 0 = .ok (.aload_n 0, 1) := by decide +kernel
theorem dX4_restoreSnapshot_1 : decode cX4_restoreSnapshot 1 = .ok (.aload_n 0, 1) := by decide +kernel
theorem dX4_restoreSnapshot_2 : decode cX4_restoreSnapshot 2 = .ok (.getfield 30, 3) := by decide +kernel
theorem dX4_restoreSnapshot_5 : decode cX4_restoreSnapshot 5 = .ok (.getfield 343, 3) := by decide +kernel
theorem dX4_restoreSnapshot_8 : decode cX4_restoreSnapshot 8 = .ok (.invokevirtual 310, 3) := by decide +kernel
theorem dX4_restoreSnapshot_11 : decode cX4_restoreSnapshot 11 = .ok (.aload_n 0, 1) := by decide +kernel
theorem dX4_restoreSnapshot_12 : decode cX4_restoreSnapshot 12 = .ok (.getfield 30, 3) := by decide +kernel
theorem dX4_restoreSnapshot_15 : decode cX4_restoreSnapshot 15 = .ok (.aload_n 0, 1) := by decide +kernel
theorem dX4_restoreSnapshot_16 : decode cX4_restoreSnapshot 16 = .ok (.getfield 20, 3) := by decide +kernel
theorem dX4_restoreSnapshot_19 : decode cX4_restoreSnapshot 19 = .ok (.invokevirtual 347, 3) := by decide +kernel
theorem dX4_restoreSnapshot_22 : decode cX4_restoreSnapshot 22 = .ok (.aload_n 0, 1) := by decide +kernel
theorem dX4_restoreSnapshot_23 : decode cX4_restoreSnapshot 23 = .ok (.getfield 20, 3) := by decide +kernel
theorem dX4_restoreSnapshot_26 : decode cX4_restoreSnapshot 26 = .ok (.getfield 76, 3) := by decide +kernel
theorem dX4_restoreSnapshot_29 : decode cX4_restoreSnapshot 29 = .ok (.ireturn, 1) := by decide +kernel
theorem dX4_requireIndex_0 : decode cX4_requireIndex 0 = .ok (.iload_n 1, 1) := by decide +kernel
theorem dX4_requireIndex_1 : decode cX4_requireIndex 1 = .ok (.ifCond .ne 14, 3) := by decide +kernel
theorem dX4_requireIndex_4 : decode cX4_requireIndex 4 = .ok (.new 350, 3) := by decide +kernel
theorem dX4_requireIndex_7 : decode cX4_requireIndex 7 = .ok (.dup, 1) := by decide +kernel
theorem dX4_requireIndex_8 : decode cX4_requireIndex 8 = .ok (.ldc_w 352, 3) := by decide +kernel
theorem dX4_requireIndex_11 : decode cX4_requireIndex 11 = .ok (.invokespecial 354, 3) := by decide +kernel
theorem dX4_requireIndex_14 : decode cX4_requireIndex 14 = .ok (.athrow, 1) := by decide +kernel
theorem dX4_requireIndex_15 : decode cX4_requireIndex 15 = .ok (.return_, 1) := by decide +kernel
theorem dX4_requireArgument_0 : decode cX4_requireArgument 0 = .ok (.iload_n 1, 1) := by decide +kernel
theorem dX4_requireArgument_1 : decode cX4_requireArgument 1 = .ok (.ifCond .ne 14, 3) := by decide +kernel
theorem dX4_requireArgument_4 : decode cX4_requireArgument 4 = .ok (.new 357, 3) := by decide +kernel
theorem dX4_requireArgument_7 : decode cX4_requireArgument 7 = .ok (.dup, 1) := by decide +kernel
theorem dX4_requireArgument_8 : decode cX4_requireArgument 8 = .ok (.ldc_w 359, 3) := by decide +kernel
theorem dX4_requireArgument_11 : decode cX4_requireArgument 11 = .ok (.invokespecial 361, 3) := by decide +kernel
theorem dX4_requireArgument_14 : decode cX4_requireArgument 14 = .ok (.athrow, 1) := by decide +kernel
theorem dX4_requireArgument_15 : decode cX4_requireArgument 15 = .ok (.return_, 1) := by decide +kernel
theorem dX4_requireElement_0 : decode cX4_requireElement 0 = .ok (.iload_n 1, 1) := by decide +kernel
theorem dX4_requireElement_1 : decode cX4_requireElement 1 = .ok (.ifCond .ne 14, 3) := by decide +kernel
theorem dX4_requireElement_4 : decode cX4_requireElement 4 = .ok (.new 362, 3) := by decide +kernel
theorem dX4_requireElement_7 : decode cX4_requireElement 7 = .ok (.dup, 1) := by decide +kernel
theorem dX4_requireElement_8 : decode cX4_requireElement 8 = .ok (.ldc_w 364, 3) := by decide +kernel
theorem dX4_requireElement_11 : decode cX4_requireElement 11 = .ok (.invokespecial 366, 3) := by decide +kernel
theorem dX4_requireElement_14 : decode cX4_requireElement 14 = .ok (.athrow, 1) := by decide +kernel
theorem dX4_requireElement_15 : decode cX4_requireElement 15 = .ok (.return_, 1) := by decide +kernel
theorem dX4_requireState_0 : decode cX4_requireState 0 = .ok (.iload_n 1, 1) := by decide +kernel
theorem dX4_requireState_1 : decode cX4_requireState 1 = .ok (.ifCond .ne 14, 3) := by decide +kernel
theorem dX4_requireState_4 : decode cX4_requireState 4 = .ok (.new 367, 3) := by decide +kernel
theorem dX4_requireState_7 : decode cX4_requireState 7 = .ok (.dup, 1) := by decide +kernel
theorem dX4_requireState_8 : decode cX4_requireState 8 = .ok (.ldc_w 369, 3) := by decide +kernel
theorem dX4_requireState_11 : decode cX4_requireState 11 = .ok (.invokespecial 371, 3) := by decide +kernel
theorem dX4_requireState_14 : decode cX4_requireState 14 = .ok (.athrow, 1) := by decide +kernel
theorem dX4_requireState_15 : decode cX4_requireState 15 = .ok (.return_, 1) := by decide +kernel
theorem dX4_requireSocks_0 : decode cX4_requireSocks 0 = .ok (.aload_n 0, 1) := by decide +kernel
theorem dX4_requireSocks_1 : decode cX4_requireSocks 1 = .ok (.getfield 20, 3) := by decide +kernel
theorem dX4_requireSocks_4 : decode cX4_requireSocks 4 = .ok (.getfield 76, 3) := by decide +kernel
theorem dX4_requireSocks_7 : decode cX4_requireSocks 7 = .ok (.ifCond .ne 14, 3) := by decide +kernel
theorem dX4_requireSocks_10 : decode cX4_requireSocks 10 = .ok (.new 372, 3) := by decide +kernel
theorem dX4_requireSocks_13 : decode cX4_requireSocks 13 = .ok (.dup, 1) := by decide +kernel
theorem dX4_requireSocks_14 : decode cX4_requireSocks 14 = .ok (.ldc_w 374, 3) := by decide +kernel
theorem dX4_requireSocks_17 : decode cX4_requireSocks 17 = .ok (.invokespecial 376, 3) := by decide +kernel
theorem dX4_requireSocks_20 : decode cX4_requireSocks 20 = .ok (.athrow, 1) := by decide +kernel
theorem dX4_requireSocks_21 : decode cX4_requireSocks 21 = .ok (.return_, 1) := by decide +kernel
theorem dX4_requireSock_0 : decode cX4_requireSock 0 = .ok (.aload_n 0, 1) := by decide +kernel
theorem dX4_requireSock_1 : decode cX4_requireSock 1 = .ok (.aload_n 0, 1) := by decide +kernel
theorem dX4_requireSock_2 : decode cX4_requireSock 2 = .ok (.getfield 20, 3) := by decide +kernel
theorem dX4_requireSock_5 : decode cX4_requireSock 5 = .ok (.iload_n 1, 1) := by decide +kernel
theorem dX4_requireSock_6 : decode cX4_requireSock 6 = .ok (.invokevirtual 377, 3) := by decide +kernel
theorem dX4_requireSock_9 : decode cX4_requireSock 9 = .ok (.invokevirtual 299, 3) := by decide +kernel
theorem dX4_requireSock_12 : decode cX4_requireSock 12 = .ok (.return_, 1) := by decide +kernel
theorem dX4_requireDrawer_0 : decode cX4_requireDrawer 0 = .ok (.aload_n 0, 1) := by decide +kernel
theorem dX4_requireDrawer_1 : decode cX4_requireDrawer 1 = .ok (.iload_n 1, 1) := by decide +kernel
theorem dX4_requireDrawer_2 : decode cX4_requireDrawer 2 = .ok (.invokestatic 380, 3) := by decide +kernel
theorem dX4_requireDrawer_5 : decode cX4_requireDrawer 5 = .ok (.invokevirtual 299, 3) := by decide +kernel
theorem dX4_requireDrawer_8 : decode cX4_requireDrawer 8 = .ok (.return_, 1) := by decide +kernel
theorem dX4_require_0 : decode cX4_require 0 = .ok (.aload_n 0, 1) := by decide +kernel
theorem dX4_require_1 : decode cX4_require 1 = .ok (.iload_n 1, 1) := by decide +kernel
theorem dX4_require_2 : decode cX4_require 2 = .ok (.iconst (-1), 1) := by decide +kernel
theorem dX4_require_3 : decode cX4_require 3 = .ok (.if_icmp .eq 7, 3) := by decide +kernel
theorem dX4_require_6 : decode cX4_require 6 = .ok (.iconst 1, 1) := by decide +kernel
theorem dX4_require_7 : decode cX4_require 7 = .ok (.goto 4, 3) := by decide +kernel
theorem dX4_require_10 : decode cX4_require 10 = .ok (.iconst 0, 1) := by decide +kernel
theorem dX4_require_11 : decode cX4_require 11 = .ok (.invokevirtual 299, 3) := by decide +kernel
theorem dX4_require_14 : decode cX4_require 14 = .ok (.aload_n 0, 1) := by decide +kernel
theorem dX4_require_15 : decode cX4_require 15 = .ok (.iload_n 1, 1) := by decide +kernel
theorem dX4_require_16 : decode cX4_require 16 = .ok (.bipush (-2), 2) := by decide +kernel
theorem dX4_require_18 : decode cX4_require 18 = .ok (.if_icmp .eq 7, 3) := by decide +kernel
theorem dX4_require_21 : decode cX4_require 21 = .ok (.iconst 1, 1) := by decide +kernel
theorem dX4_require_22 : decode cX4_require 22 = .ok (.goto 4, 3) := by decide +kernel
theorem dX4_require_25 : decode cX4_require 25 = .ok (.iconst 0, 1) := by decide +kernel
theorem dX4_require_26 : decode cX4_require 26 = .ok (.invokevirtual 305, 3) := by decide +kernel
theorem dX4_require_29 : decode cX4_require 29 = .ok (.aload_n 0, 1) := by decide +kernel
theorem dX4_require_30 : decode cX4_require 30 = .ok (.iload_n 1, 1) := by decide +kernel
theorem dX4_require_31 : decode cX4_require 31 = .ok (.bipush (-3), 2) := by decide +kernel
theorem dX4_require_33 : decode cX4_require 33 = .ok (.if_icmp .eq 7, 3) := by decide +kernel
theorem dX4_require_36 : decode cX4_require 36 = .ok (.iconst 1, 1) := by decide +kernel
theorem dX4_require_37 : decode cX4_require 37 = .ok (.goto 4, 3) := by decide +kernel
theorem dX4_require_40 : decode cX4_require 40 = .ok (.iconst 0, 1) := by decide +kernel
theorem dX4_require_41 : decode cX4_require 41 = .ok (.invokevirtual 93, 3) := by decide +kernel
theorem dX4_require_44 : decode cX4_require 44 = .ok (.iload_n 1, 1) := by decide +kernel
theorem dX4_require_45 : decode cX4_require 45 = .ok (.ifCond .eq 16, 3) := by decide +kernel
theorem dX4_require_48 : decode cX4_require 48 = .ok (.aload_n 0, 1) := by decide +kernel
theorem dX4_require_49 : decode cX4_require 49 = .ok (.iload_n 1, 1) := by decide +kernel
theorem dX4_require_50 : decode cX4_require 50 = .ok (.aload_n 0, 1) := by decide +kernel
theorem dX4_require_51 : decode cX4_require 51 = .ok (.getfield 10, 3) := by decide +kernel
theorem dX4_require_54 : decode cX4_require 54 = .ok (.getfield 383, 3) := by decide +kernel
theorem dX4_require_57 : decode cX4_require 57 = .ok (.iconst 0, 1) := by decide +kernel
theorem dX4_require_58 : decode cX4_require 58 = .ok (.invokevirtual 329, 3) := by decide +kernel
theorem dX4_require_61 : decode cX4_require 61 = .ok (.return_, 1) := by decide +kernel
theorem dX4_reject_0 : decode cX4_reject 0 = .ok (.aload_n 0, 1) := by decide +kernel
theorem dX4_reject_1 : decode cX4_reject 1 = .ok (.iload_n 1, 1) := by decide +kernel
theorem dX4_reject_2 : decode cX4_reject 2 = .ok (.putfield 48, 3) := by decide +kernel
theorem dX4_reject_5 : decode cX4_reject 5 = .ok (.aload_n 0, 1) := by decide +kernel
theorem dX4_reject_6 : decode cX4_reject 6 = .ok (.iload_n 2, 1) := by decide +kernel
theorem dX4_reject_7 : decode cX4_reject 7 = .ok (.putfield 52, 3) := by decide +kernel
theorem dX4_reject_10 : decode cX4_reject 10 = .ok (.aload_n 0, 1) := by decide +kernel
theorem dX4_reject_11 : decode cX4_reject 11 = .ok (.iload_n 3, 1) := by decide +kernel
theorem dX4_reject_12 : decode cX4_reject 12 = .ok (.putfield 55, 3) := by decide +kernel
theorem dX4_reject_15 : decode cX4_reject 15 = .ok (.new 386, 3) := by decide +kernel
theorem dX4_reject_18 : decode cX4_reject 18 = .ok (.dup, 1) := by decide +kernel
theorem dX4_reject_19 : decode cX4_reject 19 = .ok (.ldc_w 388, 3) := by decide +kernel
theorem dX4_reject_22 : decode cX4_reject 22 = .ok (.invokespecial 390, 3) := by decide +kernel
theorem dX4_reject_25 : decode cX4_reject 25 = .ok (.athrow, 1) := by decide +kernel
theorem dX4_writeApplication_0 : decode cX4_writeApplication 0 = .ok (.aload_n 0, 1) := by decide +kernel
theorem dX4_writeApplication_1 : decode cX4_writeApplication 1 = .ok (.getfield 44, 3) := by decide +kernel
theorem dX4_writeApplication_4 : decode cX4_writeApplication 4 = .ok (.aload_n 0, 1) := by decide +kernel
theorem dX4_writeApplication_5 : decode cX4_writeApplication 5 = .ok (.getfield 20, 3) := by decide +kernel
theorem dX4_writeApplication_8 : decode cX4_writeApplication 8 = .ok (.getfield 90, 3) := by decide +kernel
theorem dX4_writeApplication_11 : decode cX4_writeApplication 11 = .ok (.iload_n 1, 1) := by decide +kernel
theorem dX4_writeApplication_12 : decode cX4_writeApplication 12 = .ok (.iaload, 1) := by decide +kernel
theorem dX4_writeApplication_13 : decode cX4_writeApplication 13 = .ok (.iconst 1, 1) := by decide +kernel
theorem dX4_writeApplication_14 : decode cX4_writeApplication 14 = .ok (.if_icmp .ne 8, 3) := by decide +kernel
theorem dX4_writeApplication_17 : decode cX4_writeApplication 17 = .ok (.bipush 63, 2) := by decide +kernel
theorem dX4_writeApplication_19 : decode cX4_writeApplication 19 = .ok (.goto 5, 3) := by decide +kernel
theorem dX4_writeApplication_22 : decode cX4_writeApplication 22 = .ok (.bipush 120, 2) := by decide +kernel
theorem dX4_writeApplication_24 : decode cX4_writeApplication 24 = .ok (.invokevirtual 287, 3) := by decide +kernel
theorem dX4_writeApplication_27 : decode cX4_writeApplication 27 = .ok (.pop, 1) := by decide +kernel
theorem dX4_writeApplication_28 : decode cX4_writeApplication 28 = .ok (.aload_n 0, 1) := by decide +kernel
theorem dX4_writeApplication_29 : decode cX4_writeApplication 29 = .ok (.getfield 44, 3) := by decide +kernel
theorem dX4_writeApplication_32 : decode cX4_writeApplication 32 = .ok (.aload_n 0, 1) := by decide +kernel
theorem dX4_writeApplication_33 : decode cX4_writeApplication 33 = .ok (.getfield 20, 3) := by decide +kernel
theorem dX4_writeApplication_36 : decode cX4_writeApplication 36 = .ok (.getfield 97, 3) := by decide +kernel
theorem dX4_writeApplication_39 : decode cX4_writeApplication 39 = .ok (.iload_n 1, 1) := by decide +kernel
theorem dX4_writeApplication_40 : decode cX4_writeApplication 40 = .ok (.iaload, 1) := by decide +kernel
theorem dX4_writeApplication_41 : decode cX4_writeApplication 41 = .ok (.invokevirtual 283, 3) := by decide +kernel
theorem dX4_writeApplication_44 : decode cX4_writeApplication 44 = .ok (.bipush 47, 2) := by decide +kernel
theorem dX4_writeApplication_46 : decode cX4_writeApplication 46 = .ok (.invokevirtual 287, 3) := by decide +kernel
theorem dX4_writeApplication_49 : decode cX4_writeApplication 49 = .ok (.aload_n 0, 1) := by decide +kernel
theorem dX4_writeApplication_50 : decode cX4_writeApplication 50 = .ok (.getfield 20, 3) := by decide +kernel
theorem dX4_writeApplication_53 : decode cX4_writeApplication 53 = .ok (.getfield 104, 3) := by decide +kernel
theorem dX4_writeApplication_56 : decode cX4_writeApplication 56 = .ok (.iload_n 1, 1) := by decide +kernel
theorem dX4_writeApplication_57 : decode cX4_writeApplication 57 = .ok (.iaload, 1) := by decide +kernel
theorem dX4_writeApplication_58 : decode cX4_writeApplication 58 = .ok (.invokevirtual 283, 3) := by decide +kernel
theorem dX4_writeApplication_61 : decode cX4_writeApplication 61 = .ok (.pop, 1) := by decide +kernel
theorem dX4_writeApplication_62 : decode cX4_writeApplication 62 = .ok (.return_, 1) := by decide +kernel
theorem dX4_writeVisa_0 : decode cX4_writeVisa 0 = .ok (.aload_n 0, 1) := by decide +kernel
theorem dX4_writeVisa_1 : decode cX4_writeVisa 1 = .ok (.getfield 44, 3) := by decide +kernel
theorem dX4_writeVisa_4 : decode cX4_writeVisa 4 = .ok (.bipush 64, 2) := by decide +kernel
theorem dX4_writeVisa_6 : decode cX4_writeVisa 6 = .ok (.invokevirtual 287, 3) := by decide +kernel
theorem dX4_writeVisa_9 : decode cX4_writeVisa 9 = .ok (.aload_n 0, 1) := by decide +kernel
theorem dX4_writeVisa_10 : decode cX4_writeVisa 10 = .ok (.getfield 20, 3) := by decide +kernel
theorem dX4_writeVisa_13 : decode cX4_writeVisa 13 = .ok (.getfield 97, 3) := by decide +kernel
theorem dX4_writeVisa_16 : decode cX4_writeVisa 16 = .ok (.iload_n 1, 1) := by decide +kernel
theorem dX4_writeVisa_17 : decode cX4_writeVisa 17 = .ok (.iaload, 1) := by decide +kernel
theorem dX4_writeVisa_18 : decode cX4_writeVisa 18 = .ok (.invokevirtual 283, 3) := by decide +kernel
theorem dX4_writeVisa_21 : decode cX4_writeVisa 21 = .ok (.bipush 60, 2) := by decide +kernel
theorem dX4_writeVisa_23 : decode cX4_writeVisa 23 = .ok (.invokevirtual 287, 3) := by decide +kernel
theorem dX4_writeVisa_26 : decode cX4_writeVisa 26 = .ok (.aload_n 0, 1) := by decide +kernel
theorem dX4_writeVisa_27 : decode cX4_writeVisa 27 = .ok (.getfield 20, 3) := by decide +kernel
theorem dX4_writeVisa_30 : decode cX4_writeVisa 30 = .ok (.getfield 107, 3) := by decide +kernel
theorem dX4_writeVisa_33 : decode cX4_writeVisa 33 = .ok (.iload_n 1, 1) := by decide +kernel
theorem dX4_writeVisa_34 : decode cX4_writeVisa 34 = .ok (.iaload, 1) := by decide +kernel
theorem dX4_writeVisa_35 : decode cX4_writeVisa 35 = .ok (.invokevirtual 283, 3) := by decide +kernel
theorem dX4_writeVisa_38 : decode cX4_writeVisa 38 = .ok (.pop, 1) := by decide +kernel
theorem dX4_writeVisa_39 : decode cX4_writeVisa 39 = .ok (.aload_n 0, 1) := by decide +kernel
theorem dX4_writeVisa_40 : decode cX4_writeVisa 40 = .ok (.getfield 20, 3) := by decide +kernel
theorem dX4_writeVisa_43 : decode cX4_writeVisa 43 = .ok (.getfield 110, 3) := by decide +kernel
theorem dX4_writeVisa_46 : decode cX4_writeVisa 46 = .ok (.iload_n 1, 1) := by decide +kernel
theorem dX4_writeVisa_47 : decode cX4_writeVisa 47 = .ok (.iaload, 1) := by decide +kernel
theorem dX4_writeVisa_48 : decode cX4_writeVisa 48 = .ok (.iconst (-1), 1) := by decide +kernel
theorem dX4_writeVisa_49 : decode cX4_writeVisa 49 = .ok (.if_icmp .eq 25, 3) := by decide +kernel
theorem dX4_writeVisa_52 : decode cX4_writeVisa 52 = .ok (.aload_n 0, 1) := by decide +kernel
theorem dX4_writeVisa_53 : decode cX4_writeVisa 53 = .ok (.getfield 44, 3) := by decide +kernel
theorem dX4_writeVisa_56 : decode cX4_writeVisa 56 = .ok (.bipush 43, 2) := by decide +kernel
theorem dX4_writeVisa_58 : decode cX4_writeVisa 58 = .ok (.invokevirtual 287, 3) := by decide +kernel
theorem dX4_writeVisa_61 : decode cX4_writeVisa 61 = .ok (.aload_n 0, 1) := by decide +kernel
theorem dX4_writeVisa_62 : decode cX4_writeVisa 62 = .ok (.getfield 20, 3) := by decide +kernel
theorem dX4_writeVisa_65 : decode cX4_writeVisa 65 = .ok (.getfield 110, 3) := by decide +kernel
theorem dX4_writeVisa_68 : decode cX4_writeVisa 68 = .ok (.iload_n 1, 1) := by decide +kernel
theorem dX4_writeVisa_69 : decode cX4_writeVisa 69 = .ok (.iaload, 1) := by decide +kernel
theorem dX4_writeVisa_70 : decode cX4_writeVisa 70 = .ok (.invokevirtual 283, 3) := by decide +kernel
theorem dX4_writeVisa_73 : decode cX4_writeVisa 73 = .ok (.pop, 1) := by decide +kernel
theorem dX4_writeVisa_74 : decode cX4_writeVisa 74 = .ok (.return_, 1) := by decide +kernel
theorem dX4_carryOutCommands_0 : decode cX4_carryOutCommands 0 = .ok (.iconst 0, 1) := by decide +kernel
theorem dX4_carryOutCommands_1 : decode cX4_carryOutCommands 1 = .ok (.istore_n 1, 1) := by decide +kernel
theorem dX4_carryOutCommands_2 : decode cX4_carryOutCommands 2 = .ok (.iload_n 1, 1) := by decide +kernel
theorem dX4_carryOutCommands_3 : decode cX4_carryOutCommands 3 = .ok (.aload_n 0, 1) := by decide +kernel
theorem dX4_carryOutCommands_4 : decode cX4_carryOutCommands 4 = .ok (.getfield 37, 3) := by decide +kernel
theorem dX4_carryOutCommands_7 : decode cX4_carryOutCommands 7 = .ok (.getfield 325, 3) := by decide +kernel
theorem dX4_carryOutCommands_10 : decode cX4_carryOutCommands 10 = .ok (.if_icmp .ge 24, 3) := by decide +kernel
theorem dX4_carryOutCommands_13 : decode cX4_carryOutCommands 13 = .ok (.aload_n 0, 1) := by decide +kernel
theorem dX4_carryOutCommands_14 : decode cX4_carryOutCommands 14 = .ok (.iload_n 1, 1) := by decide +kernel
theorem dX4_carryOutCommands_15 : decode cX4_carryOutCommands 15 = .ok (.invokevirtual 326, 3) := by decide +kernel
theorem dX4_carryOutCommands_18 : decode cX4_carryOutCommands 18 = .ok (.ifCond .eq 5, 3) := by decide +kernel
theorem dX4_carryOutCommands_21 : decode cX4_carryOutCommands 21 = .ok (.iload_n 1, 1) := by decide +kernel
theorem dX4_carryOutCommands_22 : decode cX4_carryOutCommands 22 = .ok (.ireturn, 1) := by decide +kernel
theorem dX4_carryOutCommands_23 : decode cX4_carryOutCommands 23 = .ok (.aload_n 0, 1) := by decide +kernel
theorem dX4_carryOutCommands_24 : decode cX4_carryOutCommands 24 = .ok (.iload_n 1, 1) := by decide +kernel
theorem dX4_carryOutCommands_25 : decode cX4_carryOutCommands 25 = .ok (.invokevirtual 391, 3) := by decide +kernel
theorem dX4_carryOutCommands_28 : decode cX4_carryOutCommands 28 = .ok (.iinc 1 1, 3) := by decide +kernel
theorem dX4_carryOutCommands_31 : decode cX4_carryOutCommands 31 = .ok (.goto (-29), 3) := by decide +kernel
theorem dX4_carryOutCommands_34 : decode cX4_carryOutCommands 34 = .ok (.aload_n 0, 1) := by decide +kernel
theorem dX4_carryOutCommands_35 : decode cX4_carryOutCommands 35 = .ok (.getfield 37, 3) := by decide +kernel
theorem dX4_carryOutCommands_38 : decode cX4_carryOutCommands 38 = .ok (.getfield 325, 3) := by decide +kernel
theorem dX4_carryOutCommands_41 : decode cX4_carryOutCommands 41 = .ok (.ireturn, 1) := by decide +kernel
theorem dX4_faultOf_0 : decode cX4_faultOf 0 = .ok (.aload_n 0, 1) := by decide +kernel
theorem dX4_faultOf_1 : decode cX4_faultOf 1 = .ok (.getfield 37, 3) := by decide +kernel
theorem dX4_faultOf_4 : decode cX4_faultOf 4 = .ok (.iload_n 1, 1) := by decide +kernel
theorem dX4_faultOf_5 : decode cX4_faultOf 5 = .ok (.iconst 0, 1) := by decide +kernel
theorem dX4_faultOf_6 : decode cX4_faultOf 6 = .ok (.invokevirtual 394, 3) := by decide +kernel
theorem dX4_faultOf_9 : decode cX4_faultOf 9 = .ok (.istore_n 2, 1) := by decide +kernel
theorem dX4_faultOf_10 : decode cX4_faultOf 10 = .ok (.aload_n 0, 1) := by decide +kernel
theorem dX4_faultOf_11 : decode cX4_faultOf 11 = .ok (.getfield 37, 3) := by decide +kernel
theorem dX4_faultOf_14 : decode cX4_faultOf 14 = .ok (.iload_n 1, 1) := by decide +kernel
theorem dX4_faultOf_15 : decode cX4_faultOf 15 = .ok (.iconst 1, 1) := by decide +kernel
theorem dX4_faultOf_16 : decode cX4_faultOf 16 = .ok (.invokevirtual 394, 3) := by decide +kernel
theorem dX4_faultOf_19 : decode cX4_faultOf 19 = .ok (.istore_n 3, 1) := by decide +kernel
theorem dX4_faultOf_20 : decode cX4_faultOf 20 = .ok (.aload_n 0, 1) := by decide +kernel
theorem dX4_faultOf_21 : decode cX4_faultOf 21 = .ok (.getfield 37, 3) := by decide +kernel
theorem dX4_faultOf_24 : decode cX4_faultOf 24 = .ok (.iload_n 1, 1) := by decide +kernel
theorem dX4_faultOf_25 : decode cX4_faultOf 25 = .ok (.invokevirtual 397, 3) := by decide +kernel
theorem dX4_faultOf_28 : decode cX4_faultOf 28 = .ok (.tableswitch 255 97 119 #[119, 214, 255, 147, 245, 255, 255, 255, 255, 185, 195, 166, 175, 108, 255, 138, 204, 156, 255, 225, 214, 255, 129], 108) := by decide +kernel
theorem dX4_faultOf_136 : decode cX4_faultOf 136 = .ok (.aload_n 0, 1) := by decide +kernel
theorem dX4_faultOf_137 : decode cX4_faultOf 137 = .ok (.getfield 10, 3) := by decide +kernel
theorem dX4_faultOf_140 : decode cX4_faultOf 140 = .ok (.iload_n 2, 1) := by decide +kernel
theorem dX4_faultOf_141 : decode cX4_faultOf 141 = .ok (.i2c, 1) := by decide +kernel
theorem dX4_faultOf_142 : decode cX4_faultOf 142 = .ok (.iload_n 3, 1) := by decide +kernel
theorem dX4_faultOf_143 : decode cX4_faultOf 143 = .ok (.invokevirtual 61, 3) := by decide +kernel
theorem dX4_faultOf_146 : decode cX4_faultOf 146 = .ok (.ireturn, 1) := by decide +kernel
theorem dX4_faultOf_147 : decode cX4_faultOf 147 = .ok (.aload_n 0, 1) := by decide +kernel
theorem dX4_faultOf_148 : decode cX4_faultOf 148 = .ok (.getfield 10, 3) := by decide +kernel
theorem dX4_faultOf_151 : decode cX4_faultOf 151 = .ok (.iload_n 2, 1) := by decide +kernel
theorem dX4_faultOf_152 : decode cX4_faultOf 152 = .ok (.iload_n 3, 1) := by decide +kernel
theorem dX4_faultOf_153 : decode cX4_faultOf 153 = .ok (.invokevirtual 117, 3) := by decide +kernel
theorem dX4_faultOf_156 : decode cX4_faultOf 156 = .ok (.ireturn, 1) := by decide +kernel
theorem dX4_faultOf_157 : decode cX4_faultOf 157 = .ok (.aload_n 0, 1) := by decide +kernel
theorem dX4_faultOf_158 : decode cX4_faultOf 158 = .ok (.getfield 10, 3) := by decide +kernel
theorem dX4_faultOf_161 : decode cX4_faultOf 161 = .ok (.iload_n 2, 1) := by decide +kernel
theorem dX4_faultOf_162 : decode cX4_faultOf 162 = .ok (.invokevirtual 124, 3) := by decide +kernel
theorem dX4_faultOf_165 : decode cX4_faultOf 165 = .ok (.ireturn, 1) := by decide +kernel
theorem dX4_faultOf_166 : decode cX4_faultOf 166 = .ok (.aload_n 0, 1) := by decide +kernel
theorem dX4_faultOf_167 : decode cX4_faultOf 167 = .ok (.getfield 10, 3) := by decide +kernel
theorem dX4_faultOf_170 : decode cX4_faultOf 170 = .ok (.iload_n 2, 1) := by decide +kernel
theorem dX4_faultOf_171 : decode cX4_faultOf 171 = .ok (.invokevirtual 131, 3) := by decide +kernel
theorem dX4_faultOf_174 : decode cX4_faultOf 174 = .ok (.ireturn, 1) := by decide +kernel
theorem dX4_faultOf_175 : decode cX4_faultOf 175 = .ok (.aload_n 0, 1) := by decide +kernel
theorem dX4_faultOf_176 : decode cX4_faultOf 176 = .ok (.getfield 10, 3) := by decide +kernel
theorem dX4_faultOf_179 : decode cX4_faultOf 179 = .ok (.iload_n 2, 1) := by decide +kernel
theorem dX4_faultOf_180 : decode cX4_faultOf 180 = .ok (.invokevirtual 137, 3) := by decide +kernel
theorem dX4_faultOf_183 : decode cX4_faultOf 183 = .ok (.ireturn, 1) := by decide +kernel
theorem dX4_faultOf_184 : decode cX4_faultOf 184 = .ok (.aload_n 0, 1) := by decide +kernel
theorem dX4_faultOf_185 : decode cX4_faultOf 185 = .ok (.getfield 10, 3) := by decide +kernel
theorem dX4_faultOf_188 : decode cX4_faultOf 188 = .ok (.iload_n 2, 1) := by decide +kernel
theorem dX4_faultOf_189 : decode cX4_faultOf 189 = .ok (.iload_n 3, 1) := by decide +kernel
theorem dX4_faultOf_190 : decode cX4_faultOf 190 = .ok (.invokevirtual 155, 3) := by decide +kernel
theorem dX4_faultOf_193 : decode cX4_faultOf 193 = .ok (.ireturn, 1) := by decide +kernel
theorem dX4_faultOf_194 : decode cX4_faultOf 194 = .ok (.aload_n 0, 1) := by decide +kernel
theorem dX4_faultOf_195 : decode cX4_faultOf 195 = .ok (.getfield 10, 3) := by decide +kernel
theorem dX4_faultOf_198 : decode cX4_faultOf 198 = .ok (.iload_n 2, 1) := by decide +kernel
theorem dX4_faultOf_199 : decode cX4_faultOf 199 = .ok (.invokevirtual 161, 3) := by decide +kernel
theorem dX4_faultOf_202 : decode cX4_faultOf 202 = .ok (.ireturn, 1) := by decide +kernel
theorem dX4_faultOf_203 : decode cX4_faultOf 203 = .ok (.aload_n 0, 1) := by decide +kernel
theorem dX4_faultOf_204 : decode cX4_faultOf 204 = .ok (.getfield 10, 3) := by decide +kernel
theorem dX4_faultOf_207 : decode cX4_faultOf 207 = .ok (.iload_n 2, 1) := by decide +kernel
theorem dX4_faultOf_208 : decode cX4_faultOf 208 = .ok (.iload_n 3, 1) := by decide +kernel
theorem dX4_faultOf_209 : decode cX4_faultOf 209 = .ok (.invokevirtual 167, 3) := by decide +kernel
theorem dX4_faultOf_212 : decode cX4_faultOf 212 = .ok (.ireturn, 1) := by decide +kernel
theorem dX4_faultOf_213 : decode cX4_faultOf 213 = .ok (.aload_n 0, 1) := by decide +kernel
theorem dX4_faultOf_214 : decode cX4_faultOf 214 = .ok (.getfield 10, 3) := by decide +kernel
theorem dX4_faultOf_217 : decode cX4_faultOf 217 = .ok (.iload_n 2, 1) := by decide +kernel
theorem dX4_faultOf_218 : decode cX4_faultOf 218 = .ok (.iload_n 3, 1) := by decide +kernel
theorem dX4_faultOf_219 : decode cX4_faultOf 219 = .ok (.invokevirtual 173, 3) := by decide +kernel
theorem dX4_faultOf_222 : decode cX4_faultOf 222 = .ok (.ireturn, 1) := by decide +kernel
theorem dX4_faultOf_223 : decode cX4_faultOf 223 = .ok (.aload_n 0, 1) := by decide +kernel
theorem dX4_faultOf_224 : decode cX4_faultOf 224 = .ok (.getfield 10, 3) := by decide +kernel
theorem dX4_faultOf_227 : decode cX4_faultOf 227 = .ok (.iload_n 2, 1) := by decide +kernel
theorem dX4_faultOf_228 : decode cX4_faultOf 228 = .ok (.invokevirtual 179, 3) := by decide +kernel
theorem dX4_faultOf_231 : decode cX4_faultOf 231 = .ok (.ireturn, 1) := by decide +kernel
theorem dX4_faultOf_232 : decode cX4_faultOf 232 = .ok (.aload_n 0, 1) := by decide +kernel
theorem dX4_faultOf_233 : decode cX4_faultOf 233 = .ok (.getfield 10, 3) := by decide +kernel
theorem dX4_faultOf_236 : decode cX4_faultOf 236 = .ok (.iload_n 2, 1) := by decide +kernel
theorem dX4_faultOf_237 : decode cX4_faultOf 237 = .ok (.iload_n 3, 1) := by decide +kernel
theorem dX4_faultOf_238 : decode cX4_faultOf 238 = .ok (.invokevirtual 194, 3) := by decide +kernel
theorem dX4_faultOf_241 : decode cX4_faultOf 241 = .ok (.ireturn, 1) := by decide +kernel
theorem dX4_faultOf_242 : decode cX4_faultOf 242 = .ok (.aload_n 0, 1) := by decide +kernel
theorem dX4_faultOf_243 : decode cX4_faultOf 243 = .ok (.getfield 10, 3) := by decide +kernel
theorem dX4_faultOf_246 : decode cX4_faultOf 246 = .ok (.iload_n 2, 1) := by decide +kernel
theorem dX4_faultOf_247 : decode cX4_faultOf 247 = .ok (.iload_n 3, 1) := by decide +kernel
theorem dX4_faultOf_248 : decode cX4_faultOf 248 = .ok (.i2c, 1) := by decide +kernel
theorem dX4_faultOf_249 : decode cX4_faultOf 249 = .ok (.invokevirtual 200, 3) := by decide +kernel
theorem dX4_faultOf_252 : decode cX4_faultOf 252 = .ok (.ireturn, 1) := by decide +kernel
theorem dX4_faultOf_253 : decode cX4_faultOf 253 = .ok (.aload_n 0, 1) := by decide +kernel
theorem dX4_faultOf_254 : decode cX4_faultOf 254 = .ok (.getfield 10, 3) := by decide +kernel
theorem dX4_faultOf_257 : decode cX4_faultOf 257 = .ok (.iload_n 2, 1) := by decide +kernel
theorem dX4_faultOf_258 : decode cX4_faultOf 258 = .ok (.iload_n 3, 1) := by decide +kernel
theorem dX4_faultOf_259 : decode cX4_faultOf 259 = .ok (.aload_n 0, 1) := by decide +kernel
theorem dX4_faultOf_260 : decode cX4_faultOf 260 = .ok (.getfield 37, 3) := by decide +kernel
theorem dX4_faultOf_263 : decode cX4_faultOf 263 = .ok (.iload_n 1, 1) := by decide +kernel
theorem dX4_faultOf_264 : decode cX4_faultOf 264 = .ok (.iconst 2, 1) := by decide +kernel
theorem dX4_faultOf_265 : decode cX4_faultOf 265 = .ok (.invokevirtual 394, 3) := by decide +kernel
theorem dX4_faultOf_268 : decode cX4_faultOf 268 = .ok (.i2c, 1) := by decide +kernel
theorem dX4_faultOf_269 : decode cX4_faultOf 269 = .ok (.invokevirtual 211, 3) := by decide +kernel
theorem dX4_faultOf_272 : decode cX4_faultOf 272 = .ok (.ireturn, 1) := by decide +kernel
theorem dX4_faultOf_273 : decode cX4_faultOf 273 = .ok (.aload_n 0, 1) := by decide +kernel
theorem dX4_faultOf_274 : decode cX4_faultOf 274 = .ok (.getfield 10, 3) := by decide +kernel
theorem dX4_faultOf_277 : decode cX4_faultOf 277 = .ok (.iload_n 2, 1) := by decide +kernel
theorem dX4_faultOf_278 : decode cX4_faultOf 278 = .ok (.iload_n 3, 1) := by decide +kernel
theorem dX4_faultOf_279 : decode cX4_faultOf 279 = .ok (.invokevirtual 218, 3) := by decide +kernel
theorem dX4_faultOf_282 : decode cX4_faultOf 282 = .ok (.ireturn, 1) := by decide +kernel
theorem dX4_faultOf_283 : decode cX4_faultOf 283 = .ok (.aload_n 0, 1) := by decide +kernel
theorem dX4_faultOf_284 : decode cX4_faultOf 284 = .ok (.getfield 10, 3) := by decide +kernel
theorem dX4_faultOf_287 : decode cX4_faultOf 287 = .ok (.iload_n 2, 1) := by decide +kernel
theorem dX4_faultOf_288 : decode cX4_faultOf 288 = .ok (.invokevirtual 239, 3) := by decide +kernel
theorem dX4_faultOf_291 : decode cX4_faultOf 291 = .ok (.ireturn, 1) := by decide +kernel
theorem dX4_carryOut_0 : decode cX4_carryOut 0 = .ok (.aload_n 0, 1) := by decide +kernel
theorem dX4_carryOut_1 : decode cX4_carryOut 1 = .ok (.getfield 37, 3) := by decide +kernel
theorem dX4_carryOut_4 : decode cX4_carryOut 4 = .ok (.iload_n 1, 1) := by decide +kernel
theorem dX4_carryOut_5 : decode cX4_carryOut 5 = .ok (.iconst 0, 1) := by decide +kernel
theorem dX4_carryOut_6 : decode cX4_carryOut 6 = .ok (.invokevirtual 394, 3) := by decide +kernel
theorem dX4_carryOut_9 : decode cX4_carryOut 9 = .ok (.istore_n 2, 1) := by decide +kernel
theorem dX4_carryOut_10 : decode cX4_carryOut 10 = .ok (.aload_n 0, 1) := by decide +kernel
theorem dX4_carryOut_11 : decode cX4_carryOut 11 = .ok (.getfield 37, 3) := by decide +kernel
theorem dX4_carryOut_14 : decode cX4_carryOut 14 = .ok (.iload_n 1, 1) := by decide +kernel
theorem dX4_carryOut_15 : decode cX4_carryOut 15 = .ok (.iconst 1, 1) := by decide +kernel
theorem dX4_carryOut_16 : decode cX4_carryOut 16 = .ok (.invokevirtual 394, 3) := by decide +kernel
theorem dX4_carryOut_19 : decode cX4_carryOut 19 = .ok (.istore_n 3, 1) := by decide +kernel
theorem dX4_carryOut_20 : decode cX4_carryOut 20 = .ok (.aload_n 0, 1) := by decide +kernel
theorem dX4_carryOut_21 : decode cX4_carryOut 21 = .ok (.getfield 37, 3) := by decide +kernel
theorem dX4_carryOut_24 : decode cX4_carryOut 24 = .ok (.iload_n 1, 1) := by decide +kernel
theorem dX4_carryOut_25 : decode cX4_carryOut 25 = .ok (.invokevirtual 397, 3) := by decide +kernel
theorem dX4_carryOut_28 : decode cX4_carryOut 28 = .ok (.tableswitch 311 97 119 #[122, 247, 311, 159, 298, 311, 311, 311, 311, 209, 222, 184, 196, 108, 311, 147, 234, 171, 311, 275, 261, 311, 135], 108) := by decide +kernel
theorem dX4_carryOut_136 : decode cX4_carryOut 136 = .ok (.aload_n 0, 1) := by decide +kernel
theorem dX4_carryOut_137 : decode cX4_carryOut 137 = .ok (.getfield 20, 3) := by decide +kernel
theorem dX4_carryOut_140 : decode cX4_carryOut 140 = .ok (.iload_n 2, 1) := by decide +kernel
theorem dX4_carryOut_141 : decode cX4_carryOut 141 = .ok (.i2c, 1) := by decide +kernel
theorem dX4_carryOut_142 : decode cX4_carryOut 142 = .ok (.iload_n 3, 1) := by decide +kernel
theorem dX4_carryOut_143 : decode cX4_carryOut 143 = .ok (.invokevirtual 73, 3) := by decide +kernel
theorem dX4_carryOut_146 : decode cX4_carryOut 146 = .ok (.pop, 1) := by decide +kernel
theorem dX4_carryOut_147 : decode cX4_carryOut 147 = .ok (.goto 201, 3) := by decide +kernel
theorem dX4_carryOut_150 : decode cX4_carryOut 150 = .ok (.aload_n 0, 1) := by decide +kernel
theorem dX4_carryOut_151 : decode cX4_carryOut 151 = .ok (.getfield 20, 3) := by decide +kernel
theorem dX4_carryOut_154 : decode cX4_carryOut 154 = .ok (.iload_n 2, 1) := by decide +kernel
theorem dX4_carryOut_155 : decode cX4_carryOut 155 = .ok (.iload_n 3, 1) := by decide +kernel
theorem dX4_carryOut_156 : decode cX4_carryOut 156 = .ok (.invokevirtual 121, 3) := by decide +kernel
theorem dX4_carryOut_159 : decode cX4_carryOut 159 = .ok (.pop, 1) := by decide +kernel
theorem dX4_carryOut_160 : decode cX4_carryOut 160 = .ok (.goto 188, 3) := by decide +kernel
theorem dX4_carryOut_163 : decode cX4_carryOut 163 = .ok (.aload_n 0, 1) := by decide +kernel
theorem dX4_carryOut_164 : decode cX4_carryOut 164 = .ok (.getfield 20, 3) := by decide +kernel
theorem dX4_carryOut_167 : decode cX4_carryOut 167 = .ok (.iload_n 2, 1) := by decide +kernel
theorem dX4_carryOut_168 : decode cX4_carryOut 168 = .ok (.invokevirtual 128, 3) := by decide +kernel
theorem dX4_carryOut_171 : decode cX4_carryOut 171 = .ok (.pop, 1) := by decide +kernel
theorem dX4_carryOut_172 : decode cX4_carryOut 172 = .ok (.goto 176, 3) := by decide +kernel
theorem dX4_carryOut_175 : decode cX4_carryOut 175 = .ok (.aload_n 0, 1) := by decide +kernel
theorem dX4_carryOut_176 : decode cX4_carryOut 176 = .ok (.getfield 20, 3) := by decide +kernel
theorem dX4_carryOut_179 : decode cX4_carryOut 179 = .ok (.iload_n 2, 1) := by decide +kernel
theorem dX4_carryOut_180 : decode cX4_carryOut 180 = .ok (.invokevirtual 134, 3) := by decide +kernel
theorem dX4_carryOut_183 : decode cX4_carryOut 183 = .ok (.pop, 1) := by decide +kernel
theorem dX4_carryOut_184 : decode cX4_carryOut 184 = .ok (.goto 164, 3) := by decide +kernel
theorem dX4_carryOut_187 : decode cX4_carryOut 187 = .ok (.aload_n 0, 1) := by decide +kernel
theorem dX4_carryOut_188 : decode cX4_carryOut 188 = .ok (.getfield 20, 3) := by decide +kernel
theorem dX4_carryOut_191 : decode cX4_carryOut 191 = .ok (.iload_n 2, 1) := by decide +kernel
theorem dX4_carryOut_192 : decode cX4_carryOut 192 = .ok (.invokevirtual 140, 3) := by decide +kernel
theorem dX4_carryOut_195 : decode cX4_carryOut 195 = .ok (.pop, 1) := by decide +kernel
theorem dX4_carryOut_196 : decode cX4_carryOut 196 = .ok (.goto 152, 3) := by decide +kernel
theorem dX4_carryOut_199 : decode cX4_carryOut 199 = .ok (.aload_n 0, 1) := by decide +kernel
theorem dX4_carryOut_200 : decode cX4_carryOut 200 = .ok (.getfield 20, 3) := by decide +kernel
theorem dX4_carryOut_203 : decode cX4_carryOut 203 = .ok (.iload_n 2, 1) := by decide +kernel
theorem dX4_carryOut_204 : decode cX4_carryOut 204 = .ok (.iload_n 3, 1) := by decide +kernel
theorem dX4_carryOut_205 : decode cX4_carryOut 205 = .ok (.invokevirtual 158, 3) := by decide +kernel
theorem dX4_carryOut_208 : decode cX4_carryOut 208 = .ok (.pop, 1) := by decide +kernel
theorem dX4_carryOut_209 : decode cX4_carryOut 209 = .ok (.goto 139, 3) := by decide +kernel
theorem dX4_carryOut_212 : decode cX4_carryOut 212 = .ok (.aload_n 0, 1) := by decide +kernel
theorem dX4_carryOut_213 : decode cX4_carryOut 213 = .ok (.getfield 20, 3) := by decide +kernel
theorem dX4_carryOut_216 : decode cX4_carryOut 216 = .ok (.iload_n 2, 1) := by decide +kernel
theorem dX4_carryOut_217 : decode cX4_carryOut 217 = .ok (.invokevirtual 164, 3) := by decide +kernel
theorem dX4_carryOut_220 : decode cX4_carryOut 220 = .ok (.pop, 1) := by decide +kernel
theorem dX4_carryOut_221 : decode cX4_carryOut 221 = .ok (.goto 127, 3) := by decide +kernel
theorem dX4_carryOut_224 : decode cX4_carryOut 224 = .ok (.aload_n 0, 1) := by decide +kernel
theorem dX4_carryOut_225 : decode cX4_carryOut 225 = .ok (.getfield 20, 3) := by decide +kernel
theorem dX4_carryOut_228 : decode cX4_carryOut 228 = .ok (.iload_n 2, 1) := by decide +kernel
theorem dX4_carryOut_229 : decode cX4_carryOut 229 = .ok (.iload_n 3, 1) := by decide +kernel
theorem dX4_carryOut_230 : decode cX4_carryOut 230 = .ok (.invokevirtual 170, 3) := by decide +kernel
theorem dX4_carryOut_233 : decode cX4_carryOut 233 = .ok (.pop, 1) := by decide +kernel
theorem dX4_carryOut_234 : decode cX4_carryOut 234 = .ok (.goto 114, 3) := by decide +kernel
theorem dX4_carryOut_237 : decode cX4_carryOut 237 = .ok (.aload_n 0, 1) := by decide +kernel
theorem dX4_carryOut_238 : decode cX4_carryOut 238 = .ok (.getfield 20, 3) := by decide +kernel
theorem dX4_carryOut_241 : decode cX4_carryOut 241 = .ok (.iload_n 2, 1) := by decide +kernel
theorem dX4_carryOut_242 : decode cX4_carryOut 242 = .ok (.iload_n 3, 1) := by decide +kernel
theorem dX4_carryOut_243 : decode cX4_carryOut 243 = .ok (.invokevirtual 176, 3) := by decide +kernel
theorem dX4_carryOut_246 : decode cX4_carryOut 246 = .ok (.pop, 1) := by decide +kernel
theorem dX4_carryOut_247 : decode cX4_carryOut 247 = .ok (.goto 101, 3) := by decide +kernel
theorem dX4_carryOut_250 : decode cX4_carryOut 250 = .ok (.aload_n 0, 1) := by decide +kernel
theorem dX4_carryOut_251 : decode cX4_carryOut 251 = .ok (.getfield 20, 3) := by decide +kernel
theorem dX4_carryOut_254 : decode cX4_carryOut 254 = .ok (.iload_n 2, 1) := by decide +kernel
theorem dX4_carryOut_255 : decode cX4_carryOut 255 = .ok (.invokevirtual 182, 3) := by decide +kernel
theorem dX4_carryOut_258 : decode cX4_carryOut 258 = .ok (.pop, 1) := by decide +kernel
theorem dX4_carryOut_259 : decode cX4_carryOut 259 = .ok (.goto 89, 3) := by decide +kernel
theorem dX4_carryOut_262 : decode cX4_carryOut 262 = .ok (.aload_n 0, 1) := by decide +kernel
theorem dX4_carryOut_263 : decode cX4_carryOut 263 = .ok (.getfield 20, 3) := by decide +kernel
theorem dX4_carryOut_266 : decode cX4_carryOut 266 = .ok (.iload_n 2, 1) := by decide +kernel
theorem dX4_carryOut_267 : decode cX4_carryOut 267 = .ok (.iload_n 3, 1) := by decide +kernel
theorem dX4_carryOut_268 : decode cX4_carryOut 268 = .ok (.invokevirtual 197, 3) := by decide +kernel
theorem dX4_carryOut_271 : decode cX4_carryOut 271 = .ok (.pop, 1) := by decide +kernel
theorem dX4_carryOut_272 : decode cX4_carryOut 272 = .ok (.goto 76, 3) := by decide +kernel
theorem dX4_carryOut_275 : decode cX4_carryOut 275 = .ok (.aload_n 0, 1) := by decide +kernel
theorem dX4_carryOut_276 : decode cX4_carryOut 276 = .ok (.getfield 20, 3) := by decide +kernel
theorem dX4_carryOut_279 : decode cX4_carryOut 279 = .ok (.iload_n 2, 1) := by decide +kernel
theorem dX4_carryOut_280 : decode cX4_carryOut 280 = .ok (.iload_n 3, 1) := by decide +kernel
theorem dX4_carryOut_281 : decode cX4_carryOut 281 = .ok (.i2c, 1) := by decide +kernel
theorem dX4_carryOut_282 : decode cX4_carryOut 282 = .ok (.invokevirtual 204, 3) := by decide +kernel
theorem dX4_carryOut_285 : decode cX4_carryOut 285 = .ok (.pop, 1) := by decide +kernel
theorem dX4_carryOut_286 : decode cX4_carryOut 286 = .ok (.goto 62, 3) := by decide +kernel
theorem dX4_carryOut_289 : decode cX4_carryOut 289 = .ok (.aload_n 0, 1) := by decide +kernel
theorem dX4_carryOut_290 : decode cX4_carryOut 290 = .ok (.getfield 20, 3) := by decide +kernel
theorem dX4_carryOut_293 : decode cX4_carryOut 293 = .ok (.iload_n 2, 1) := by decide +kernel
theorem dX4_carryOut_294 : decode cX4_carryOut 294 = .ok (.iload_n 3, 1) := by decide +kernel
theorem dX4_carryOut_295 : decode cX4_carryOut 295 = .ok (.i2c, 1) := by decide +kernel
theorem dX4_carryOut_296 : decode cX4_carryOut 296 = .ok (.invokevirtual 208, 3) := by decide +kernel
theorem dX4_carryOut_299 : decode cX4_carryOut 299 = .ok (.pop, 1) := by decide +kernel
theorem dX4_carryOut_300 : decode cX4_carryOut 300 = .ok (.goto 48, 3) := by decide +kernel
theorem dX4_carryOut_303 : decode cX4_carryOut 303 = .ok (.aload_n 0, 1) := by decide +kernel
theorem dX4_carryOut_304 : decode cX4_carryOut 304 = .ok (.getfield 20, 3) := by decide +kernel
theorem dX4_carryOut_307 : decode cX4_carryOut 307 = .ok (.iload_n 2, 1) := by decide +kernel
theorem dX4_carryOut_308 : decode cX4_carryOut 308 = .ok (.iload_n 3, 1) := by decide +kernel
theorem dX4_carryOut_309 : decode cX4_carryOut 309 = .ok (.aload_n 0, 1) := by decide +kernel
theorem dX4_carryOut_310 : decode cX4_carryOut 310 = .ok (.getfield 37, 3) := by decide +kernel
theorem dX4_carryOut_313 : decode cX4_carryOut 313 = .ok (.iload_n 1, 1) := by decide +kernel
theorem dX4_carryOut_314 : decode cX4_carryOut 314 = .ok (.iconst 2, 1) := by decide +kernel
theorem dX4_carryOut_315 : decode cX4_carryOut 315 = .ok (.invokevirtual 394, 3) := by decide +kernel
theorem dX4_carryOut_318 : decode cX4_carryOut 318 = .ok (.i2c, 1) := by decide +kernel
theorem dX4_carryOut_319 : decode cX4_carryOut 319 = .ok (.invokevirtual 215, 3) := by decide +kernel
theorem dX4_carryOut_322 : decode cX4_carryOut 322 = .ok (.pop, 1) := by decide +kernel
theorem dX4_carryOut_323 : decode cX4_carryOut 323 = .ok (.goto 25, 3) := by decide +kernel
theorem dX4_carryOut_326 : decode cX4_carryOut 326 = .ok (.aload_n 0, 1) := by decide +kernel
theorem dX4_carryOut_327 : decode cX4_carryOut 327 = .ok (.getfield 20, 3) := by decide +kernel
theorem dX4_carryOut_330 : decode cX4_carryOut 330 = .ok (.iload_n 2, 1) := by decide +kernel
theorem dX4_carryOut_331 : decode cX4_carryOut 331 = .ok (.iload_n 3, 1) := by decide +kernel
theorem dX4_carryOut_332 : decode cX4_carryOut 332 = .ok (.invokevirtual 221, 3) := by decide +kernel
theorem dX4_carryOut_335 : decode cX4_carryOut 335 = .ok (.pop, 1) := by decide +kernel
theorem dX4_carryOut_336 : decode cX4_carryOut 336 = .ok (.goto 12, 3) := by decide +kernel
theorem dX4_carryOut_339 : decode cX4_carryOut 339 = .ok (.aload_n 0, 1) := by decide +kernel
theorem dX4_carryOut_340 : decode cX4_carryOut 340 = .ok (.getfield 20, 3) := by decide +kernel
theorem dX4_carryOut_343 : decode cX4_carryOut 343 = .ok (.iload_n 2, 1) := by decide +kernel
theorem dX4_carryOut_344 : decode cX4_carryOut 344 = .ok (.invokevirtual 242, 3) := by decide +kernel
theorem dX4_carryOut_347 : decode cX4_carryOut 347 = .ok (.pop, 1) := by decide +kernel
theorem dX4_carryOut_348 : decode cX4_carryOut 348 = .ok (.return_, 1) := by decide +kernel
