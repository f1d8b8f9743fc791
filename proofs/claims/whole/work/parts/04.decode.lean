theorem dX0_init_0 : decode cX0_init 0 = .ok (.aload_n 0, 1) := by decide +kernel
theorem dX0_init_1 : decode cX0_init 1 = .ok (.invokespecial 1, 3) := by decide +kernel
theorem dX0_init_4 : decode cX0_init 4 = .ok (.aload_n 0, 1) := by decide +kernel
theorem dX0_init_5 : decode cX0_init 5 = .ok (.bipush 16, 2) := by decide +kernel
theorem dX0_init_7 : decode cX0_init 7 = .ok (.newarray .int, 2) := by decide +kernel
theorem dX0_init_9 : decode cX0_init 9 = .ok (.putfield 9, 3) := by decide +kernel
theorem dX0_init_12 : decode cX0_init 12 = .ok (.iconst 0, 1) := by decide +kernel
theorem dX0_init_13 : decode cX0_init 13 = .ok (.istore_n 1, 1) := by decide +kernel
theorem dX0_init_14 : decode cX0_init 14 = .ok (.iload_n 1, 1) := by decide +kernel
theorem dX0_init_15 : decode cX0_init 15 = .ok (.bipush 16, 2) := by decide +kernel
theorem dX0_init_17 : decode cX0_init 17 = .ok (.if_icmp .ge 20, 3) := by decide +kernel
theorem dX0_init_20 : decode cX0_init 20 = .ok (.aload_n 0, 1) := by decide +kernel
theorem dX0_init_21 : decode cX0_init 21 = .ok (.getfield 9, 3) := by decide +kernel
theorem dX0_init_24 : decode cX0_init 24 = .ok (.iload_n 1, 1) := by decide +kernel
theorem dX0_init_25 : decode cX0_init 25 = .ok (.getstatic 13, 3) := by decide +kernel
theorem dX0_init_28 : decode cX0_init 28 = .ok (.iload_n 1, 1) := by decide +kernel
theorem dX0_init_29 : decode cX0_init 29 = .ok (.iaload, 1) := by decide +kernel
theorem dX0_init_30 : decode cX0_init 30 = .ok (.iastore, 1) := by decide +kernel
theorem dX0_init_31 : decode cX0_init 31 = .ok (.iinc 1 1, 3) := by decide +kernel
theorem dX0_init_34 : decode cX0_init 34 = .ok (.goto (-20), 3) := by decide +kernel
theorem dX0_init_37 : decode cX0_init 37 = .ok (.return_, 1) := by decide +kernel
theorem dX0_of_0 : decode cX0_of 0 = .ok (.iload_n 1, 1) := by decide +kernel
theorem dX0_of_1 : decode cX0_of 1 = .ok (.iconst 2, 1) := by decide +kernel
theorem dX0_of_2 : decode cX0_of 2 = .ok (.if_icmp .lt 9, 3) := by decide +kernel
theorem dX0_of_5 : decode cX0_of 5 = .ok (.iload_n 1, 1) := by decide +kernel
theorem dX0_of_6 : decode cX0_of 6 = .ok (.bipush 15, 2) := by decide +kernel
theorem dX0_of_8 : decode cX0_of 8 = .ok (.if_icmp .le 7, 3) := by decide +kernel
theorem dX0_of_11 : decode cX0_of 11 = .ok (.iconst 0, 1) := by decide +kernel
theorem dX0_of_12 : decode cX0_of 12 = .ok (.goto 9, 3) := by decide +kernel
theorem dX0_of_15 : decode cX0_of 15 = .ok (.aload_n 0, 1) := by decide +kernel
theorem dX0_of_16 : decode cX0_of 16 = .ok (.getfield 9, 3) := by decide +kernel
theorem dX0_of_19 : decode cX0_of 19 = .ok (.iload_n 1, 1) := by decide +kernel
theorem dX0_of_20 : decode cX0_of 20 = .ok (.iaload, 1) := by decide +kernel
theorem dX0_of_21 : decode cX0_of 21 = .ok (.ireturn, 1) := by decide +kernel
theorem dX0_allows_0 : decode cX0_allows 0 = .ok (.iload_n 1, 1) := by decide +kernel
theorem dX0_allows_1 : decode cX0_allows 1 = .ok (.iconst 2, 1) := by decide +kernel
theorem dX0_allows_2 : decode cX0_allows 2 = .ok (.if_icmp .lt 27, 3) := by decide +kernel
theorem dX0_allows_5 : decode cX0_allows 5 = .ok (.iload_n 1, 1) := by decide +kernel
theorem dX0_allows_6 : decode cX0_allows 6 = .ok (.bipush 15, 2) := by decide +kernel
theorem dX0_allows_8 : decode cX0_allows 8 = .ok (.if_icmp .gt 21, 3) := by decide +kernel
theorem dX0_allows_11 : decode cX0_allows 11 = .ok (.iload_n 2, 1) := by decide +kernel
theorem dX0_allows_12 : decode cX0_allows 12 = .ok (.getstatic 16, 3) := by decide +kernel
theorem dX0_allows_15 : decode cX0_allows 15 = .ok (.iload_n 1, 1) := by decide +kernel
theorem dX0_allows_16 : decode cX0_allows 16 = .ok (.iaload, 1) := by decide +kernel
theorem dX0_allows_17 : decode cX0_allows 17 = .ok (.if_icmp .lt 12, 3) := by decide +kernel
theorem dX0_allows_20 : decode cX0_allows 20 = .ok (.iload_n 2, 1) := by decide +kernel
theorem dX0_allows_21 : decode cX0_allows 21 = .ok (.getstatic 19, 3) := by decide +kernel
theorem dX0_allows_24 : decode cX0_allows 24 = .ok (.iload_n 1, 1) := by decide +kernel
theorem dX0_allows_25 : decode cX0_allows 25 = .ok (.iaload, 1) := by decide +kernel
theorem dX0_allows_26 : decode cX0_allows 26 = .ok (.if_icmp .le 5, 3) := by decide +kernel
theorem dX0_allows_29 : decode cX0_allows 29 = .ok (.iconst 0, 1) := by decide +kernel
theorem dX0_allows_30 : decode cX0_allows 30 = .ok (.ireturn, 1) := by decide +kernel
theorem dX0_allows_31 : decode cX0_allows 31 = .ok (.iload_n 1, 1) := by decide +kernel
theorem dX0_allows_32 : decode cX0_allows 32 = .ok (.iconst 4, 1) := by decide +kernel
theorem dX0_allows_33 : decode cX0_allows 33 = .ok (.if_icmp .ne 19, 3) := by decide +kernel
theorem dX0_allows_36 : decode cX0_allows 36 = .ok (.iload_n 2, 1) := by decide +kernel
theorem dX0_allows_37 : decode cX0_allows 37 = .ok (.aload_n 0, 1) := by decide +kernel
theorem dX0_allows_38 : decode cX0_allows 38 = .ok (.getfield 9, 3) := by decide +kernel
theorem dX0_allows_41 : decode cX0_allows 41 = .ok (.iconst 5, 1) := by decide +kernel
theorem dX0_allows_42 : decode cX0_allows 42 = .ok (.iaload, 1) := by decide +kernel
theorem dX0_allows_43 : decode cX0_allows 43 = .ok (.if_icmp .ge 7, 3) := by decide +kernel
theorem dX0_allows_46 : decode cX0_allows 46 = .ok (.iconst 1, 1) := by decide +kernel
theorem dX0_allows_47 : decode cX0_allows 47 = .ok (.goto 4, 3) := by decide +kernel
theorem dX0_allows_50 : decode cX0_allows 50 = .ok (.iconst 0, 1) := by decide +kernel
theorem dX0_allows_51 : decode cX0_allows 51 = .ok (.ireturn, 1) := by decide +kernel
theorem dX0_allows_52 : decode cX0_allows 52 = .ok (.iload_n 1, 1) := by decide +kernel
theorem dX0_allows_53 : decode cX0_allows 53 = .ok (.iconst 5, 1) := by decide +kernel
theorem dX0_allows_54 : decode cX0_allows 54 = .ok (.if_icmp .ne 13, 3) := by decide +kernel
theorem dX0_allows_57 : decode cX0_allows 57 = .ok (.aload_n 0, 1) := by decide +kernel
theorem dX0_allows_58 : decode cX0_allows 58 = .ok (.getfield 9, 3) := by decide +kernel
theorem dX0_allows_61 : decode cX0_allows 61 = .ok (.iconst 4, 1) := by decide +kernel
theorem dX0_allows_62 : decode cX0_allows 62 = .ok (.iaload, 1) := by decide +kernel
theorem dX0_allows_63 : decode cX0_allows 63 = .ok (.iload_n 2, 1) := by decide +kernel
theorem dX0_allows_64 : decode cX0_allows 64 = .ok (.if_icmp .ge 7, 3) := by decide +kernel
theorem dX0_allows_67 : decode cX0_allows 67 = .ok (.iconst 1, 1) := by decide +kernel
theorem dX0_allows_68 : decode cX0_allows 68 = .ok (.goto 4, 3) := by decide +kernel
theorem dX0_allows_71 : decode cX0_allows 71 = .ok (.iconst 0, 1) := by decide +kernel
theorem dX0_allows_72 : decode cX0_allows 72 = .ok (.ireturn, 1) := by decide +kernel
theorem dX0_put_0 : decode cX0_put 0 = .ok (.aload_n 0, 1) := by decide +kernel
theorem dX0_put_1 : decode cX0_put 1 = .ok (.iload_n 1, 1) := by decide +kernel
theorem dX0_put_2 : decode cX0_put 2 = .ok (.iload_n 2, 1) := by decide +kernel
theorem dX0_put_3 : decode cX0_put 3 = .ok (.invokevirtual 22, 3) := by decide +kernel
theorem dX0_put_6 : decode cX0_put 6 = .ok (.ifCond .eq 10, 3) := by decide +kernel
theorem dX0_put_9 : decode cX0_put 9 = .ok (.aload_n 0, 1) := by decide +kernel
theorem dX0_put_10 : decode cX0_put 10 = .ok (.getfield 9, 3) := by decide +kernel
theorem dX0_put_13 : decode cX0_put 13 = .ok (.iload_n 1, 1) := by decide +kernel
theorem dX0_put_14 : decode cX0_put 14 = .ok (.iload_n 2, 1) := by decide +kernel
theorem dX0_put_15 : decode cX0_put 15 = .ok (.iastore, 1) := by decide +kernel
theorem dX0_put_16 : decode cX0_put 16 = .ok (.return_, 1) := by decide +kernel
theorem dX1_init_0 : decode cX1_init 0 = .ok (.aload_n 0, 1) := by decide +kernel
theorem dX1_init_1 : decode cX1_init 1 = .ok (.invokespecial 3, 3) := by decide +kernel
theorem dX1_init_4 : decode cX1_init 4 = .ok (.aload_n 0, 1) := by decide +kernel
theorem dX1_init_5 : decode cX1_init 5 = .ok (.sipush 600, 3) := by decide +kernel
theorem dX1_init_8 : decode cX1_init 8 = .ok (.newarray .int, 2) := by decide +kernel
theorem dX1_init_10 : decode cX1_init 10 = .ok (.putfield 9, 3) := by decide +kernel
theorem dX1_init_13 : decode cX1_init 13 = .ok (.aload_n 0, 1) := by decide +kernel
theorem dX1_init_14 : decode cX1_init 14 = .ok (.sipush 600, 3) := by decide +kernel
theorem dX1_init_17 : decode cX1_init 17 = .ok (.newarray .int, 2) := by decide +kernel
theorem dX1_init_19 : decode cX1_init 19 = .ok (.putfield 15, 3) := by decide +kernel
theorem dX1_init_22 : decode cX1_init 22 = .ok (.aload_n 0, 1) := by decide +kernel
theorem dX1_init_23 : decode cX1_init 23 = .ok (.sipush 600, 3) := by decide +kernel
theorem dX1_init_26 : decode cX1_init 26 = .ok (.newarray .int, 2) := by decide +kernel
theorem dX1_init_28 : decode cX1_init 28 = .ok (.putfield 18, 3) := by decide +kernel
theorem dX1_init_31 : decode cX1_init 31 = .ok (.aload_n 0, 1) := by decide +kernel
theorem dX1_init_32 : decode cX1_init 32 = .ok (.bipush 100, 2) := by decide +kernel
theorem dX1_init_34 : decode cX1_init 34 = .ok (.newarray .int, 2) := by decide +kernel
theorem dX1_init_36 : decode cX1_init 36 = .ok (.putfield 21, 3) := by decide +kernel
theorem dX1_init_39 : decode cX1_init 39 = .ok (.aload_n 0, 1) := by decide +kernel
theorem dX1_init_40 : decode cX1_init 40 = .ok (.aload_n 1, 1) := by decide +kernel
theorem dX1_init_41 : decode cX1_init 41 = .ok (.putfield 24, 3) := by decide +kernel
theorem dX1_init_44 : decode cX1_init 44 = .ok (.aload_n 0, 1) := by decide +kernel
theorem dX1_init_45 : decode cX1_init 45 = .ok (.aload_n 2, 1) := by decide +kernel
theorem dX1_init_46 : decode cX1_init 46 = .ok (.putfield 28, 3) := by decide +kernel
theorem dX1_init_49 : decode cX1_init 49 = .ok (.return_, 1) := by decide +kernel
theorem dX1_frameCount_0 : decode cX1_frameCount 0 = .ok (.aload_n 0, 1) := by decide +kernel
theorem dX1_frameCount_1 : decode cX1_frameCount 1 = .ok (.getfield 32, 3) := by decide +kernel
theorem dX1_frameCount_4 : decode cX1_frameCount 4 = .ok (.ireturn, 1) := by decide +kernel
theorem dX1_has_0 : decode cX1_has 0 = .ok (.iload_n 1, 1) := by decide +kernel
theorem dX1_has_1 : decode cX1_has 1 = .ok (.ifCond .lt 29, 3) := by decide +kernel
theorem dX1_has_4 : decode cX1_has 4 = .ok (.iload_n 1, 1) := by decide +kernel
theorem dX1_has_5 : decode cX1_has 5 = .ok (.aload_n 0, 1) := by decide +kernel
theorem dX1_has_6 : decode cX1_has 6 = .ok (.getfield 32, 3) := by decide +kernel
theorem dX1_has_9 : decode cX1_has 9 = .ok (.if_icmp .ge 21, 3) := by decide +kernel
theorem dX1_has_12 : decode cX1_has 12 = .ok (.iload_n 2, 1) := by decide +kernel
theorem dX1_has_13 : decode cX1_has 13 = .ok (.ifCond .lt 17, 3) := by decide +kernel
theorem dX1_has_16 : decode cX1_has 16 = .ok (.iload_n 2, 1) := by decide +kernel
theorem dX1_has_17 : decode cX1_has 17 = .ok (.aload_n 0, 1) := by decide +kernel
theorem dX1_has_18 : decode cX1_has 18 = .ok (.getfield 21, 3) := by decide +kernel
theorem dX1_has_21 : decode cX1_has 21 = .ok (.iload_n 1, 1) := by decide +kernel
theorem dX1_has_22 : decode cX1_has 22 = .ok (.iaload, 1) := by decide +kernel
theorem dX1_has_23 : decode cX1_has 23 = .ok (.if_icmp .ge 7, 3) := by decide +kernel
theorem dX1_has_26 : decode cX1_has 26 = .ok (.iconst 1, 1) := by decide +kernel
theorem dX1_has_27 : decode cX1_has 27 = .ok (.goto 4, 3) := by decide +kernel
theorem dX1_has_30 : decode cX1_has 30 = .ok (.iconst 0, 1) := by decide +kernel
theorem dX1_has_31 : decode cX1_has 31 = .ok (.ireturn, 1) := by decide +kernel
theorem dX1_sizeOf_0 : decode cX1_sizeOf 0 = .ok (.iload_n 1, 1) := by decide +kernel
theorem dX1_sizeOf_1 : decode cX1_sizeOf 1 = .ok (.ifCond .lt 11, 3) := by decide +kernel
theorem dX1_sizeOf_4 : decode cX1_sizeOf 4 = .ok (.iload_n 1, 1) := by decide +kernel
theorem dX1_sizeOf_5 : decode cX1_sizeOf 5 = .ok (.aload_n 0, 1) := by decide +kernel
theorem dX1_sizeOf_6 : decode cX1_sizeOf 6 = .ok (.getfield 32, 3) := by decide +kernel
theorem dX1_sizeOf_9 : decode cX1_sizeOf 9 = .ok (.if_icmp .lt 7, 3) := by decide +kernel
theorem dX1_sizeOf_12 : decode cX1_sizeOf 12 = .ok (.iconst 0, 1) := by decide +kernel
theorem dX1_sizeOf_13 : decode cX1_sizeOf 13 = .ok (.goto 9, 3) := by decide +kernel
theorem dX1_sizeOf_16 : decode cX1_sizeOf 16 = .ok (.aload_n 0, 1) := by decide +kernel
theorem dX1_sizeOf_17 : decode cX1_sizeOf 17 = .ok (.getfield 21, 3) := by decide +kernel
theorem dX1_sizeOf_20 : decode cX1_sizeOf 20 = .ok (.iload_n 1, 1) := by decide +kernel
theorem dX1_sizeOf_21 : decode cX1_sizeOf 21 = .ok (.iaload, 1) := by decide +kernel
theorem dX1_sizeOf_22 : decode cX1_sizeOf 22 = .ok (.ireturn, 1) := by decide +kernel
theorem dX1_lagOf_0 : decode cX1_lagOf 0 = .ok (.aload_n 0, 1) := by decide +kernel
theorem dX1_lagOf_1 : decode cX1_lagOf 1 = .ok (.iload_n 1, 1) := by decide +kernel
theorem dX1_lagOf_2 : decode cX1_lagOf 2 = .ok (.iload_n 2, 1) := by decide +kernel
theorem dX1_lagOf_3 : decode cX1_lagOf 3 = .ok (.invokevirtual 36, 3) := by decide +kernel
theorem dX1_lagOf_6 : decode cX1_lagOf 6 = .ok (.ifCond .eq 16, 3) := by decide +kernel
theorem dX1_lagOf_9 : decode cX1_lagOf 9 = .ok (.aload_n 0, 1) := by decide +kernel
theorem dX1_lagOf_10 : decode cX1_lagOf 10 = .ok (.getfield 9, 3) := by decide +kernel
theorem dX1_lagOf_13 : decode cX1_lagOf 13 = .ok (.iload_n 1, 1) := by decide +kernel
theorem dX1_lagOf_14 : decode cX1_lagOf 14 = .ok (.iload_n 2, 1) := by decide +kernel
theorem dX1_lagOf_15 : decode cX1_lagOf 15 = .ok (.invokestatic 40, 3) := by decide +kernel
theorem dX1_lagOf_18 : decode cX1_lagOf 18 = .ok (.iaload, 1) := by decide +kernel
theorem dX1_lagOf_19 : decode cX1_lagOf 19 = .ok (.goto 4, 3) := by decide +kernel
theorem dX1_lagOf_22 : decode cX1_lagOf 22 = .ok (.iconst 0, 1) := by decide +kernel
theorem dX1_lagOf_23 : decode cX1_lagOf 23 = .ok (.ireturn, 1) := by decide +kernel
theorem dX1_ownOf_0 : decode cX1_ownOf 0 = .ok (.aload_n 0, 1) := by decide +kernel
theorem dX1_ownOf_1 : decode cX1_ownOf 1 = .ok (.iload_n 1, 1) := by decide +kernel
theorem dX1_ownOf_2 : decode cX1_ownOf 2 = .ok (.iload_n 2, 1) := by decide +kernel
theorem dX1_ownOf_3 : decode cX1_ownOf 3 = .ok (.invokevirtual 36, 3) := by decide +kernel
theorem dX1_ownOf_6 : decode cX1_ownOf 6 = .ok (.ifCond .eq 16, 3) := by decide +kernel
theorem dX1_ownOf_9 : decode cX1_ownOf 9 = .ok (.aload_n 0, 1) := by decide +kernel
theorem dX1_ownOf_10 : decode cX1_ownOf 10 = .ok (.getfield 15, 3) := by decide +kernel
theorem dX1_ownOf_13 : decode cX1_ownOf 13 = .ok (.iload_n 1, 1) := by decide +kernel
theorem dX1_ownOf_14 : decode cX1_ownOf 14 = .ok (.iload_n 2, 1) := by decide +kernel
theorem dX1_ownOf_15 : decode cX1_ownOf 15 = .ok (.invokestatic 40, 3) := by decide +kernel
theorem dX1_ownOf_18 : decode cX1_ownOf 18 = .ok (.iaload, 1) := by decide +kernel
theorem dX1_ownOf_19 : decode cX1_ownOf 19 = .ok (.goto 4, 3) := by decide +kernel
theorem dX1_ownOf_22 : decode cX1_ownOf 22 = .ok (.iconst 0, 1) := by decide +kernel
theorem dX1_ownOf_23 : decode cX1_ownOf 23 = .ok (.ireturn, 1) := by decide +kernel
theorem dX1_halfOf_0 : decode cX1_halfOf 0 = .ok (.aload_n 0, 1) := by decide +kernel
theorem dX1_halfOf_1 : decode cX1_halfOf 1 = .ok (.iload_n 1, 1) := by decide +kernel
theorem dX1_halfOf_2 : decode cX1_halfOf 2 = .ok (.iload_n 2, 1) := by decide +kernel
theorem dX1_halfOf_3 : decode cX1_halfOf 3 = .ok (.invokevirtual 36, 3) := by decide +kernel
theorem dX1_halfOf_6 : decode cX1_halfOf 6 = .ok (.ifCond .eq 16, 3) := by decide +kernel
theorem dX1_halfOf_9 : decode cX1_halfOf 9 = .ok (.aload_n 0, 1) := by decide +kernel
theorem dX1_halfOf_10 : decode cX1_halfOf 10 = .ok (.getfield 18, 3) := by decide +kernel
theorem dX1_halfOf_13 : decode cX1_halfOf 13 = .ok (.iload_n 1, 1) := by decide +kernel
theorem dX1_halfOf_14 : decode cX1_halfOf 14 = .ok (.iload_n 2, 1) := by decide +kernel
theorem dX1_halfOf_15 : decode cX1_halfOf 15 = .ok (.invokestatic 40, 3) := by decide +kernel
theorem dX1_halfOf_18 : decode cX1_halfOf 18 = .ok (.iaload, 1) := by decide +kernel
theorem dX1_halfOf_19 : decode cX1_halfOf 19 = .ok (.goto 4, 3) := by decide +kernel
theorem dX1_halfOf_22 : decode cX1_halfOf 22 = .ok (.iconst (-1), 1) := by decide +kernel
theorem dX1_halfOf_23 : decode cX1_halfOf 23 = .ok (.ireturn, 1) := by decide +kernel
theorem dX1_cheaperThan_0 : decode cX1_cheaperThan 0 = .ok (.iconst 0, 1) := by decide +kernel
theorem dX1_cheaperThan_1 : decode cX1_cheaperThan 1 = .ok (.istore_n 3, 1) := by decide +kernel
theorem dX1_cheaperThan_2 : decode cX1_cheaperThan 2 = .ok (.iconst 0, 1) := by decide +kernel
theorem dX1_cheaperThan_3 : decode cX1_cheaperThan 3 = .ok (.istore 4, 2) := by decide +kernel
theorem dX1_cheaperThan_5 : decode cX1_cheaperThan 5 = .ok (.iload 4, 2) := by decide +kernel
theorem dX1_cheaperThan_7 : decode cX1_cheaperThan 7 = .ok (.aload_n 0, 1) := by decide +kernel
theorem dX1_cheaperThan_8 : decode cX1_cheaperThan 8 = .ok (.iload_n 1, 1) := by decide +kernel
theorem dX1_cheaperThan_9 : decode cX1_cheaperThan 9 = .ok (.invokevirtual 44, 3) := by decide +kernel
theorem dX1_cheaperThan_12 : decode cX1_cheaperThan 12 = .ok (.if_icmp .ge 28, 3) := by decide +kernel
theorem dX1_cheaperThan_15 : decode cX1_cheaperThan 15 = .ok (.aload_n 0, 1) := by decide +kernel
theorem dX1_cheaperThan_16 : decode cX1_cheaperThan 16 = .ok (.iload_n 1, 1) := by decide +kernel
theorem dX1_cheaperThan_17 : decode cX1_cheaperThan 17 = .ok (.iload 4, 2) := by decide +kernel
theorem dX1_cheaperThan_19 : decode cX1_cheaperThan 19 = .ok (.invokevirtual 48, 3) := by decide +kernel
theorem dX1_cheaperThan_22 : decode cX1_cheaperThan 22 = .ok (.aload_n 0, 1) := by decide +kernel
theorem dX1_cheaperThan_23 : decode cX1_cheaperThan 23 = .ok (.iload_n 1, 1) := by decide +kernel
theorem dX1_cheaperThan_24 : decode cX1_cheaperThan 24 = .ok (.iload_n 2, 1) := by decide +kernel
theorem dX1_cheaperThan_25 : decode cX1_cheaperThan 25 = .ok (.invokevirtual 48, 3) := by decide +kernel
theorem dX1_cheaperThan_28 : decode cX1_cheaperThan 28 = .ok (.if_icmp .ge 6, 3) := by decide +kernel
theorem dX1_cheaperThan_31 : decode cX1_cheaperThan 31 = .ok (.iinc 3 1, 3) := by decide +kernel
theorem dX1_cheaperThan_34 : decode cX1_cheaperThan 34 = .ok (.iinc 4 1, 3) := by decide +kernel
theorem dX1_cheaperThan_37 : decode cX1_cheaperThan 37 = .ok (.goto (-32), 3) := by decide +kernel
theorem dX1_cheaperThan_40 : decode cX1_cheaperThan 40 = .ok (.iload_n 3, 1) := by decide +kernel
theorem dX1_cheaperThan_41 : decode cX1_cheaperThan 41 = .ok (.ireturn, 1) := by decide +kernel
theorem dX1_find_0 : decode cX1_find 0 = .ok (.aload_n 0, 1) := by decide +kernel
theorem dX1_find_1 : decode cX1_find 1 = .ok (.aload_n 0, 1) := by decide +kernel
theorem dX1_find_2 : decode cX1_find 2 = .ok (.getfield 24, 3) := by decide +kernel
theorem dX1_find_5 : decode cX1_find 5 = .ok (.invokevirtual 51, 3) := by decide +kernel
theorem dX1_find_8 : decode cX1_find 8 = .ok (.putfield 32, 3) := by decide +kernel
theorem dX1_find_11 : decode cX1_find 11 = .ok (.iconst 0, 1) := by decide +kernel
theorem dX1_find_12 : decode cX1_find 12 = .ok (.istore_n 1, 1) := by decide +kernel
theorem dX1_find_13 : decode cX1_find 13 = .ok (.iload_n 1, 1) := by decide +kernel
theorem dX1_find_14 : decode cX1_find 14 = .ok (.aload_n 0, 1) := by decide +kernel
theorem dX1_find_15 : decode cX1_find 15 = .ok (.getfield 32, 3) := by decide +kernel
theorem dX1_find_18 : decode cX1_find 18 = .ok (.if_icmp .ge 109, 3) := by decide +kernel
theorem dX1_find_21 : decode cX1_find 21 = .ok (.aload_n 0, 1) := by decide +kernel
theorem dX1_find_22 : decode cX1_find 22 = .ok (.getfield 24, 3) := by decide +kernel
theorem dX1_find_25 : decode cX1_find 25 = .ok (.iload_n 1, 1) := by decide +kernel
theorem dX1_find_26 : decode cX1_find 26 = .ok (.invokevirtual 57, 3) := by decide +kernel
theorem dX1_find_29 : decode cX1_find 29 = .ok (.aload_n 0, 1) := by decide +kernel
theorem dX1_find_30 : decode cX1_find 30 = .ok (.getfield 28, 3) := by decide +kernel
theorem dX1_find_33 : decode cX1_find 33 = .ok (.bipush 14, 2) := by decide +kernel
theorem dX1_find_35 : decode cX1_find 35 = .ok (.invokevirtual 62, 3) := by decide +kernel
theorem dX1_find_38 : decode cX1_find 38 = .ok (.if_icmp .ge 7, 3) := by decide +kernel
theorem dX1_find_41 : decode cX1_find 41 = .ok (.iconst 0, 1) := by decide +kernel
theorem dX1_find_42 : decode cX1_find 42 = .ok (.goto 8, 3) := by decide +kernel
theorem dX1_find_45 : decode cX1_find 45 = .ok (.aload_n 0, 1) := by decide +kernel
theorem dX1_find_46 : decode cX1_find 46 = .ok (.iload_n 1, 1) := by decide +kernel
theorem dX1_find_47 : decode cX1_find 47 = .ok (.invokevirtual 65, 3) := by decide +kernel
theorem dX1_find_50 : decode cX1_find 50 = .ok (.istore_n 2, 1) := by decide +kernel
theorem dX1_find_51 : decode cX1_find 51 = .ok (.aload_n 0, 1) := by decide +kernel
theorem dX1_find_52 : decode cX1_find 52 = .ok (.getfield 9, 3) := by decide +kernel
theorem dX1_find_55 : decode cX1_find 55 = .ok (.iload_n 1, 1) := by decide +kernel
theorem dX1_find_56 : decode cX1_find 56 = .ok (.iload_n 2, 1) := by decide +kernel
theorem dX1_find_57 : decode cX1_find 57 = .ok (.invokestatic 40, 3) := by decide +kernel
theorem dX1_find_60 : decode cX1_find 60 = .ok (.iconst 0, 1) := by decide +kernel
theorem dX1_find_61 : decode cX1_find 61 = .ok (.iastore, 1) := by decide +kernel
theorem dX1_find_62 : decode cX1_find 62 = .ok (.aload_n 0, 1) := by decide +kernel
theorem dX1_find_63 : decode cX1_find 63 = .ok (.getfield 21, 3) := by decide +kernel
theorem dX1_find_66 : decode cX1_find 66 = .ok (.iload_n 1, 1) := by decide +kernel
theorem dX1_find_67 : decode cX1_find 67 = .ok (.iload_n 2, 1) := by decide +kernel
theorem dX1_find_68 : decode cX1_find 68 = .ok (.iconst 1, 1) := by decide +kernel
theorem dX1_find_69 : decode cX1_find 69 = .ok (.iadd, 1) := by decide +kernel
theorem dX1_find_70 : decode cX1_find 70 = .ok (.iastore, 1) := by decide +kernel
theorem dX1_find_71 : decode cX1_find 71 = .ok (.iconst 0, 1) := by decide +kernel
theorem dX1_find_72 : decode cX1_find 72 = .ok (.istore_n 3, 1) := by decide +kernel
theorem dX1_find_73 : decode cX1_find 73 = .ok (.iload_n 3, 1) := by decide +kernel
theorem dX1_find_74 : decode cX1_find 74 = .ok (.iload_n 2, 1) := by decide +kernel
theorem dX1_find_75 : decode cX1_find 75 = .ok (.if_icmp .gt 46, 3) := by decide +kernel
theorem dX1_find_78 : decode cX1_find 78 = .ok (.aload_n 0, 1) := by decide +kernel
theorem dX1_find_79 : decode cX1_find 79 = .ok (.getfield 15, 3) := by decide +kernel
theorem dX1_find_82 : decode cX1_find 82 = .ok (.iload_n 1, 1) := by decide +kernel
theorem dX1_find_83 : decode cX1_find 83 = .ok (.iload_n 3, 1) := by decide +kernel
theorem dX1_find_84 : decode cX1_find 84 = .ok (.invokestatic 40, 3) := by decide +kernel
theorem dX1_find_87 : decode cX1_find 87 = .ok (.aload_n 0, 1) := by decide +kernel
theorem dX1_find_88 : decode cX1_find 88 = .ok (.iload_n 1, 1) := by decide +kernel
theorem dX1_find_89 : decode cX1_find 89 = .ok (.aload_n 0, 1) := by decide +kernel
theorem dX1_find_90 : decode cX1_find 90 = .ok (.iload_n 1, 1) := by decide +kernel
theorem dX1_find_91 : decode cX1_find 91 = .ok (.iload_n 3, 1) := by decide +kernel
theorem dX1_find_92 : decode cX1_find 92 = .ok (.invokevirtual 68, 3) := by decide +kernel
theorem dX1_find_95 : decode cX1_find 95 = .ok (.invokevirtual 71, 3) := by decide +kernel
theorem dX1_find_98 : decode cX1_find 98 = .ok (.iastore, 1) := by decide +kernel
theorem dX1_find_99 : decode cX1_find 99 = .ok (.aload_n 0, 1) := by decide +kernel
theorem dX1_find_100 : decode cX1_find 100 = .ok (.getfield 18, 3) := by decide +kernel
theorem dX1_find_103 : decode cX1_find 103 = .ok (.iload_n 1, 1) := by decide +kernel
theorem dX1_find_104 : decode cX1_find 104 = .ok (.iload_n 3, 1) := by decide +kernel
theorem dX1_find_105 : decode cX1_find 105 = .ok (.invokestatic 40, 3) := by decide +kernel
theorem dX1_find_108 : decode cX1_find 108 = .ok (.aload_n 0, 1) := by decide +kernel
theorem dX1_find_109 : decode cX1_find 109 = .ok (.iload_n 1, 1) := by decide +kernel
theorem dX1_find_110 : decode cX1_find 110 = .ok (.iload_n 3, 1) := by decide +kernel
theorem dX1_find_111 : decode cX1_find 111 = .ok (.invokevirtual 74, 3) := by decide +kernel
theorem dX1_find_114 : decode cX1_find 114 = .ok (.iastore, 1) := by decide +kernel
theorem dX1_find_115 : decode cX1_find 115 = .ok (.iinc 3 1, 3) := by decide +kernel
theorem dX1_find_118 : decode cX1_find 118 = .ok (.goto (-45), 3) := by decide +kernel
theorem dX1_find_121 : decode cX1_find 121 = .ok (.iinc 1 1, 3) := by decide +kernel
theorem dX1_find_124 : decode cX1_find 124 = .ok (.goto (-111), 3) := by decide +kernel
theorem dX1_find_127 : decode cX1_find 127 = .ok (.return_, 1) := by decide +kernel
theorem dX1_keepDips_0 : decode cX1_keepDips 0 = .ok (.iconst 5, 1) := by decide +kernel
theorem dX1_keepDips_1 : decode cX1_keepDips 1 = .ok (.aload_n 0, 1) := by decide +kernel
theorem dX1_keepDips_2 : decode cX1_keepDips 2 = .ok (.getfield 28, 3) := by decide +kernel
theorem dX1_keepDips_5 : decode cX1_keepDips 5 = .ok (.bipush 7, 2) := by decide +kernel
theorem dX1_keepDips_7 : decode cX1_keepDips 7 = .ok (.invokevirtual 62, 3) := by decide +kernel
theorem dX1_keepDips_10 : decode cX1_keepDips 10 = .ok (.invokestatic 77, 3) := by decide +kernel
theorem dX1_keepDips_13 : decode cX1_keepDips 13 = .ok (.istore_n 2, 1) := by decide +kernel
theorem dX1_keepDips_14 : decode cX1_keepDips 14 = .ok (.aload_n 0, 1) := by decide +kernel
theorem dX1_keepDips_15 : decode cX1_keepDips 15 = .ok (.getfield 28, 3) := by decide +kernel
theorem dX1_keepDips_18 : decode cX1_keepDips 18 = .ok (.iconst 5, 1) := by decide +kernel
theorem dX1_keepDips_19 : decode cX1_keepDips 19 = .ok (.invokevirtual 62, 3) := by decide +kernel
theorem dX1_keepDips_22 : decode cX1_keepDips 22 = .ok (.istore_n 3, 1) := by decide +kernel
theorem dX1_keepDips_23 : decode cX1_keepDips 23 = .ok (.iconst 0, 1) := by decide +kernel
theorem dX1_keepDips_24 : decode cX1_keepDips 24 = .ok (.istore 4, 2) := by decide +kernel
theorem dX1_keepDips_26 : decode cX1_keepDips 26 = .ok (.aload_n 0, 1) := by decide +kernel
theorem dX1_keepDips_27 : decode cX1_keepDips 27 = .ok (.getfield 28, 3) := by decide +kernel
theorem dX1_keepDips_30 : decode cX1_keepDips 30 = .ok (.iconst 4, 1) := by decide +kernel
theorem dX1_keepDips_31 : decode cX1_keepDips 31 = .ok (.invokevirtual 62, 3) := by decide +kernel
theorem dX1_keepDips_34 : decode cX1_keepDips 34 = .ok (.istore 5, 2) := by decide +kernel
theorem dX1_keepDips_36 : decode cX1_keepDips 36 = .ok (.iload 5, 2) := by decide +kernel
theorem dX1_keepDips_38 : decode cX1_keepDips 38 = .ok (.iload_n 3, 1) := by decide +kernel
theorem dX1_keepDips_39 : decode cX1_keepDips 39 = .ok (.if_icmp .gt 51, 3) := by decide +kernel
theorem dX1_keepDips_42 : decode cX1_keepDips 42 = .ok (.aload_n 0, 1) := by decide +kernel
theorem dX1_keepDips_43 : decode cX1_keepDips 43 = .ok (.iload_n 1, 1) := by decide +kernel
theorem dX1_keepDips_44 : decode cX1_keepDips 44 = .ok (.iload 5, 2) := by decide +kernel
theorem dX1_keepDips_46 : decode cX1_keepDips 46 = .ok (.invokevirtual 82, 3) := by decide +kernel
theorem dX1_keepDips_49 : decode cX1_keepDips 49 = .ok (.ifCond .eq 35, 3) := by decide +kernel
theorem dX1_keepDips_52 : decode cX1_keepDips 52 = .ok (.aload_n 0, 1) := by decide +kernel
theorem dX1_keepDips_53 : decode cX1_keepDips 53 = .ok (.getfield 9, 3) := by decide +kernel
theorem dX1_keepDips_56 : decode cX1_keepDips 56 = .ok (.iload_n 1, 1) := by decide +kernel
theorem dX1_keepDips_57 : decode cX1_keepDips 57 = .ok (.iload 4, 2) := by decide +kernel
theorem dX1_keepDips_59 : decode cX1_keepDips 59 = .ok (.invokestatic 40, 3) := by decide +kernel
theorem dX1_keepDips_62 : decode cX1_keepDips 62 = .ok (.iload 5, 2) := by decide +kernel
theorem dX1_keepDips_64 : decode cX1_keepDips 64 = .ok (.iastore, 1) := by decide +kernel
theorem dX1_keepDips_65 : decode cX1_keepDips 65 = .ok (.iinc 4 1, 3) := by decide +kernel
theorem dX1_keepDips_68 : decode cX1_keepDips 68 = .ok (.iload 4, 2) := by decide +kernel
theorem dX1_keepDips_70 : decode cX1_keepDips 70 = .ok (.iload_n 2, 1) := by decide +kernel
theorem dX1_keepDips_71 : decode cX1_keepDips 71 = .ok (.if_icmp .le 13, 3) := by decide +kernel
theorem dX1_keepDips_74 : decode cX1_keepDips 74 = .ok (.aload_n 0, 1) := by decide +kernel
theorem dX1_keepDips_75 : decode cX1_keepDips 75 = .ok (.iload_n 1, 1) := by decide +kernel
theorem dX1_keepDips_76 : decode cX1_keepDips 76 = .ok (.iload 4, 2) := by decide +kernel
theorem dX1_keepDips_78 : decode cX1_keepDips 78 = .ok (.invokevirtual 85, 3) := by decide +kernel
theorem dX1_keepDips_81 : decode cX1_keepDips 81 = .ok (.iinc 4 (-1), 3) := by decide +kernel
theorem dX1_keepDips_84 : decode cX1_keepDips 84 = .ok (.iinc 5 1, 3) := by decide +kernel
theorem dX1_keepDips_87 : decode cX1_keepDips 87 = .ok (.goto (-51), 3) := by decide +kernel
theorem dX1_keepDips_90 : decode cX1_keepDips 90 = .ok (.iload 4, 2) := by decide +kernel
theorem dX1_keepDips_92 : decode cX1_keepDips 92 = .ok (.ireturn, 1) := by decide +kernel
theorem dX1_isDip_0 : decode cX1_isDip 0 = .ok (.aload_n 0, 1) := by decide +kernel
theorem dX1_isDip_1 : decode cX1_isDip 1 = .ok (.getfield 24, 3) := by decide +kernel
theorem dX1_isDip_4 : decode cX1_isDip 4 = .ok (.iload_n 1, 1) := by decide +kernel
theorem dX1_isDip_5 : decode cX1_isDip 5 = .ok (.iload_n 2, 1) := by decide +kernel
theorem dX1_isDip_6 : decode cX1_isDip 6 = .ok (.invokevirtual 89, 3) := by decide +kernel
theorem dX1_isDip_9 : decode cX1_isDip 9 = .ok (.istore_n 3, 1) := by decide +kernel
theorem dX1_isDip_10 : decode cX1_isDip 10 = .ok (.iload_n 3, 1) := by decide +kernel
theorem dX1_isDip_11 : decode cX1_isDip 11 = .ok (.aload_n 0, 1) := by decide +kernel
theorem dX1_isDip_12 : decode cX1_isDip 12 = .ok (.getfield 28, 3) := by decide +kernel
theorem dX1_isDip_15 : decode cX1_isDip 15 = .ok (.bipush 6, 2) := by decide +kernel
theorem dX1_isDip_17 : decode cX1_isDip 17 = .ok (.invokevirtual 62, 3) := by decide +kernel
theorem dX1_isDip_20 : decode cX1_isDip 20 = .ok (.if_icmp .gt 37, 3) := by decide +kernel
theorem dX1_isDip_23 : decode cX1_isDip 23 = .ok (.iload_n 3, 1) := by decide +kernel
theorem dX1_isDip_24 : decode cX1_isDip 24 = .ok (.aload_n 0, 1) := by decide +kernel
theorem dX1_isDip_25 : decode cX1_isDip 25 = .ok (.getfield 24, 3) := by decide +kernel
theorem dX1_isDip_28 : decode cX1_isDip 28 = .ok (.iload_n 1, 1) := by decide +kernel
theorem dX1_isDip_29 : decode cX1_isDip 29 = .ok (.iload_n 2, 1) := by decide +kernel
theorem dX1_isDip_30 : decode cX1_isDip 30 = .ok (.iconst 1, 1) := by decide +kernel
theorem dX1_isDip_31 : decode cX1_isDip 31 = .ok (.isub, 1) := by decide +kernel
theorem dX1_isDip_32 : decode cX1_isDip 32 = .ok (.invokevirtual 89, 3) := by decide +kernel
theorem dX1_isDip_35 : decode cX1_isDip 35 = .ok (.if_icmp .ge 22, 3) := by decide +kernel
theorem dX1_isDip_38 : decode cX1_isDip 38 = .ok (.iload_n 3, 1) := by decide +kernel
theorem dX1_isDip_39 : decode cX1_isDip 39 = .ok (.aload_n 0, 1) := by decide +kernel
theorem dX1_isDip_40 : decode cX1_isDip 40 = .ok (.getfield 24, 3) := by decide +kernel
theorem dX1_isDip_43 : decode cX1_isDip 43 = .ok (.iload_n 1, 1) := by decide +kernel
theorem dX1_isDip_44 : decode cX1_isDip 44 = .ok (.iload_n 2, 1) := by decide +kernel
theorem dX1_isDip_45 : decode cX1_isDip 45 = .ok (.iconst 1, 1) := by decide +kernel
theorem dX1_isDip_46 : decode cX1_isDip 46 = .ok (.iadd, 1) := by decide +kernel
theorem dX1_isDip_47 : decode cX1_isDip 47 = .ok (.invokevirtual 89, 3) := by decide +kernel
theorem dX1_isDip_50 : decode cX1_isDip 50 = .ok (.if_icmp .gt 7, 3) := by decide +kernel
theorem dX1_isDip_53 : decode cX1_isDip 53 = .ok (.iconst 1, 1) := by decide +kernel
theorem dX1_isDip_54 : decode cX1_isDip 54 = .ok (.goto 4, 3) := by decide +kernel
theorem dX1_isDip_57 : decode cX1_isDip 57 = .ok (.iconst 0, 1) := by decide +kernel
theorem dX1_isDip_58 : decode cX1_isDip 58 = .ok (.ireturn, 1) := by decide +kernel
theorem dX1_dropWorst_0 : decode cX1_dropWorst 0 = .ok (.iconst 0, 1) := by decide +kernel
theorem dX1_dropWorst_1 : decode cX1_dropWorst 1 = .ok (.istore_n 3, 1) := by decide +kernel
theorem dX1_dropWorst_2 : decode cX1_dropWorst 2 = .ok (.iconst 1, 1) := by decide +kernel
theorem dX1_dropWorst_3 : decode cX1_dropWorst 3 = .ok (.istore 4, 2) := by decide +kernel
theorem dX1_dropWorst_5 : decode cX1_dropWorst 5 = .ok (.iload 4, 2) := by decide +kernel
theorem dX1_dropWorst_7 : decode cX1_dropWorst 7 = .ok (.iload_n 2, 1) := by decide +kernel
theorem dX1_dropWorst_8 : decode cX1_dropWorst 8 = .ok (.if_icmp .ge 52, 3) := by decide +kernel
theorem dX1_dropWorst_11 : decode cX1_dropWorst 11 = .ok (.aload_n 0, 1) := by decide +kernel
theorem dX1_dropWorst_12 : decode cX1_dropWorst 12 = .ok (.getfield 24, 3) := by decide +kernel
theorem dX1_dropWorst_15 : decode cX1_dropWorst 15 = .ok (.iload_n 1, 1) := by decide +kernel
theorem dX1_dropWorst_16 : decode cX1_dropWorst 16 = .ok (.aload_n 0, 1) := by decide +kernel
theorem dX1_dropWorst_17 : decode cX1_dropWorst 17 = .ok (.getfield 9, 3) := by decide +kernel
theorem dX1_dropWorst_20 : decode cX1_dropWorst 20 = .ok (.iload_n 1, 1) := by decide +kernel
theorem dX1_dropWorst_21 : decode cX1_dropWorst 21 = .ok (.iload 4, 2) := by decide +kernel
theorem dX1_dropWorst_23 : decode cX1_dropWorst 23 = .ok (.invokestatic 40, 3) := by decide +kernel
theorem dX1_dropWorst_26 : decode cX1_dropWorst 26 = .ok (.iaload, 1) := by decide +kernel
theorem dX1_dropWorst_27 : decode cX1_dropWorst 27 = .ok (.invokevirtual 89, 3) := by decide +kernel
theorem dX1_dropWorst_30 : decode cX1_dropWorst 30 = .ok (.aload_n 0, 1) := by decide +kernel
theorem dX1_dropWorst_31 : decode cX1_dropWorst 31 = .ok (.getfield 24, 3) := by decide +kernel
theorem dX1_dropWorst_34 : decode cX1_dropWorst 34 = .ok (.iload_n 1, 1) := by decide +kernel
theorem dX1_dropWorst_35 : decode cX1_dropWorst 35 = .ok (.aload_n 0, 1) := by decide +kernel
theorem dX1_dropWorst_36 : decode cX1_dropWorst 36 = .ok (.getfield 9, 3) := by decide +kernel
theorem dX1_dropWorst_39 : decode cX1_dropWorst 39 = .ok (.iload_n 1, 1) := by decide +kernel
theorem dX1_dropWorst_40 : decode cX1_dropWorst 40 = .ok (.iload_n 3, 1) := by decide +kernel
theorem dX1_dropWorst_41 : decode cX1_dropWorst 41 = .ok (.invokestatic 40, 3) := by decide +kernel
theorem dX1_dropWorst_44 : decode cX1_dropWorst 44 = .ok (.iaload, 1) := by decide +kernel
theorem dX1_dropWorst_45 : decode cX1_dropWorst 45 = .ok (.invokevirtual 89, 3) := by decide +kernel
theorem dX1_dropWorst_48 : decode cX1_dropWorst 48 = .ok (.if_icmp .lt 6, 3) := by decide +kernel
theorem dX1_dropWorst_51 : decode cX1_dropWorst 51 = .ok (.iload 4, 2) := by decide +kernel
theorem dX1_dropWorst_53 : decode cX1_dropWorst 53 = .ok (.istore_n 3, 1) := by decide +kernel
theorem dX1_dropWorst_54 : decode cX1_dropWorst 54 = .ok (.iinc 4 1, 3) := by decide +kernel
theorem dX1_dropWorst_57 : decode cX1_dropWorst 57 = .ok (.goto (-52), 3) := by decide +kernel
theorem dX1_dropWorst_60 : decode cX1_dropWorst 60 = .ok (.iload_n 3, 1) := by decide +kernel
theorem dX1_dropWorst_61 : decode cX1_dropWorst 61 = .ok (.istore 4, 2) := by decide +kernel
theorem dX1_dropWorst_63 : decode cX1_dropWorst 63 = .ok (.iload 4, 2) := by decide +kernel
theorem dX1_dropWorst_65 : decode cX1_dropWorst 65 = .ok (.iconst 1, 1) := by decide +kernel
theorem dX1_dropWorst_66 : decode cX1_dropWorst 66 = .ok (.iadd, 1) := by decide +kernel
theorem dX1_dropWorst_67 : decode cX1_dropWorst 67 = .ok (.iload_n 2, 1) := by decide +kernel
theorem dX1_dropWorst_68 : decode cX1_dropWorst 68 = .ok (.if_icmp .ge 33, 3) := by decide +kernel
theorem dX1_dropWorst_71 : decode cX1_dropWorst 71 = .ok (.aload_n 0, 1) := by decide +kernel
theorem dX1_dropWorst_72 : decode cX1_dropWorst 72 = .ok (.getfield 9, 3) := by decide +kernel
theorem dX1_dropWorst_75 : decode cX1_dropWorst 75 = .ok (.iload_n 1, 1) := by decide +kernel
theorem dX1_dropWorst_76 : decode cX1_dropWorst 76 = .ok (.iload 4, 2) := by decide +kernel
theorem dX1_dropWorst_78 : decode cX1_dropWorst 78 = .ok (.invokestatic 40, 3) := by decide +kernel
theorem dX1_dropWorst_81 : decode cX1_dropWorst 81 = .ok (.aload_n 0, 1) := by decide +kernel
theorem dX1_dropWorst_82 : decode cX1_dropWorst 82 = .ok (.getfield 9, 3) := by decide +kernel
theorem dX1_dropWorst_85 : decode cX1_dropWorst 85 = .ok (.iload_n 1, 1) := by decide +kernel
theorem dX1_dropWorst_86 : decode cX1_dropWorst 86 = .ok (.iload 4, 2) := by decide +kernel
theorem dX1_dropWorst_88 : decode cX1_dropWorst 88 = .ok (.iconst 1, 1) := by decide +kernel
theorem dX1_dropWorst_89 : decode cX1_dropWorst 89 = .ok (.iadd, 1) := by decide +kernel
theorem dX1_dropWorst_90 : decode cX1_dropWorst 90 = .ok (.invokestatic 40, 3) := by decide +kernel
theorem dX1_dropWorst_93 : decode cX1_dropWorst 93 = .ok (.iaload, 1) := by decide +kernel
theorem dX1_dropWorst_94 : decode cX1_dropWorst 94 = .ok (.iastore, 1) := by decide +kernel
theorem dX1_dropWorst_95 : decode cX1_dropWorst 95 = .ok (.iinc 4 1, 3) := by decide +kernel
theorem dX1_dropWorst_98 : decode cX1_dropWorst 98 = .ok (.goto (-35), 3) := by decide +kernel
theorem dX1_dropWorst_101 : decode cX1_dropWorst 101 = .ok (.return_, 1) := by decide +kernel
theorem dX1_ownCost_0 : decode cX1_ownCost 0 = .ok (.iload_n 2, 1) := by decide +kernel
theorem dX1_ownCost_1 : decode cX1_ownCost 1 = .ok (.ifCond .ne 15, 3) := by decide +kernel
theorem dX1_ownCost_4 : decode cX1_ownCost 4 = .ok (.aload_n 0, 1) := by decide +kernel
theorem dX1_ownCost_5 : decode cX1_ownCost 5 = .ok (.getfield 28, 3) := by decide +kernel
theorem dX1_ownCost_8 : decode cX1_ownCost 8 = .ok (.bipush 9, 2) := by decide +kernel
theorem dX1_ownCost_10 : decode cX1_ownCost 10 = .ok (.invokevirtual 62, 3) := by decide +kernel
theorem dX1_ownCost_13 : decode cX1_ownCost 13 = .ok (.goto 24, 3) := by decide +kernel
theorem dX1_ownCost_16 : decode cX1_ownCost 16 = .ok (.aload_n 0, 1) := by decide +kernel
theorem dX1_ownCost_17 : decode cX1_ownCost 17 = .ok (.getfield 24, 3) := by decide +kernel
theorem dX1_ownCost_20 : decode cX1_ownCost 20 = .ok (.iload_n 1, 1) := by decide +kernel
theorem dX1_ownCost_21 : decode cX1_ownCost 21 = .ok (.iload_n 2, 1) := by decide +kernel
theorem dX1_ownCost_22 : decode cX1_ownCost 22 = .ok (.invokevirtual 89, 3) := by decide +kernel
theorem dX1_ownCost_25 : decode cX1_ownCost 25 = .ok (.aload_n 0, 1) := by decide +kernel
theorem dX1_ownCost_26 : decode cX1_ownCost 26 = .ok (.getfield 28, 3) := by decide +kernel
theorem dX1_ownCost_29 : decode cX1_ownCost 29 = .ok (.bipush 8, 2) := by decide +kernel
theorem dX1_ownCost_31 : decode cX1_ownCost 31 = .ok (.invokevirtual 62, 3) := by decide +kernel
theorem dX1_ownCost_34 : decode cX1_ownCost 34 = .ok (.iload_n 2, 1) := by decide +kernel
theorem dX1_ownCost_35 : decode cX1_ownCost 35 = .ok (.imul, 1) := by decide +kernel
theorem dX1_ownCost_36 : decode cX1_ownCost 36 = .ok (.iadd, 1) := by decide +kernel
theorem dX1_ownCost_37 : decode cX1_ownCost 37 = .ok (.ireturn, 1) := by decide +kernel
theorem dX1_findHalf_0 : decode cX1_findHalf 0 = .ok (.aload_n 0, 1) := by decide +kernel
theorem dX1_findHalf_1 : decode cX1_findHalf 1 = .ok (.iload_n 1, 1) := by decide +kernel
theorem dX1_findHalf_2 : decode cX1_findHalf 2 = .ok (.iload_n 2, 1) := by decide +kernel
theorem dX1_findHalf_3 : decode cX1_findHalf 3 = .ok (.invokevirtual 68, 3) := by decide +kernel
theorem dX1_findHalf_6 : decode cX1_findHalf 6 = .ok (.istore_n 3, 1) := by decide +kernel
theorem dX1_findHalf_7 : decode cX1_findHalf 7 = .ok (.iconst 0, 1) := by decide +kernel
theorem dX1_findHalf_8 : decode cX1_findHalf 8 = .ok (.istore 4, 2) := by decide +kernel
theorem dX1_findHalf_10 : decode cX1_findHalf 10 = .ok (.iload 4, 2) := by decide +kernel
theorem dX1_findHalf_12 : decode cX1_findHalf 12 = .ok (.aload_n 0, 1) := by decide +kernel
theorem dX1_findHalf_13 : decode cX1_findHalf 13 = .ok (.iload_n 1, 1) := by decide +kernel
theorem dX1_findHalf_14 : decode cX1_findHalf 14 = .ok (.invokevirtual 44, 3) := by decide +kernel
theorem dX1_findHalf_17 : decode cX1_findHalf 17 = .ok (.if_icmp .ge 49, 3) := by decide +kernel
theorem dX1_findHalf_20 : decode cX1_findHalf 20 = .ok (.aload_n 0, 1) := by decide +kernel
theorem dX1_findHalf_21 : decode cX1_findHalf 21 = .ok (.iload_n 1, 1) := by decide +kernel
theorem dX1_findHalf_22 : decode cX1_findHalf 22 = .ok (.iload 4, 2) := by decide +kernel
theorem dX1_findHalf_24 : decode cX1_findHalf 24 = .ok (.invokevirtual 68, 3) := by decide +kernel
theorem dX1_findHalf_27 : decode cX1_findHalf 27 = .ok (.istore 5, 2) := by decide +kernel
theorem dX1_findHalf_29 : decode cX1_findHalf 29 = .ok (.iload 4, 2) := by decide +kernel
theorem dX1_findHalf_31 : decode cX1_findHalf 31 = .ok (.iload_n 2, 1) := by decide +kernel
theorem dX1_findHalf_32 : decode cX1_findHalf 32 = .ok (.if_icmp .eq 28, 3) := by decide +kernel
theorem dX1_findHalf_35 : decode cX1_findHalf 35 = .ok (.iload 5, 2) := by decide +kernel
theorem dX1_findHalf_37 : decode cX1_findHalf 37 = .ok (.ifCond .eq 23, 3) := by decide +kernel
theorem dX1_findHalf_40 : decode cX1_findHalf 40 = .ok (.iload_n 3, 1) := by decide +kernel
theorem dX1_findHalf_41 : decode cX1_findHalf 41 = .ok (.ifCond .eq 19, 3) := by decide +kernel
theorem dX1_findHalf_44 : decode cX1_findHalf 44 = .ok (.iload_n 3, 1) := by decide +kernel
theorem dX1_findHalf_45 : decode cX1_findHalf 45 = .ok (.iconst 2, 1) := by decide +kernel
theorem dX1_findHalf_46 : decode cX1_findHalf 46 = .ok (.iload 5, 2) := by decide +kernel
theorem dX1_findHalf_48 : decode cX1_findHalf 48 = .ok (.imul, 1) := by decide +kernel
theorem dX1_findHalf_49 : decode cX1_findHalf 49 = .ok (.isub, 1) := by decide +kernel
theorem dX1_findHalf_50 : decode cX1_findHalf 50 = .ok (.invokestatic 92, 3) := by decide +kernel
theorem dX1_findHalf_53 : decode cX1_findHalf 53 = .ok (.iconst 1, 1) := by decide +kernel
theorem dX1_findHalf_54 : decode cX1_findHalf 54 = .ok (.if_icmp .gt 6, 3) := by decide +kernel
theorem dX1_findHalf_57 : decode cX1_findHalf 57 = .ok (.iload 4, 2) := by decide +kernel
theorem dX1_findHalf_59 : decode cX1_findHalf 59 = .ok (.ireturn, 1) := by decide +kernel
theorem dX1_findHalf_60 : decode cX1_findHalf 60 = .ok (.iinc 4 1, 3) := by decide +kernel
theorem dX1_findHalf_63 : decode cX1_findHalf 63 = .ok (.goto (-53), 3) := by decide +kernel
theorem dX1_findHalf_66 : decode cX1_findHalf 66 = .ok (.iconst (-1), 1) := by decide +kernel
theorem dX1_findHalf_67 : decode cX1_findHalf 67 = .ok (.ireturn, 1) := by decide +kernel
theorem dX2_init_0 : decode cX2_init 0 = .ok (.aload_n 0, 1) := by decide +kernel
theorem dX2_init_1 : decode cX2_init 1 = .ok (.invokespecial 3, 3) := by decide +kernel
theorem dX2_init_4 : decode cX2_init 4 = .ok (.aload_n 0, 1) := by decide +kernel
theorem dX2_init_5 : decode cX2_init 5 = .ok (.sipush 5000, 3) := by decide +kernel
theorem dX2_init_8 : decode cX2_init 8 = .ok (.newarray .int, 2) := by decide +kernel
theorem dX2_init_10 : decode cX2_init 10 = .ok (.putfield 9, 3) := by decide +kernel
theorem dX2_init_13 : decode cX2_init 13 = .ok (.aload_n 0, 1) := by decide +kernel
theorem dX2_init_14 : decode cX2_init 14 = .ok (.sipush 5000, 3) := by decide +kernel
theorem dX2_init_17 : decode cX2_init 17 = .ok (.newarray .int, 2) := by decide +kernel
theorem dX2_init_19 : decode cX2_init 19 = .ok (.putfield 15, 3) := by decide +kernel
theorem dX2_init_22 : decode cX2_init 22 = .ok (.aload_n 0, 1) := by decide +kernel
theorem dX2_init_23 : decode cX2_init 23 = .ok (.bipush 100, 2) := by decide +kernel
theorem dX2_init_25 : decode cX2_init 25 = .ok (.newarray .int, 2) := by decide +kernel
theorem dX2_init_27 : decode cX2_init 27 = .ok (.putfield 18, 3) := by decide +kernel
theorem dX2_init_30 : decode cX2_init 30 = .ok (.aload_n 0, 1) := by decide +kernel
theorem dX2_init_31 : decode cX2_init 31 = .ok (.bipush 100, 2) := by decide +kernel
theorem dX2_init_33 : decode cX2_init 33 = .ok (.newarray .boolean, 2) := by decide +kernel
theorem dX2_init_35 : decode cX2_init 35 = .ok (.putfield 21, 3) := by decide +kernel
theorem dX2_init_38 : decode cX2_init 38 = .ok (.aload_n 0, 1) := by decide +kernel
theorem dX2_init_39 : decode cX2_init 39 = .ok (.aload_n 1, 1) := by decide +kernel
theorem dX2_init_40 : decode cX2_init 40 = .ok (.putfield 25, 3) := by decide +kernel
theorem dX2_init_43 : decode cX2_init 43 = .ok (.aload_n 0, 1) := by decide +kernel
theorem dX2_init_44 : decode cX2_init 44 = .ok (.aload_n 2, 1) := by decide +kernel
theorem dX2_init_45 : decode cX2_init 45 = .ok (.putfield 29, 3) := by decide +kernel
theorem dX2_init_48 : decode cX2_init 48 = .ok (.return_, 1) := by decide +kernel
theorem dX2_size_0 : decode cX2_size 0 = .ok (.aload_n 0, 1) := by decide +kernel
theorem dX2_size_1 : decode cX2_size 1 = .ok (.getfield 25, 3) := by decide +kernel
theorem dX2_size_4 : decode cX2_size 4 = .ok (.invokevirtual 33, 3) := by decide +kernel
theorem dX2_size_7 : decode cX2_size 7 = .ok (.aload_n 0, 1) := by decide +kernel
theorem dX2_size_8 : decode cX2_size 8 = .ok (.invokevirtual 39, 3) := by decide +kernel
theorem dX2_size_11 : decode cX2_size 11 = .ok (.isub, 1) := by decide +kernel
theorem dX2_size_12 : decode cX2_size 12 = .ok (.istore_n 1, 1) := by decide +kernel
theorem dX2_size_13 : decode cX2_size 13 = .ok (.iload_n 1, 1) := by decide +kernel
theorem dX2_size_14 : decode cX2_size 14 = .ok (.ifCond .ge 7, 3) := by decide +kernel
theorem dX2_size_17 : decode cX2_size 17 = .ok (.iconst 0, 1) := by decide +kernel
theorem dX2_size_18 : decode cX2_size 18 = .ok (.goto 22, 3) := by decide +kernel
theorem dX2_size_21 : decode cX2_size 21 = .ok (.bipush 100, 2) := by decide +kernel
theorem dX2_size_23 : decode cX2_size 23 = .ok (.iload_n 1, 1) := by decide +kernel
theorem dX2_size_24 : decode cX2_size 24 = .ok (.aload_n 0, 1) := by decide +kernel
theorem dX2_size_25 : decode cX2_size 25 = .ok (.getfield 29, 3) := by decide +kernel
theorem dX2_size_28 : decode cX2_size 28 = .ok (.iconst 2, 1) := by decide +kernel
theorem dX2_size_29 : decode cX2_size 29 = .ok (.invokevirtual 44, 3) := by decide +kernel
theorem dX2_size_32 : decode cX2_size 32 = .ok (.invokestatic 48, 3) := by decide +kernel
theorem dX2_size_35 : decode cX2_size 35 = .ok (.iconst 1, 1) := by decide +kernel
theorem dX2_size_36 : decode cX2_size 36 = .ok (.iadd, 1) := by decide +kernel
theorem dX2_size_37 : decode cX2_size 37 = .ok (.invokestatic 52, 3) := by decide +kernel
theorem dX2_size_40 : decode cX2_size 40 = .ok (.ireturn, 1) := by decide +kernel
theorem dX2_has_0 : decode cX2_has 0 = .ok (.iload_n 1, 1) := by decide +kernel
theorem dX2_has_1 : decode cX2_has 1 = .ok (.ifCond .lt 15, 3) := by decide +kernel
theorem dX2_has_4 : decode cX2_has 4 = .ok (.iload_n 1, 1) := by decide +kernel
theorem dX2_has_5 : decode cX2_has 5 = .ok (.aload_n 0, 1) := by decide +kernel
theorem dX2_has_6 : decode cX2_has 6 = .ok (.invokevirtual 57, 3) := by decide +kernel
theorem dX2_has_9 : decode cX2_has 9 = .ok (.if_icmp .ge 7, 3) := by decide +kernel
theorem dX2_has_12 : decode cX2_has 12 = .ok (.iconst 1, 1) := by decide +kernel
theorem dX2_has_13 : decode cX2_has 13 = .ok (.goto 4, 3) := by decide +kernel
theorem dX2_has_16 : decode cX2_has 16 = .ok (.iconst 0, 1) := by decide +kernel
theorem dX2_has_17 : decode cX2_has 17 = .ok (.ireturn, 1) := by decide +kernel
theorem dX2_diffAt_0 : decode cX2_diffAt 0 = .ok (.iload_n 1, 1) := by decide +kernel
theorem dX2_diffAt_1 : decode cX2_diffAt 1 = .ok (.ifCond .lt 19, 3) := by decide +kernel
theorem dX2_diffAt_4 : decode cX2_diffAt 4 = .ok (.iload_n 1, 1) := by decide +kernel
theorem dX2_diffAt_5 : decode cX2_diffAt 5 = .ok (.bipush 100, 2) := by decide +kernel
theorem dX2_diffAt_7 : decode cX2_diffAt 7 = .ok (.if_icmp .ge 13, 3) := by decide +kernel
theorem dX2_diffAt_10 : decode cX2_diffAt 10 = .ok (.iload_n 2, 1) := by decide +kernel
theorem dX2_diffAt_11 : decode cX2_diffAt 11 = .ok (.ifCond .lt 9, 3) := by decide +kernel
theorem dX2_diffAt_14 : decode cX2_diffAt 14 = .ok (.iload_n 2, 1) := by decide +kernel
theorem dX2_diffAt_15 : decode cX2_diffAt 15 = .ok (.bipush 50, 2) := by decide +kernel
theorem dX2_diffAt_17 : decode cX2_diffAt 17 = .ok (.if_icmp .lt 5, 3) := by decide +kernel
theorem dX2_diffAt_20 : decode cX2_diffAt 20 = .ok (.iconst 0, 1) := by decide +kernel
theorem dX2_diffAt_21 : decode cX2_diffAt 21 = .ok (.ireturn, 1) := by decide +kernel
theorem dX2_diffAt_22 : decode cX2_diffAt 22 = .ok (.aload_n 0, 1) := by decide +kernel
theorem dX2_diffAt_23 : decode cX2_diffAt 23 = .ok (.getfield 9, 3) := by decide +kernel
theorem dX2_diffAt_26 : decode cX2_diffAt 26 = .ok (.iload_n 1, 1) := by decide +kernel
theorem dX2_diffAt_27 : decode cX2_diffAt 27 = .ok (.bipush 50, 2) := by decide +kernel
theorem dX2_diffAt_29 : decode cX2_diffAt 29 = .ok (.imul, 1) := by decide +kernel
theorem dX2_diffAt_30 : decode cX2_diffAt 30 = .ok (.iload_n 2, 1) := by decide +kernel
theorem dX2_diffAt_31 : decode cX2_diffAt 31 = .ok (.iadd, 1) := by decide +kernel
theorem dX2_diffAt_32 : decode cX2_diffAt 32 = .ok (.iaload, 1) := by decide +kernel
theorem dX2_diffAt_33 : decode cX2_diffAt 33 = .ok (.ireturn, 1) := by decide +kernel
theorem dX2_relAt_0 : decode cX2_relAt 0 = .ok (.iload_n 1, 1) := by decide +kernel
theorem dX2_relAt_1 : decode cX2_relAt 1 = .ok (.ifCond .lt 19, 3) := by decide +kernel
theorem dX2_relAt_4 : decode cX2_relAt 4 = .ok (.iload_n 1, 1) := by decide +kernel
theorem dX2_relAt_5 : decode cX2_relAt 5 = .ok (.bipush 100, 2) := by decide +kernel
theorem dX2_relAt_7 : decode cX2_relAt 7 = .ok (.if_icmp .ge 13, 3) := by decide +kernel
theorem dX2_relAt_10 : decode cX2_relAt 10 = .ok (.iload_n 2, 1) := by decide +kernel
theorem dX2_relAt_11 : decode cX2_relAt 11 = .ok (.ifCond .lt 9, 3) := by decide +kernel
theorem dX2_relAt_14 : decode cX2_relAt 14 = .ok (.iload_n 2, 1) := by decide +kernel
theorem dX2_relAt_15 : decode cX2_relAt 15 = .ok (.bipush 50, 2) := by decide +kernel
theorem dX2_relAt_17 : decode cX2_relAt 17 = .ok (.if_icmp .lt 5, 3) := by decide +kernel
theorem dX2_relAt_20 : decode cX2_relAt 20 = .ok (.iconst 0, 1) := by decide +kernel
theorem dX2_relAt_21 : decode cX2_relAt 21 = .ok (.ireturn, 1) := by decide +kernel
theorem dX2_relAt_22 : decode cX2_relAt 22 = .ok (.aload_n 0, 1) := by decide +kernel
theorem dX2_relAt_23 : decode cX2_relAt 23 = .ok (.getfield 15, 3) := by decide +kernel
theorem dX2_relAt_26 : decode cX2_relAt 26 = .ok (.iload_n 1, 1) := by decide +kernel
theorem dX2_relAt_27 : decode cX2_relAt 27 = .ok (.bipush 50, 2) := by decide +kernel
theorem dX2_relAt_29 : decode cX2_relAt 29 = .ok (.imul, 1) := by decide +kernel
theorem dX2_relAt_30 : decode cX2_relAt 30 = .ok (.iload_n 2, 1) := by decide +kernel
theorem dX2_relAt_31 : decode cX2_relAt 31 = .ok (.iadd, 1) := by decide +kernel
theorem dX2_relAt_32 : decode cX2_relAt 32 = .ok (.iaload, 1) := by decide +kernel
theorem dX2_relAt_33 : decode cX2_relAt 33 = .ok (.ireturn, 1) := by decide +kernel
theorem dX2_loudAt_0 : decode cX2_loudAt 0 = .ok (.iload_n 1, 1) := by decide +kernel
theorem dX2_loudAt_1 : decode cX2_loudAt 1 = .ok (.ifCond .lt 9, 3) := by decide +kernel
theorem dX2_loudAt_4 : decode cX2_loudAt 4 = .ok (.iload_n 1, 1) := by decide +kernel
theorem dX2_loudAt_5 : decode cX2_loudAt 5 = .ok (.bipush 100, 2) := by decide +kernel
theorem dX2_loudAt_7 : decode cX2_loudAt 7 = .ok (.if_icmp .lt 7, 3) := by decide +kernel
theorem dX2_loudAt_10 : decode cX2_loudAt 10 = .ok (.iconst 0, 1) := by decide +kernel
theorem dX2_loudAt_11 : decode cX2_loudAt 11 = .ok (.goto 9, 3) := by decide +kernel
theorem dX2_loudAt_14 : decode cX2_loudAt 14 = .ok (.aload_n 0, 1) := by decide +kernel
theorem dX2_loudAt_15 : decode cX2_loudAt 15 = .ok (.getfield 18, 3) := by decide +kernel
theorem dX2_loudAt_18 : decode cX2_loudAt 18 = .ok (.iload_n 1, 1) := by decide +kernel
theorem dX2_loudAt_19 : decode cX2_loudAt 19 = .ok (.iaload, 1) := by decide +kernel
theorem dX2_loudAt_20 : decode cX2_loudAt 20 = .ok (.ireturn, 1) := by decide +kernel
theorem dX2_find_0 : decode cX2_find 0 = .ok (.aload_n 0, 1) := by decide +kernel
theorem dX2_find_1 : decode cX2_find 1 = .ok (.invokevirtual 57, 3) := by decide +kernel
theorem dX2_find_4 : decode cX2_find 4 = .ok (.istore_n 1, 1) := by decide +kernel
theorem dX2_find_5 : decode cX2_find 5 = .ok (.iconst 0, 1) := by decide +kernel
theorem dX2_find_6 : decode cX2_find 6 = .ok (.istore_n 2, 1) := by decide +kernel
theorem dX2_find_7 : decode cX2_find 7 = .ok (.iload_n 2, 1) := by decide +kernel
theorem dX2_find_8 : decode cX2_find 8 = .ok (.iload_n 1, 1) := by decide +kernel
theorem dX2_find_9 : decode cX2_find 9 = .ok (.if_icmp .ge 14, 3) := by decide +kernel
theorem dX2_find_12 : decode cX2_find 12 = .ok (.aload_n 0, 1) := by decide +kernel
theorem dX2_find_13 : decode cX2_find 13 = .ok (.iload_n 2, 1) := by decide +kernel
theorem dX2_find_14 : decode cX2_find 14 = .ok (.invokevirtual 58, 3) := by decide +kernel
theorem dX2_find_17 : decode cX2_find 17 = .ok (.iinc 2 1, 3) := by decide +kernel
theorem dX2_find_20 : decode cX2_find 20 = .ok (.goto (-13), 3) := by decide +kernel
theorem dX2_find_23 : decode cX2_find 23 = .ok (.return_, 1) := by decide +kernel
theorem dX2_measure_0 : decode cX2_measure 0 = .ok (.iload_n 1, 1) := by decide +kernel
theorem dX2_measure_1 : decode cX2_measure 1 = .ok (.ifCond .lt 18, 3) := by decide +kernel
theorem dX2_measure_4 : decode cX2_measure 4 = .ok (.iload_n 1, 1) := by decide +kernel
theorem dX2_measure_5 : decode cX2_measure 5 = .ok (.bipush 100, 2) := by decide +kernel
theorem dX2_measure_7 : decode cX2_measure 7 = .ok (.if_icmp .ge 12, 3) := by decide +kernel
theorem dX2_measure_10 : decode cX2_measure 10 = .ok (.aload_n 0, 1) := by decide +kernel
theorem dX2_measure_11 : decode cX2_measure 11 = .ok (.getfield 21, 3) := by decide +kernel
theorem dX2_measure_14 : decode cX2_measure 14 = .ok (.iload_n 1, 1) := by decide +kernel
theorem dX2_measure_15 : decode cX2_measure 15 = .ok (.baload, 1) := by decide +kernel
theorem dX2_measure_16 : decode cX2_measure 16 = .ok (.ifCond .eq 4, 3) := by decide +kernel
theorem dX2_measure_19 : decode cX2_measure 19 = .ok (.return_, 1) := by decide +kernel
theorem dX2_measure_20 : decode cX2_measure 20 = .ok (.iload_n 1, 1) := by decide +kernel
theorem dX2_measure_21 : decode cX2_measure 21 = .ok (.aload_n 0, 1) := by decide +kernel
theorem dX2_measure_22 : decode cX2_measure 22 = .ok (.getfield 29, 3) := by decide +kernel
theorem dX2_measure_25 : decode cX2_measure 25 = .ok (.iconst 2, 1) := by decide +kernel
theorem dX2_measure_26 : decode cX2_measure 26 = .ok (.invokevirtual 44, 3) := by decide +kernel
theorem dX2_measure_29 : decode cX2_measure 29 = .ok (.imul, 1) := by decide +kernel
theorem dX2_measure_30 : decode cX2_measure 30 = .ok (.istore_n 2, 1) := by decide +kernel
theorem dX2_measure_31 : decode cX2_measure 31 = .ok (.aload_n 0, 1) := by decide +kernel
theorem dX2_measure_32 : decode cX2_measure 32 = .ok (.getfield 29, 3) := by decide +kernel
theorem dX2_measure_35 : decode cX2_measure 35 = .ok (.iconst 3, 1) := by decide +kernel
theorem dX2_measure_36 : decode cX2_measure 36 = .ok (.invokevirtual 44, 3) := by decide +kernel
theorem dX2_measure_39 : decode cX2_measure 39 = .ok (.istore_n 3, 1) := by decide +kernel
theorem dX2_measure_40 : decode cX2_measure 40 = .ok (.bipush 50, 2) := by decide +kernel
theorem dX2_measure_42 : decode cX2_measure 42 = .ok (.aload_n 0, 1) := by decide +kernel
theorem dX2_measure_43 : decode cX2_measure 43 = .ok (.getfield 29, 3) := by decide +kernel
theorem dX2_measure_46 : decode cX2_measure 46 = .ok (.iconst 5, 1) := by decide +kernel
theorem dX2_measure_47 : decode cX2_measure 47 = .ok (.invokevirtual 44, 3) := by decide +kernel
theorem dX2_measure_50 : decode cX2_measure 50 = .ok (.iconst 2, 1) := by decide +kernel
theorem dX2_measure_51 : decode cX2_measure 51 = .ok (.iadd, 1) := by decide +kernel
theorem dX2_measure_52 : decode cX2_measure 52 = .ok (.invokestatic 52, 3) := by decide +kernel
theorem dX2_measure_55 : decode cX2_measure 55 = .ok (.istore 4, 2) := by decide +kernel
theorem dX2_measure_57 : decode cX2_measure 57 = .ok (.iconst 0, 1) := by decide +kernel
theorem dX2_measure_58 : decode cX2_measure 58 = .ok (.istore 5, 2) := by decide +kernel
theorem dX2_measure_60 : decode cX2_measure 60 = .ok (.iconst 0, 1) := by decide +kernel
theorem dX2_measure_61 : decode cX2_measure 61 = .ok (.istore 6, 2) := by decide +kernel
theorem dX2_measure_63 : decode cX2_measure 63 = .ok (.iload 6, 2) := by decide +kernel
theorem dX2_measure_65 : decode cX2_measure 65 = .ok (.iload 4, 2) := by decide +kernel
theorem dX2_measure_67 : decode cX2_measure 67 = .ok (.if_icmp .ge 80, 3) := by decide +kernel
theorem dX2_measure_70 : decode cX2_measure 70 = .ok (.aload_n 0, 1) := by decide +kernel
theorem dX2_measure_71 : decode cX2_measure 71 = .ok (.getfield 25, 3) := by decide +kernel
theorem dX2_measure_74 : decode cX2_measure 74 = .ok (.iload_n 2, 1) := by decide +kernel
theorem dX2_measure_75 : decode cX2_measure 75 = .ok (.iload_n 3, 1) := by decide +kernel
theorem dX2_measure_76 : decode cX2_measure 76 = .ok (.iload 6, 2) := by decide +kernel
theorem dX2_measure_78 : decode cX2_measure 78 = .ok (.invokevirtual 62, 3) := by decide +kernel
theorem dX2_measure_81 : decode cX2_measure 81 = .ok (.istore 7, 2) := by decide +kernel
theorem dX2_measure_83 : decode cX2_measure 83 = .ok (.iload 5, 2) := by decide +kernel
theorem dX2_measure_85 : decode cX2_measure 85 = .ok (.iload 7, 2) := by decide +kernel
theorem dX2_measure_87 : decode cX2_measure 87 = .ok (.iadd, 1) := by decide +kernel
theorem dX2_measure_88 : decode cX2_measure 88 = .ok (.istore 5, 2) := by decide +kernel
theorem dX2_measure_90 : decode cX2_measure 90 = .ok (.aload_n 0, 1) := by decide +kernel
theorem dX2_measure_91 : decode cX2_measure 91 = .ok (.getfield 9, 3) := by decide +kernel
theorem dX2_measure_94 : decode cX2_measure 94 = .ok (.iload_n 1, 1) := by decide +kernel
theorem dX2_measure_95 : decode cX2_measure 95 = .ok (.bipush 50, 2) := by decide +kernel
theorem dX2_measure_97 : decode cX2_measure 97 = .ok (.imul, 1) := by decide +kernel
theorem dX2_measure_98 : decode cX2_measure 98 = .ok (.iload 6, 2) := by decide +kernel
theorem dX2_measure_100 : decode cX2_measure 100 = .ok (.iadd, 1) := by decide +kernel
theorem dX2_measure_101 : decode cX2_measure 101 = .ok (.iload 7, 2) := by decide +kernel
theorem dX2_measure_103 : decode cX2_measure 103 = .ok (.iastore, 1) := by decide +kernel
theorem dX2_measure_104 : decode cX2_measure 104 = .ok (.aload_n 0, 1) := by decide +kernel
theorem dX2_measure_105 : decode cX2_measure 105 = .ok (.getfield 15, 3) := by decide +kernel
theorem dX2_measure_108 : decode cX2_measure 108 = .ok (.iload_n 1, 1) := by decide +kernel
theorem dX2_measure_109 : decode cX2_measure 109 = .ok (.bipush 50, 2) := by decide +kernel
theorem dX2_measure_111 : decode cX2_measure 111 = .ok (.imul, 1) := by decide +kernel
theorem dX2_measure_112 : decode cX2_measure 112 = .ok (.iload 6, 2) := by decide +kernel
theorem dX2_measure_114 : decode cX2_measure 114 = .ok (.iadd, 1) := by decide +kernel
theorem dX2_measure_115 : decode cX2_measure 115 = .ok (.iload 5, 2) := by decide +kernel
theorem dX2_measure_117 : decode cX2_measure 117 = .ok (.ifCond .ne 9, 3) := by decide +kernel
theorem dX2_measure_120 : decode cX2_measure 120 = .ok (.sipush 1000, 3) := by decide +kernel
theorem dX2_measure_123 : decode cX2_measure 123 = .ok (.goto 17, 3) := by decide +kernel
theorem dX2_measure_126 : decode cX2_measure 126 = .ok (.sipush 1000, 3) := by decide +kernel
theorem dX2_measure_129 : decode cX2_measure 129 = .ok (.iload 6, 2) := by decide +kernel
theorem dX2_measure_131 : decode cX2_measure 131 = .ok (.imul, 1) := by decide +kernel
theorem dX2_measure_132 : decode cX2_measure 132 = .ok (.iload 7, 2) := by decide +kernel
theorem dX2_measure_134 : decode cX2_measure 134 = .ok (.imul, 1) := by decide +kernel
theorem dX2_measure_135 : decode cX2_measure 135 = .ok (.iload 5, 2) := by decide +kernel
theorem dX2_measure_137 : decode cX2_measure 137 = .ok (.invokestatic 48, 3) := by decide +kernel
theorem dX2_measure_140 : decode cX2_measure 140 = .ok (.iastore, 1) := by decide +kernel
theorem dX2_measure_141 : decode cX2_measure 141 = .ok (.iinc 6 1, 3) := by decide +kernel
theorem dX2_measure_144 : decode cX2_measure 144 = .ok (.goto (-81), 3) := by decide +kernel
theorem dX2_measure_147 : decode cX2_measure 147 = .ok (.aload_n 0, 1) := by decide +kernel
theorem dX2_measure_148 : decode cX2_measure 148 = .ok (.getfield 18, 3) := by decide +kernel
theorem dX2_measure_151 : decode cX2_measure 151 = .ok (.iload_n 1, 1) := by decide +kernel
theorem dX2_measure_152 : decode cX2_measure 152 = .ok (.aload_n 0, 1) := by decide +kernel
theorem dX2_measure_153 : decode cX2_measure 153 = .ok (.getfield 25, 3) := by decide +kernel
theorem dX2_measure_156 : decode cX2_measure 156 = .ok (.iload_n 2, 1) := by decide +kernel
theorem dX2_measure_157 : decode cX2_measure 157 = .ok (.iload_n 3, 1) := by decide +kernel
theorem dX2_measure_158 : decode cX2_measure 158 = .ok (.invokevirtual 66, 3) := by decide +kernel
theorem dX2_measure_161 : decode cX2_measure 161 = .ok (.iastore, 1) := by decide +kernel
theorem dX2_measure_162 : decode cX2_measure 162 = .ok (.aload_n 0, 1) := by decide +kernel
theorem dX2_measure_163 : decode cX2_measure 163 = .ok (.getfield 21, 3) := by decide +kernel
theorem dX2_measure_166 : decode cX2_measure 166 = .ok (.iload_n 1, 1) := by decide +kernel
theorem dX2_measure_167 : decode cX2_measure 167 = .ok (.iconst 1, 1) := by decide +kernel
theorem dX2_measure_168 : decode cX2_measure 168 = .ok (.bastore, 1) := by decide +kernel
theorem dX2_measure_169 : decode cX2_measure 169 = .ok (.return_, 1) := by decide +kernel
theorem dX2_forgetAll_0 : decode cX2_forgetAll 0 = .ok (.iconst 0, 1) := by decide +kernel
theorem dX2_forgetAll_1 : decode cX2_forgetAll 1 = .ok (.istore_n 1, 1) := by decide +kernel
theorem dX2_forgetAll_2 : decode cX2_forgetAll 2 = .ok (.iload_n 1, 1) := by decide +kernel
theorem dX2_forgetAll_3 : decode cX2_forgetAll 3 = .ok (.bipush 100, 2) := by decide +kernel
theorem dX2_forgetAll_5 : decode cX2_forgetAll 5 = .ok (.if_icmp .ge 16, 3) := by decide +kernel
theorem dX2_forgetAll_8 : decode cX2_forgetAll 8 = .ok (.aload_n 0, 1) := by decide +kernel
theorem dX2_forgetAll_9 : decode cX2_forgetAll 9 = .ok (.getfield 21, 3) := by decide +kernel
theorem dX2_forgetAll_12 : decode cX2_forgetAll 12 = .ok (.iload_n 1, 1) := by decide +kernel
theorem dX2_forgetAll_13 : decode cX2_forgetAll 13 = .ok (.iconst 0, 1) := by decide +kernel
theorem dX2_forgetAll_14 : decode cX2_forgetAll 14 = .ok (.bastore, 1) := by decide +kernel
theorem dX2_forgetAll_15 : decode cX2_forgetAll 15 = .ok (.iinc 1 1, 3) := by decide +kernel
theorem dX2_forgetAll_18 : decode cX2_forgetAll 18 = .ok (.goto (-16), 3) := by decide +kernel
theorem dX2_forgetAll_21 : decode cX2_forgetAll 21 = .ok (.return_, 1) := by decide +kernel
theorem dX2_forgetThose_0 : decode cX2_forgetThose 0 = .ok (.iconst 0, 1) := by decide +kernel
theorem dX2_forgetThose_1 : decode cX2_forgetThose 1 = .ok (.istore_n 3, 1) := by decide +kernel
theorem dX2_forgetThose_2 : decode cX2_forgetThose 2 = .ok (.iconst 0, 1) := by decide +kernel
theorem dX2_forgetThose_3 : decode cX2_forgetThose 3 = .ok (.istore 4, 2) := by decide +kernel
theorem dX2_forgetThose_5 : decode cX2_forgetThose 5 = .ok (.iload 4, 2) := by decide +kernel
theorem dX2_forgetThose_7 : decode cX2_forgetThose 7 = .ok (.bipush 100, 2) := by decide +kernel
theorem dX2_forgetThose_9 : decode cX2_forgetThose 9 = .ok (.if_icmp .ge 43, 3) := by decide +kernel
theorem dX2_forgetThose_12 : decode cX2_forgetThose 12 = .ok (.iload_n 3, 1) := by decide +kernel
theorem dX2_forgetThose_13 : decode cX2_forgetThose 13 = .ok (.iload_n 2, 1) := by decide +kernel
theorem dX2_forgetThose_14 : decode cX2_forgetThose 14 = .ok (.if_icmp .ge 21, 3) := by decide +kernel
theorem dX2_forgetThose_17 : decode cX2_forgetThose 17 = .ok (.iload_n 3, 1) := by decide +kernel
theorem dX2_forgetThose_18 : decode cX2_forgetThose 18 = .ok (.aload_n 0, 1) := by decide +kernel
theorem dX2_forgetThose_19 : decode cX2_forgetThose 19 = .ok (.invokevirtual 39, 3) := by decide +kernel
theorem dX2_forgetThose_22 : decode cX2_forgetThose 22 = .ok (.iadd, 1) := by decide +kernel
theorem dX2_forgetThose_23 : decode cX2_forgetThose 23 = .ok (.iload_n 1, 1) := by decide +kernel
theorem dX2_forgetThose_24 : decode cX2_forgetThose 24 = .ok (.if_icmp .le 11, 3) := by decide +kernel
theorem dX2_forgetThose_27 : decode cX2_forgetThose 27 = .ok (.aload_n 0, 1) := by decide +kernel
theorem dX2_forgetThose_28 : decode cX2_forgetThose 28 = .ok (.getfield 21, 3) := by decide +kernel
theorem dX2_forgetThose_31 : decode cX2_forgetThose 31 = .ok (.iload 4, 2) := by decide +kernel
theorem dX2_forgetThose_33 : decode cX2_forgetThose 33 = .ok (.iconst 0, 1) := by decide +kernel
theorem dX2_forgetThose_34 : decode cX2_forgetThose 34 = .ok (.bastore, 1) := by decide +kernel
theorem dX2_forgetThose_35 : decode cX2_forgetThose 35 = .ok (.iload_n 3, 1) := by decide +kernel
theorem dX2_forgetThose_36 : decode cX2_forgetThose 36 = .ok (.aload_n 0, 1) := by decide +kernel
theorem dX2_forgetThose_37 : decode cX2_forgetThose 37 = .ok (.getfield 29, 3) := by decide +kernel
theorem dX2_forgetThose_40 : decode cX2_forgetThose 40 = .ok (.iconst 2, 1) := by decide +kernel
theorem dX2_forgetThose_41 : decode cX2_forgetThose 41 = .ok (.invokevirtual 44, 3) := by decide +kernel
theorem dX2_forgetThose_44 : decode cX2_forgetThose 44 = .ok (.iadd, 1) := by decide +kernel
theorem dX2_forgetThose_45 : decode cX2_forgetThose 45 = .ok (.istore_n 3, 1) := by decide +kernel
theorem dX2_forgetThose_46 : decode cX2_forgetThose 46 = .ok (.iinc 4 1, 3) := by decide +kernel
theorem dX2_forgetThose_49 : decode cX2_forgetThose 49 = .ok (.goto (-44), 3) := by decide +kernel
theorem dX2_forgetThose_52 : decode cX2_forgetThose 52 = .ok (.return_, 1) := by decide +kernel
theorem dX2_reach_0 : decode cX2_reach 0 = .ok (.aload_n 0, 1) := by decide +kernel
theorem dX2_reach_1 : decode cX2_reach 1 = .ok (.getfield 29, 3) := by decide +kernel
theorem dX2_reach_4 : decode cX2_reach 4 = .ok (.iconst 3, 1) := by decide +kernel
theorem dX2_reach_5 : decode cX2_reach 5 = .ok (.invokevirtual 44, 3) := by decide +kernel
theorem dX2_reach_8 : decode cX2_reach 8 = .ok (.aload_n 0, 1) := by decide +kernel
theorem dX2_reach_9 : decode cX2_reach 9 = .ok (.getfield 29, 3) := by decide +kernel
theorem dX2_reach_12 : decode cX2_reach 12 = .ok (.iconst 5, 1) := by decide +kernel
theorem dX2_reach_13 : decode cX2_reach 13 = .ok (.invokevirtual 44, 3) := by decide +kernel
theorem dX2_reach_16 : decode cX2_reach 16 = .ok (.iadd, 1) := by decide +kernel
theorem dX2_reach_17 : decode cX2_reach 17 = .ok (.iconst 1, 1) := by decide +kernel
theorem dX2_reach_18 : decode cX2_reach 18 = .ok (.iadd, 1) := by decide +kernel
theorem dX2_reach_19 : decode cX2_reach 19 = .ok (.ireturn, 1) := by decide +kernel
theorem dX3_init_0 : decode cX3_init 0 = .ok (.aload_n 0, 1) := by decide +kernel
theorem dX3_init_1 : decode cX3_init 1 = .ok (.invokespecial 3, 3) := by decide +kernel
theorem dX3_init_4 : decode cX3_init 4 = .ok (.aload_n 0, 1) := by decide +kernel
theorem dX3_init_5 : decode cX3_init 5 = .ok (.sipush 800, 3) := by decide +kernel
theorem dX3_init_8 : decode cX3_init 8 = .ok (.newarray .int, 2) := by decide +kernel
theorem dX3_init_10 : decode cX3_init 10 = .ok (.putfield 9, 3) := by decide +kernel
theorem dX3_init_13 : decode cX3_init 13 = .ok (.aload_n 0, 1) := by decide +kernel
theorem dX3_init_14 : decode cX3_init 14 = .ok (.sipush 800, 3) := by decide +kernel
theorem dX3_init_17 : decode cX3_init 17 = .ok (.newarray .int, 2) := by decide +kernel
theorem dX3_init_19 : decode cX3_init 19 = .ok (.putfield 15, 3) := by decide +kernel
theorem dX3_init_22 : decode cX3_init 22 = .ok (.aload_n 0, 1) := by decide +kernel
theorem dX3_init_23 : decode cX3_init 23 = .ok (.sipush 800, 3) := by decide +kernel
theorem dX3_init_26 : decode cX3_init 26 = .ok (.newarray .int, 2) := by decide +kernel
theorem dX3_init_28 : decode cX3_init 28 = .ok (.putfield 18, 3) := by decide +kernel
theorem dX3_init_31 : decode cX3_init 31 = .ok (.aload_n 0, 1) := by decide +kernel
theorem dX3_init_32 : decode cX3_init 32 = .ok (.sipush 800, 3) := by decide +kernel
theorem dX3_init_35 : decode cX3_init 35 = .ok (.newarray .int, 2) := by decide +kernel
theorem dX3_init_37 : decode cX3_init 37 = .ok (.putfield 21, 3) := by decide +kernel
theorem dX3_init_40 : decode cX3_init 40 = .ok (.aload_n 0, 1) := by decide +kernel
theorem dX3_init_41 : decode cX3_init 41 = .ok (.bipush 101, 2) := by decide +kernel
theorem dX3_init_43 : decode cX3_init 43 = .ok (.newarray .int, 2) := by decide +kernel
theorem dX3_init_45 : decode cX3_init 45 = .ok (.putfield 24, 3) := by decide +kernel
theorem dX3_init_48 : decode cX3_init 48 = .ok (.aload_n 0, 1) := by decide +kernel
theorem dX3_init_49 : decode cX3_init 49 = .ok (.bipush 100, 2) := by decide +kernel
theorem dX3_init_51 : decode cX3_init 51 = .ok (.newarray .int, 2) := by decide +kernel
theorem dX3_init_53 : decode cX3_init 53 = .ok (.putfield 27, 3) := by decide +kernel
theorem dX3_init_56 : decode cX3_init 56 = .ok (.aload_n 0, 1) := by decide +kernel
theorem dX3_init_57 : decode cX3_init 57 = .ok (.aload_n 1, 1) := by decide +kernel
theorem dX3_init_58 : decode cX3_init 58 = .ok (.putfield 30, 3) := by decide +kernel
theorem dX3_init_61 : decode cX3_init 61 = .ok (.aload_n 0, 1) := by decide +kernel
theorem dX3_init_62 : decode cX3_init 62 = .ok (.aload_n 2, 1) := by decide +kernel
theorem dX3_init_63 : decode cX3_init 63 = .ok (.putfield 34, 3) := by decide +kernel
theorem dX3_init_66 : decode cX3_init 66 = .ok (.aload_n 0, 1) := by decide +kernel
theorem dX3_init_67 : decode cX3_init 67 = .ok (.aload_n 3, 1) := by decide +kernel
theorem dX3_init_68 : decode cX3_init 68 = .ok (.putfield 38, 3) := by decide +kernel
theorem dX3_init_71 : decode cX3_init 71 = .ok (.return_, 1) := by decide +kernel
theorem dX3_find_0 : decode cX3_find 0 = .ok (.aload_n 0, 1) := by decide +kernel
theorem dX3_find_1 : decode cX3_find 1 = .ok (.iconst 0, 1) := by decide +kernel
theorem dX3_find_2 : decode cX3_find 2 = .ok (.putfield 42, 3) := by decide +kernel
theorem dX3_find_5 : decode cX3_find 5 = .ok (.iconst 0, 1) := by decide +kernel
theorem dX3_find_6 : decode cX3_find 6 = .ok (.istore_n 1, 1) := by decide +kernel
theorem dX3_find_7 : decode cX3_find 7 = .ok (.iload_n 1, 1) := by decide +kernel
theorem dX3_find_8 : decode cX3_find 8 = .ok (.aload_n 0, 1) := by decide +kernel
theorem dX3_find_9 : decode cX3_find 9 = .ok (.getfield 30, 3) := by decide +kernel
theorem dX3_find_12 : decode cX3_find 12 = .ok (.invokevirtual 46, 3) := by decide +kernel
theorem dX3_find_15 : decode cX3_find 15 = .ok (.if_icmp .ge 78, 3) := by decide +kernel
theorem dX3_find_18 : decode cX3_find 18 = .ok (.aload_n 0, 1) := by decide +kernel
theorem dX3_find_19 : decode cX3_find 19 = .ok (.getfield 24, 3) := by decide +kernel
theorem dX3_find_22 : decode cX3_find 22 = .ok (.iload_n 1, 1) := by decide +kernel
theorem dX3_find_23 : decode cX3_find 23 = .ok (.aload_n 0, 1) := by decide +kernel
theorem dX3_find_24 : decode cX3_find 24 = .ok (.getfield 42, 3) := by decide +kernel
theorem dX3_find_27 : decode cX3_find 27 = .ok (.iastore, 1) := by decide +kernel
theorem dX3_find_28 : decode cX3_find 28 = .ok (.aload_n 0, 1) := by decide +kernel
theorem dX3_find_29 : decode cX3_find 29 = .ok (.getfield 27, 3) := by decide +kernel
theorem dX3_find_32 : decode cX3_find 32 = .ok (.iload_n 1, 1) := by decide +kernel
theorem dX3_find_33 : decode cX3_find 33 = .ok (.iconst 0, 1) := by decide +kernel
theorem dX3_find_34 : decode cX3_find 34 = .ok (.iastore, 1) := by decide +kernel
theorem dX3_find_35 : decode cX3_find 35 = .ok (.aload_n 0, 1) := by decide +kernel
theorem dX3_find_36 : decode cX3_find 36 = .ok (.getfield 30, 3) := by decide +kernel
theorem dX3_find_39 : decode cX3_find 39 = .ok (.iload_n 1, 1) := by decide +kernel
theorem dX3_find_40 : decode cX3_find 40 = .ok (.invokevirtual 51, 3) := by decide +kernel
theorem dX3_find_43 : decode cX3_find 43 = .ok (.ifCond .eq 44, 3) := by decide +kernel
theorem dX3_find_46 : decode cX3_find 46 = .ok (.aload_n 0, 1) := by decide +kernel
theorem dX3_find_47 : decode cX3_find 47 = .ok (.aload_n 0, 1) := by decide +kernel
theorem dX3_find_48 : decode cX3_find 48 = .ok (.getfield 30, 3) := by decide +kernel
theorem dX3_find_51 : decode cX3_find 51 = .ok (.iload_n 1, 1) := by decide +kernel
theorem dX3_find_52 : decode cX3_find 52 = .ok (.invokevirtual 55, 3) := by decide +kernel
theorem dX3_find_55 : decode cX3_find 55 = .ok (.aload_n 0, 1) := by decide +kernel
theorem dX3_find_56 : decode cX3_find 56 = .ok (.getfield 30, 3) := by decide +kernel
theorem dX3_find_59 : decode cX3_find 59 = .ok (.iload_n 1, 1) := by decide +kernel
theorem dX3_find_60 : decode cX3_find 60 = .ok (.invokevirtual 59, 3) := by decide +kernel
theorem dX3_find_63 : decode cX3_find 63 = .ok (.invokevirtual 62, 3) := by decide +kernel
theorem dX3_find_66 : decode cX3_find 66 = .ok (.aload_n 0, 1) := by decide +kernel
theorem dX3_find_67 : decode cX3_find 67 = .ok (.iload_n 1, 1) := by decide +kernel
theorem dX3_find_68 : decode cX3_find 68 = .ok (.aload_n 0, 1) := by decide +kernel
theorem dX3_find_69 : decode cX3_find 69 = .ok (.getfield 30, 3) := by decide +kernel
theorem dX3_find_72 : decode cX3_find 72 = .ok (.iload_n 1, 1) := by decide +kernel
theorem dX3_find_73 : decode cX3_find 73 = .ok (.invokevirtual 55, 3) := by decide +kernel
theorem dX3_find_76 : decode cX3_find 76 = .ok (.aload_n 0, 1) := by decide +kernel
theorem dX3_find_77 : decode cX3_find 77 = .ok (.getfield 30, 3) := by decide +kernel
theorem dX3_find_80 : decode cX3_find 80 = .ok (.iload_n 1, 1) := by decide +kernel
theorem dX3_find_81 : decode cX3_find 81 = .ok (.invokevirtual 59, 3) := by decide +kernel
theorem dX3_find_84 : decode cX3_find 84 = .ok (.invokevirtual 66, 3) := by decide +kernel
theorem dX3_find_87 : decode cX3_find 87 = .ok (.iinc 1 1, 3) := by decide +kernel
theorem dX3_find_90 : decode cX3_find 90 = .ok (.goto (-83), 3) := by decide +kernel
theorem dX3_find_93 : decode cX3_find 93 = .ok (.aload_n 0, 1) := by decide +kernel
theorem dX3_find_94 : decode cX3_find 94 = .ok (.getfield 24, 3) := by decide +kernel
theorem dX3_find_97 : decode cX3_find 97 = .ok (.aload_n 0, 1) := by decide +kernel
theorem dX3_find_98 : decode cX3_find 98 = .ok (.getfield 30, 3) := by decide +kernel
theorem dX3_find_101 : decode cX3_find 101 = .ok (.invokevirtual 46, 3) := by decide +kernel
theorem dX3_find_104 : decode cX3_find 104 = .ok (.aload_n 0, 1) := by decide +kernel
theorem dX3_find_105 : decode cX3_find 105 = .ok (.getfield 42, 3) := by decide +kernel
theorem dX3_find_108 : decode cX3_find 108 = .ok (.iastore, 1) := by decide +kernel
theorem dX3_find_109 : decode cX3_find 109 = .ok (.return_, 1) := by decide +kernel
theorem dX3_size_0 : decode cX3_size 0 = .ok (.aload_n 0, 1) := by decide +kernel
theorem dX3_size_1 : decode cX3_size 1 = .ok (.getfield 42, 3) := by decide +kernel
theorem dX3_size_4 : decode cX3_size 4 = .ok (.ireturn, 1) := by decide +kernel
theorem dX3_has_0 : decode cX3_has 0 = .ok (.iload_n 1, 1) := by decide +kernel
theorem dX3_has_1 : decode cX3_has 1 = .ok (.ifCond .lt 15, 3) := by decide +kernel
theorem dX3_has_4 : decode cX3_has 4 = .ok (.iload_n 1, 1) := by decide +kernel
theorem dX3_has_5 : decode cX3_has 5 = .ok (.aload_n 0, 1) := by decide +kernel
theorem dX3_has_6 : decode cX3_has 6 = .ok (.getfield 42, 3) := by decide +kernel
theorem dX3_has_9 : decode cX3_has 9 = .ok (.if_icmp .ge 7, 3) := by decide +kernel
theorem dX3_has_12 : decode cX3_has 12 = .ok (.iconst 1, 1) := by decide +kernel
theorem dX3_has_13 : decode cX3_has 13 = .ok (.goto 4, 3) := by decide +kernel
theorem dX3_has_16 : decode cX3_has 16 = .ok (.iconst 0, 1) := by decide +kernel
theorem dX3_has_17 : decode cX3_has 17 = .ok (.ireturn, 1) := by decide +kernel
theorem dX3_at_0 : decode cX3_at 0 = .ok (.aload_n 0, 1) := by decide +kernel
theorem dX3_at_1 : decode cX3_at 1 = .ok (.iload_n 1, 1) := by decide +kernel
theorem dX3_at_2 : decode cX3_at 2 = .ok (.invokevirtual 70, 3) := by decide +kernel
theorem dX3_at_5 : decode cX3_at 5 = .ok (.ifCond .eq 12, 3) := by decide +kernel
theorem dX3_at_8 : decode cX3_at 8 = .ok (.aload_n 0, 1) := by decide +kernel
theorem dX3_at_9 : decode cX3_at 9 = .ok (.getfield 18, 3) := by decide +kernel
theorem dX3_at_12 : decode cX3_at 12 = .ok (.iload_n 1, 1) := by decide +kernel
theorem dX3_at_13 : decode cX3_at 13 = .ok (.iaload, 1) := by decide +kernel
theorem dX3_at_14 : decode cX3_at 14 = .ok (.goto 4, 3) := by decide +kernel
theorem dX3_at_17 : decode cX3_at 17 = .ok (.iconst (-1), 1) := by decide +kernel
theorem dX3_at_18 : decode cX3_at 18 = .ok (.ireturn, 1) := by decide +kernel
theorem dX3_sizeIn_0 : decode cX3_sizeIn 0 = .ok (.aload_n 0, 1) := by decide +kernel
theorem dX3_sizeIn_1 : decode cX3_sizeIn 1 = .ok (.getfield 30, 3) := by decide +kernel
theorem dX3_sizeIn_4 : decode cX3_sizeIn 4 = .ok (.iload_n 1, 1) := by decide +kernel
theorem dX3_sizeIn_5 : decode cX3_sizeIn 5 = .ok (.invokevirtual 73, 3) := by decide +kernel
theorem dX3_sizeIn_8 : decode cX3_sizeIn 8 = .ok (.ifCond .eq 21, 3) := by decide +kernel
theorem dX3_sizeIn_11 : decode cX3_sizeIn 11 = .ok (.aload_n 0, 1) := by decide +kernel
theorem dX3_sizeIn_12 : decode cX3_sizeIn 12 = .ok (.getfield 24, 3) := by decide +kernel
theorem dX3_sizeIn_15 : decode cX3_sizeIn 15 = .ok (.iload_n 1, 1) := by decide +kernel
theorem dX3_sizeIn_16 : decode cX3_sizeIn 16 = .ok (.iconst 1, 1) := by decide +kernel
theorem dX3_sizeIn_17 : decode cX3_sizeIn 17 = .ok (.iadd, 1) := by decide +kernel
theorem dX3_sizeIn_18 : decode cX3_sizeIn 18 = .ok (.iaload, 1) := by decide +kernel
theorem dX3_sizeIn_19 : decode cX3_sizeIn 19 = .ok (.aload_n 0, 1) := by decide +kernel
theorem dX3_sizeIn_20 : decode cX3_sizeIn 20 = .ok (.getfield 24, 3) := by decide +kernel
theorem dX3_sizeIn_23 : decode cX3_sizeIn 23 = .ok (.iload_n 1, 1) := by decide +kernel
theorem dX3_sizeIn_24 : decode cX3_sizeIn 24 = .ok (.iaload, 1) := by decide +kernel
theorem dX3_sizeIn_25 : decode cX3_sizeIn 25 = .ok (.isub, 1) := by decide +kernel
theorem dX3_sizeIn_26 : decode cX3_sizeIn 26 = .ok (.goto 4, 3) := by decide +kernel
theorem dX3_sizeIn_29 : decode cX3_sizeIn 29 = .ok (.iconst 0, 1) := by decide +kernel
theorem dX3_sizeIn_30 : decode cX3_sizeIn 30 = .ok (.ireturn, 1) := by decide +kernel
theorem dX3_worthIn_0 : decode cX3_worthIn 0 = .ok (.aload_n 0, 1) := by decide +kernel
theorem dX3_worthIn_1 : decode cX3_worthIn 1 = .ok (.getfield 30, 3) := by decide +kernel
theorem dX3_worthIn_4 : decode cX3_worthIn 4 = .ok (.iload_n 1, 1) := by decide +kernel
theorem dX3_worthIn_5 : decode cX3_worthIn 5 = .ok (.invokevirtual 73, 3) := by decide +kernel
theorem dX3_worthIn_8 : decode cX3_worthIn 8 = .ok (.ifCond .eq 12, 3) := by decide +kernel
theorem dX3_worthIn_11 : decode cX3_worthIn 11 = .ok (.aload_n 0, 1) := by decide +kernel
theorem dX3_worthIn_12 : decode cX3_worthIn 12 = .ok (.getfield 27, 3) := by decide +kernel
theorem dX3_worthIn_15 : decode cX3_worthIn 15 = .ok (.iload_n 1, 1) := by decide +kernel
theorem dX3_worthIn_16 : decode cX3_worthIn 16 = .ok (.iaload, 1) := by decide +kernel
theorem dX3_worthIn_17 : decode cX3_worthIn 17 = .ok (.goto 4, 3) := by decide +kernel
theorem dX3_worthIn_20 : decode cX3_worthIn 20 = .ok (.iconst 0, 1) := by decide +kernel
theorem dX3_worthIn_21 : decode cX3_worthIn 21 = .ok (.ireturn, 1) := by decide +kernel
theorem dX3_nearest_0 : decode cX3_nearest 0 = .ok (.iconst (-1), 1) := by decide +kernel
theorem dX3_nearest_1 : decode cX3_nearest 1 = .ok (.istore 4, 2) := by decide +kernel
theorem dX3_nearest_3 : decode cX3_nearest 3 = .ok (.lconst 0, 1) := by decide +kernel
theorem dX3_nearest_4 : decode cX3_nearest 4 = .ok (.lstore 5, 2) := by decide +kernel
theorem dX3_nearest_6 : decode cX3_nearest 6 = .ok (.iload_n 2, 1) := by decide +kernel
theorem dX3_nearest_7 : decode cX3_nearest 7 = .ok (.istore 7, 2) := by decide +kernel
theorem dX3_nearest_9 : decode cX3_nearest 9 = .ok (.iload 7, 2) := by decide +kernel
theorem dX3_nearest_11 : decode cX3_nearest 11 = .ok (.iload_n 3, 1) := by decide +kernel
theorem dX3_nearest_12 : decode cX3_nearest 12 = .ok (.if_icmp .ge 46, 3) := by decide +kernel
theorem dX3_nearest_15 : decode cX3_nearest 15 = .ok (.aload_n 0, 1) := by decide +kernel
theorem dX3_nearest_16 : decode cX3_nearest 16 = .ok (.iload 7, 2) := by decide +kernel
theorem dX3_nearest_18 : decode cX3_nearest 18 = .ok (.invokevirtual 74, 3) := by decide +kernel
theorem dX3_nearest_21 : decode cX3_nearest 21 = .ok (.i2l, 1) := by decide +kernel
theorem dX3_nearest_22 : decode cX3_nearest 22 = .ok (.iload_n 1, 1) := by decide +kernel
theorem dX3_nearest_23 : decode cX3_nearest 23 = .ok (.i2l, 1) := by decide +kernel
theorem dX3_nearest_24 : decode cX3_nearest 24 = .ok (.lsub, 1) := by decide +kernel
theorem dX3_nearest_25 : decode cX3_nearest 25 = .ok (.invokestatic 77, 3) := by decide +kernel
theorem dX3_nearest_28 : decode cX3_nearest 28 = .ok (.lstore 8, 2) := by decide +kernel
theorem dX3_nearest_30 : decode cX3_nearest 30 = .ok (.iload 4, 2) := by decide +kernel
theorem dX3_nearest_32 : decode cX3_nearest 32 = .ok (.iconst (-1), 1) := by decide +kernel
theorem dX3_nearest_33 : decode cX3_nearest 33 = .ok (.if_icmp .eq 11, 3) := by decide +kernel
theorem dX3_nearest_36 : decode cX3_nearest 36 = .ok (.lload 8, 2) := by decide +kernel
theorem dX3_nearest_38 : decode cX3_nearest 38 = .ok (.lload 5, 2) := by decide +kernel
theorem dX3_nearest_40 : decode cX3_nearest 40 = .ok (.lcmp, 1) := by decide +kernel
theorem dX3_nearest_41 : decode cX3_nearest 41 = .ok (.ifCond .ge 11, 3) := by decide +kernel
theorem dX3_nearest_44 : decode cX3_nearest 44 = .ok (.iload 7, 2) := by decide +kernel
theorem dX3_nearest_46 : decode cX3_nearest 46 = .ok (.istore 4, 2) := by decide +kernel
theorem dX3_nearest_48 : decode cX3_nearest 48 = .ok (.lload 8, 2) := by decide +kernel
theorem dX3_nearest_50 : decode cX3_nearest 50 = .ok (.lstore 5, 2) := by decide +kernel
theorem dX3_nearest_52 : decode cX3_nearest 52 = .ok (.iinc 7 1, 3) := by decide +kernel
theorem dX3_nearest_55 : decode cX3_nearest 55 = .ok (.goto (-46), 3) := by decide +kernel
theorem dX3_nearest_58 : decode cX3_nearest 58 = .ok (.iload 4, 2) := by decide +kernel
theorem dX3_nearest_60 : decode cX3_nearest 60 = .ok (.ireturn, 1) := by decide +kernel
theorem dX3_gapBehind_0 : decode cX3_gapBehind 0 = .ok (.aload_n 0, 1) := by decide +kernel
theorem dX3_gapBehind_1 : decode cX3_gapBehind 1 = .ok (.iload_n 1, 1) := by decide +kernel
theorem dX3_gapBehind_2 : decode cX3_gapBehind 2 = .ok (.invokevirtual 70, 3) := by decide +kernel
theorem dX3_gapBehind_5 : decode cX3_gapBehind 5 = .ok (.ifCond .eq 48, 3) := by decide +kernel
theorem dX3_gapBehind_8 : decode cX3_gapBehind 8 = .ok (.aload_n 0, 1) := by decide +kernel
theorem dX3_gapBehind_9 : decode cX3_gapBehind 9 = .ok (.iload_n 1, 1) := by decide +kernel
theorem dX3_gapBehind_10 : decode cX3_gapBehind 10 = .ok (.iconst 1, 1) := by decide +kernel
theorem dX3_gapBehind_11 : decode cX3_gapBehind 11 = .ok (.iadd, 1) := by decide +kernel
theorem dX3_gapBehind_12 : decode cX3_gapBehind 12 = .ok (.invokevirtual 70, 3) := by decide +kernel
theorem dX3_gapBehind_15 : decode cX3_gapBehind 15 = .ok (.ifCond .eq 38, 3) := by decide +kernel
theorem dX3_gapBehind_18 : decode cX3_gapBehind 18 = .ok (.aload_n 0, 1) := by decide +kernel
theorem dX3_gapBehind_19 : decode cX3_gapBehind 19 = .ok (.getfield 21, 3) := by decide +kernel
theorem dX3_gapBehind_22 : decode cX3_gapBehind 22 = .ok (.iload_n 1, 1) := by decide +kernel
theorem dX3_gapBehind_23 : decode cX3_gapBehind 23 = .ok (.iaload, 1) := by decide +kernel
theorem dX3_gapBehind_24 : decode cX3_gapBehind 24 = .ok (.aload_n 0, 1) := by decide +kernel
theorem dX3_gapBehind_25 : decode cX3_gapBehind 25 = .ok (.getfield 21, 3) := by decide +kernel
theorem dX3_gapBehind_28 : decode cX3_gapBehind 28 = .ok (.iload_n 1, 1) := by decide +kernel
theorem dX3_gapBehind_29 : decode cX3_gapBehind 29 = .ok (.iconst 1, 1) := by decide +kernel
theorem dX3_gapBehind_30 : decode cX3_gapBehind 30 = .ok (.iadd, 1) := by decide +kernel
theorem dX3_gapBehind_31 : decode cX3_gapBehind 31 = .ok (.iaload, 1) := by decide +kernel
theorem dX3_gapBehind_32 : decode cX3_gapBehind 32 = .ok (.if_icmp .ne 21, 3) := by decide +kernel
theorem dX3_gapBehind_35 : decode cX3_gapBehind 35 = .ok (.aload_n 0, 1) := by decide +kernel
theorem dX3_gapBehind_36 : decode cX3_gapBehind 36 = .ok (.getfield 18, 3) := by decide +kernel
theorem dX3_gapBehind_39 : decode cX3_gapBehind 39 = .ok (.iload_n 1, 1) := by decide +kernel
theorem dX3_gapBehind_40 : decode cX3_gapBehind 40 = .ok (.iconst 1, 1) := by decide +kernel
theorem dX3_gapBehind_41 : decode cX3_gapBehind 41 = .ok (.iadd, 1) := by decide +kernel
theorem dX3_gapBehind_42 : decode cX3_gapBehind 42 = .ok (.iaload, 1) := by decide +kernel
theorem dX3_gapBehind_43 : decode cX3_gapBehind 43 = .ok (.aload_n 0, 1) := by decide +kernel
theorem dX3_gapBehind_44 : decode cX3_gapBehind 44 = .ok (.getfield 18, 3) := by decide +kernel
theorem dX3_gapBehind_47 : decode cX3_gapBehind 47 = .ok (.iload_n 1, 1) := by decide +kernel
theorem dX3_gapBehind_48 : decode cX3_gapBehind 48 = .ok (.iaload, 1) := by decide +kernel
theorem dX3_gapBehind_49 : decode cX3_gapBehind 49 = .ok (.isub, 1) := by decide +kernel
theorem dX3_gapBehind_50 : decode cX3_gapBehind 50 = .ok (.goto 4, 3) := by decide +kernel
theorem dX3_gapBehind_53 : decode cX3_gapBehind 53 = .ok (.iconst (-1), 1) := by decide +kernel
theorem dX3_gapBehind_54 : decode cX3_gapBehind 54 = .ok (.ireturn, 1) := by decide +kernel
theorem dX3_gapCount_0 : decode cX3_gapCount 0 = .ok (.iconst 0, 1) := by decide +kernel
theorem dX3_gapCount_1 : decode cX3_gapCount 1 = .ok (.istore_n 1, 1) := by decide +kernel
theorem dX3_gapCount_2 : decode cX3_gapCount 2 = .ok (.iconst 0, 1) := by decide +kernel
theorem dX3_gapCount_3 : decode cX3_gapCount 3 = .ok (.istore_n 2, 1) := by decide +kernel
theorem dX3_gapCount_4 : decode cX3_gapCount 4 = .ok (.iload_n 2, 1) := by decide +kernel
theorem dX3_gapCount_5 : decode cX3_gapCount 5 = .ok (.aload_n 0, 1) := by decide +kernel
theorem dX3_gapCount_6 : decode cX3_gapCount 6 = .ok (.getfield 42, 3) := by decide +kernel
theorem dX3_gapCount_9 : decode cX3_gapCount 9 = .ok (.if_icmp .ge 26, 3) := by decide +kernel
theorem dX3_gapCount_12 : decode cX3_gapCount 12 = .ok (.iload_n 1, 1) := by decide +kernel
theorem dX3_gapCount_13 : decode cX3_gapCount 13 = .ok (.aload_n 0, 1) := by decide +kernel
theorem dX3_gapCount_14 : decode cX3_gapCount 14 = .ok (.iload_n 2, 1) := by decide +kernel
theorem dX3_gapCount_15 : decode cX3_gapCount 15 = .ok (.invokevirtual 83, 3) := by decide +kernel
theorem dX3_gapCount_18 : decode cX3_gapCount 18 = .ok (.iconst (-1), 1) := by decide +kernel
theorem dX3_gapCount_19 : decode cX3_gapCount 19 = .ok (.if_icmp .ne 7, 3) := by decide +kernel
theorem dX3_gapCount_22 : decode cX3_gapCount 22 = .ok (.iconst 0, 1) := by decide +kernel
theorem dX3_gapCount_23 : decode cX3_gapCount 23 = .ok (.goto 4, 3) := by decide +kernel
theorem dX3_gapCount_26 : decode cX3_gapCount 26 = .ok (.iconst 1, 1) := by decide +kernel
theorem dX3_gapCount_27 : decode cX3_gapCount 27 = .ok (.iadd, 1) := by decide +kernel
theorem dX3_gapCount_28 : decode cX3_gapCount 28 = .ok (.istore_n 1, 1) := by decide +kernel
theorem dX3_gapCount_29 : decode cX3_gapCount 29 = .ok (.iinc 2 1, 3) := by decide +kernel
theorem dX3_gapCount_32 : decode cX3_gapCount 32 = .ok (.goto (-28), 3) := by decide +kernel
theorem dX3_gapCount_35 : decode cX3_gapCount 35 = .ok (.iload_n 1, 1) := by decide +kernel
theorem dX3_gapCount_36 : decode cX3_gapCount 36 = .ok (.ireturn, 1) := by decide +kernel
theorem dX3_gapSum_0 : decode cX3_gapSum 0 = .ok (.iconst 0, 1) := by decide +kernel
theorem dX3_gapSum_1 : decode cX3_gapSum 1 = .ok (.istore_n 1, 1) := by decide +kernel
theorem dX3_gapSum_2 : decode cX3_gapSum 2 = .ok (.iconst 0, 1) := by decide +kernel
theorem dX3_gapSum_3 : decode cX3_gapSum 3 = .ok (.istore_n 2, 1) := by decide +kernel
theorem dX3_gapSum_4 : decode cX3_gapSum 4 = .ok (.iload_n 2, 1) := by decide +kernel
theorem dX3_gapSum_5 : decode cX3_gapSum 5 = .ok (.aload_n 0, 1) := by decide +kernel
theorem dX3_gapSum_6 : decode cX3_gapSum 6 = .ok (.getfield 42, 3) := by decide +kernel
theorem dX3_gapSum_9 : decode cX3_gapSum 9 = .ok (.if_icmp .ge 21, 3) := by decide +kernel
theorem dX3_gapSum_12 : decode cX3_gapSum 12 = .ok (.iload_n 1, 1) := by decide +kernel
theorem dX3_gapSum_13 : decode cX3_gapSum 13 = .ok (.iconst 0, 1) := by decide +kernel
theorem dX3_gapSum_14 : decode cX3_gapSum 14 = .ok (.aload_n 0, 1) := by decide +kernel
theorem dX3_gapSum_15 : decode cX3_gapSum 15 = .ok (.iload_n 2, 1) := by decide +kernel
theorem dX3_gapSum_16 : decode cX3_gapSum 16 = .ok (.invokevirtual 83, 3) := by decide +kernel
theorem dX3_gapSum_19 : decode cX3_gapSum 19 = .ok (.invokestatic 86, 3) := by decide +kernel
theorem dX3_gapSum_22 : decode cX3_gapSum 22 = .ok (.iadd, 1) := by decide +kernel
theorem dX3_gapSum_23 : decode cX3_gapSum 23 = .ok (.istore_n 1, 1) := by decide +kernel
theorem dX3_gapSum_24 : decode cX3_gapSum 24 = .ok (.iinc 2 1, 3) := by decide +kernel
theorem dX3_gapSum_27 : decode cX3_gapSum 27 = .ok (.goto (-23), 3) := by decide +kernel
theorem dX3_gapSum_30 : decode cX3_gapSum 30 = .ok (.iload_n 1, 1) := by decide +kernel
theorem dX3_gapSum_31 : decode cX3_gapSum 31 = .ok (.ireturn, 1) := by decide +kernel
theorem dX3_longestGap_0 : decode cX3_longestGap 0 = .ok (.iconst (-1), 1) := by decide +kernel
theorem dX3_longestGap_1 : decode cX3_longestGap 1 = .ok (.istore_n 1, 1) := by decide +kernel
theorem dX3_longestGap_2 : decode cX3_longestGap 2 = .ok (.iconst 0, 1) := by decide +kernel
theorem dX3_longestGap_3 : decode cX3_longestGap 3 = .ok (.istore_n 2, 1) := by decide +kernel
theorem dX3_longestGap_4 : decode cX3_longestGap 4 = .ok (.iload_n 2, 1) := by decide +kernel
theorem dX3_longestGap_5 : decode cX3_longestGap 5 = .ok (.aload_n 0, 1) := by decide +kernel
theorem dX3_longestGap_6 : decode cX3_longestGap 6 = .ok (.getfield 42, 3) := by decide +kernel
theorem dX3_longestGap_9 : decode cX3_longestGap 9 = .ok (.if_icmp .ge 19, 3) := by decide +kernel
theorem dX3_longestGap_12 : decode cX3_longestGap 12 = .ok (.iload_n 1, 1) := by decide +kernel
theorem dX3_longestGap_13 : decode cX3_longestGap 13 = .ok (.aload_n 0, 1) := by decide +kernel
theorem dX3_longestGap_14 : decode cX3_longestGap 14 = .ok (.iload_n 2, 1) := by decide +kernel
theorem dX3_longestGap_15 : decode cX3_longestGap 15 = .ok (.invokevirtual 83, 3) := by decide +kernel
theorem dX3_longestGap_18 : decode cX3_longestGap 18 = .ok (.invokestatic 86, 3) := by decide +kernel
theorem dX3_longestGap_21 : decode cX3_longestGap 21 = .ok (.istore_n 1, 1) := by decide +kernel
theorem dX3_longestGap_22 : decode cX3_longestGap 22 = .ok (.iinc 2 1, 3) := by decide +kernel
theorem dX3_longestGap_25 : decode cX3_longestGap 25 = .ok (.goto (-21), 3) := by decide +kernel
theorem dX3_longestGap_28 : decode cX3_longestGap 28 = .ok (.iload_n 1, 1) := by decide +kernel
theorem dX3_longestGap_29 : decode cX3_longestGap 29 = .ok (.ireturn, 1) := by decide +kernel
theorem dX3_shortestGap_0 : decode cX3_shortestGap 0 = .ok (.iconst (-1), 1) := by decide +kernel
theorem dX3_shortestGap_1 : decode cX3_shortestGap 1 = .ok (.istore_n 1, 1) := by decide +kernel
theorem dX3_shortestGap_2 : decode cX3_shortestGap 2 = .ok (.iconst 0, 1) := by decide +kernel
theorem dX3_shortestGap_3 : decode cX3_shortestGap 3 = .ok (.istore_n 2, 1) := by decide +kernel
theorem dX3_shortestGap_4 : decode cX3_shortestGap 4 = .ok (.iload_n 2, 1) := by decide +kernel
theorem dX3_shortestGap_5 : decode cX3_shortestGap 5 = .ok (.aload_n 0, 1) := by decide +kernel
theorem dX3_shortestGap_6 : decode cX3_shortestGap 6 = .ok (.getfield 42, 3) := by decide +kernel
theorem dX3_shortestGap_9 : decode cX3_shortestGap 9 = .ok (.if_icmp .ge 32, 3) := by decide +kernel
theorem dX3_shortestGap_12 : decode cX3_shortestGap 12 = .ok (.aload_n 0, 1) := by decide +kernel
theorem dX3_shortestGap_13 : decode cX3_shortestGap 13 = .ok (.iload_n 2, 1) := by decide +kernel
theorem dX3_shortestGap_14 : decode cX3_shortestGap 14 = .ok (.invokevirtual 83, 3) := by decide +kernel
theorem dX3_shortestGap_17 : decode cX3_shortestGap 17 = .ok (.istore_n 3, 1) := by decide +kernel
theorem dX3_shortestGap_18 : decode cX3_shortestGap 18 = .ok (.iload_n 3, 1) := by decide +kernel
theorem dX3_shortestGap_19 : decode cX3_shortestGap 19 = .ok (.iconst (-1), 1) := by decide +kernel
theorem dX3_shortestGap_20 : decode cX3_shortestGap 20 = .ok (.if_icmp .eq 15, 3) := by decide +kernel
theorem dX3_shortestGap_23 : decode cX3_shortestGap 23 = .ok (.iload_n 1, 1) := by decide +kernel
theorem dX3_shortestGap_24 : decode cX3_shortestGap 24 = .ok (.iconst (-1), 1) := by decide +kernel
theorem dX3_shortestGap_25 : decode cX3_shortestGap 25 = .ok (.if_icmp .eq 8, 3) := by decide +kernel
theorem dX3_shortestGap_28 : decode cX3_shortestGap 28 = .ok (.iload_n 3, 1) := by decide +kernel
theorem dX3_shortestGap_29 : decode cX3_shortestGap 29 = .ok (.iload_n 1, 1) := by decide +kernel
theorem dX3_shortestGap_30 : decode cX3_shortestGap 30 = .ok (.if_icmp .ge 5, 3) := by decide +kernel
theorem dX3_shortestGap_33 : decode cX3_shortestGap 33 = .ok (.iload_n 3, 1) := by decide +kernel
theorem dX3_shortestGap_34 : decode cX3_shortestGap 34 = .ok (.istore_n 1, 1) := by decide +kernel
theorem dX3_shortestGap_35 : decode cX3_shortestGap 35 = .ok (.iinc 2 1, 3) := by decide +kernel
theorem dX3_shortestGap_38 : decode cX3_shortestGap 38 = .ok (.goto (-34), 3) := by decide +kernel
theorem dX3_shortestGap_41 : decode cX3_shortestGap 41 = .ok (.iload_n 1, 1) := by decide +kernel
theorem dX3_shortestGap_42 : decode cX3_shortestGap 42 = .ok (.ireturn, 1) := by decide +kernel
theorem dX3_jitter_0 : decode cX3_jitter 0 = .ok (.iconst 0, 1) := by decide +kernel
theorem dX3_jitter_1 : decode cX3_jitter 1 = .ok (.istore_n 1, 1) := by decide +kernel
theorem dX3_jitter_2 : decode cX3_jitter 2 = .ok (.iconst 0, 1) := by decide +kernel
theorem dX3_jitter_3 : decode cX3_jitter 3 = .ok (.istore_n 2, 1) := by decide +kernel
theorem dX3_jitter_4 : decode cX3_jitter 4 = .ok (.iload_n 2, 1) := by decide +kernel
theorem dX3_jitter_5 : decode cX3_jitter 5 = .ok (.aload_n 0, 1) := by decide +kernel
theorem dX3_jitter_6 : decode cX3_jitter 6 = .ok (.getfield 42, 3) := by decide +kernel
theorem dX3_jitter_9 : decode cX3_jitter 9 = .ok (.if_icmp .ge 48, 3) := by decide +kernel
theorem dX3_jitter_12 : decode cX3_jitter 12 = .ok (.aload_n 0, 1) := by decide +kernel
theorem dX3_jitter_13 : decode cX3_jitter 13 = .ok (.iload_n 2, 1) := by decide +kernel
theorem dX3_jitter_14 : decode cX3_jitter 14 = .ok (.invokevirtual 83, 3) := by decide +kernel
theorem dX3_jitter_17 : decode cX3_jitter 17 = .ok (.iconst (-1), 1) := by decide +kernel
theorem dX3_jitter_18 : decode cX3_jitter 18 = .ok (.if_icmp .eq 33, 3) := by decide +kernel
theorem dX3_jitter_21 : decode cX3_jitter 21 = .ok (.aload_n 0, 1) := by decide +kernel
theorem dX3_jitter_22 : decode cX3_jitter 22 = .ok (.iload_n 2, 1) := by decide +kernel
theorem dX3_jitter_23 : decode cX3_jitter 23 = .ok (.iconst 1, 1) := by decide +kernel
theorem dX3_jitter_24 : decode cX3_jitter 24 = .ok (.iadd, 1) := by decide +kernel
theorem dX3_jitter_25 : decode cX3_jitter 25 = .ok (.invokevirtual 83, 3) := by decide +kernel
theorem dX3_jitter_28 : decode cX3_jitter 28 = .ok (.iconst (-1), 1) := by decide +kernel
theorem dX3_jitter_29 : decode cX3_jitter 29 = .ok (.if_icmp .eq 22, 3) := by decide +kernel
theorem dX3_jitter_32 : decode cX3_jitter 32 = .ok (.iload_n 1, 1) := by decide +kernel
theorem dX3_jitter_33 : decode cX3_jitter 33 = .ok (.aload_n 0, 1) := by decide +kernel
theorem dX3_jitter_34 : decode cX3_jitter 34 = .ok (.iload_n 2, 1) := by decide +kernel
theorem dX3_jitter_35 : decode cX3_jitter 35 = .ok (.iconst 1, 1) := by decide +kernel
theorem dX3_jitter_36 : decode cX3_jitter 36 = .ok (.iadd, 1) := by decide +kernel
theorem dX3_jitter_37 : decode cX3_jitter 37 = .ok (.invokevirtual 83, 3) := by decide +kernel
theorem dX3_jitter_40 : decode cX3_jitter 40 = .ok (.aload_n 0, 1) := by decide +kernel
theorem dX3_jitter_41 : decode cX3_jitter 41 = .ok (.iload_n 2, 1) := by decide +kernel
theorem dX3_jitter_42 : decode cX3_jitter 42 = .ok (.invokevirtual 83, 3) := by decide +kernel
theorem dX3_jitter_45 : decode cX3_jitter 45 = .ok (.isub, 1) := by decide +kernel
theorem dX3_jitter_46 : decode cX3_jitter 46 = .ok (.invokestatic 90, 3) := by decide +kernel
theorem dX3_jitter_49 : decode cX3_jitter 49 = .ok (.iadd, 1) := by decide +kernel
theorem dX3_jitter_50 : decode cX3_jitter 50 = .ok (.istore_n 1, 1) := by decide +kernel
theorem dX3_jitter_51 : decode cX3_jitter 51 = .ok (.iinc 2 1, 3) := by decide +kernel
theorem dX3_jitter_54 : decode cX3_jitter 54 = .ok (.goto (-50), 3) := by decide +kernel
theorem dX3_jitter_57 : decode cX3_jitter 57 = .ok (.iload_n 1, 1) := by decide +kernel
theorem dX3_jitter_58 : decode cX3_jitter 58 = .ok (.ireturn, 1) := by decide +kernel
theorem dX3_shimmer_0 : decode cX3_shimmer 0 = .ok (.iconst 0, 1) := by decide +kernel
theorem dX3_shimmer_1 : decode cX3_shimmer 1 = .ok (.istore_n 1, 1) := by decide +kernel
theorem dX3_shimmer_2 : decode cX3_shimmer 2 = .ok (.iconst 0, 1) := by decide +kernel
theorem dX3_shimmer_3 : decode cX3_shimmer 3 = .ok (.istore_n 2, 1) := by decide +kernel
theorem dX3_shimmer_4 : decode cX3_shimmer 4 = .ok (.iload_n 2, 1) := by decide +kernel
theorem dX3_shimmer_5 : decode cX3_shimmer 5 = .ok (.aload_n 0, 1) := by decide +kernel
theorem dX3_shimmer_6 : decode cX3_shimmer 6 = .ok (.getfield 42, 3) := by decide +kernel
theorem dX3_shimmer_9 : decode cX3_shimmer 9 = .ok (.if_icmp .ge 51, 3) := by decide +kernel
theorem dX3_shimmer_12 : decode cX3_shimmer 12 = .ok (.aload_n 0, 1) := by decide +kernel
theorem dX3_shimmer_13 : decode cX3_shimmer 13 = .ok (.iload_n 2, 1) := by decide +kernel
theorem dX3_shimmer_14 : decode cX3_shimmer 14 = .ok (.invokevirtual 83, 3) := by decide +kernel
theorem dX3_shimmer_17 : decode cX3_shimmer 17 = .ok (.iconst (-1), 1) := by decide +kernel
theorem dX3_shimmer_18 : decode cX3_shimmer 18 = .ok (.if_icmp .eq 36, 3) := by decide +kernel
theorem dX3_shimmer_21 : decode cX3_shimmer 21 = .ok (.iload_n 1, 1) := by decide +kernel
theorem dX3_shimmer_22 : decode cX3_shimmer 22 = .ok (.aload_n 0, 1) := by decide +kernel
theorem dX3_shimmer_23 : decode cX3_shimmer 23 = .ok (.getfield 34, 3) := by decide +kernel
theorem dX3_shimmer_26 : decode cX3_shimmer 26 = .ok (.aload_n 0, 1) := by decide +kernel
theorem dX3_shimmer_27 : decode cX3_shimmer 27 = .ok (.iload_n 2, 1) := by decide +kernel
theorem dX3_shimmer_28 : decode cX3_shimmer 28 = .ok (.iconst 1, 1) := by decide +kernel
theorem dX3_shimmer_29 : decode cX3_shimmer 29 = .ok (.iadd, 1) := by decide +kernel
theorem dX3_shimmer_30 : decode cX3_shimmer 30 = .ok (.invokevirtual 74, 3) := by decide +kernel
theorem dX3_shimmer_33 : decode cX3_shimmer 33 = .ok (.invokevirtual 92, 3) := by decide +kernel
theorem dX3_shimmer_36 : decode cX3_shimmer 36 = .ok (.aload_n 0, 1) := by decide +kernel
theorem dX3_shimmer_37 : decode cX3_shimmer 37 = .ok (.getfield 34, 3) := by decide +kernel
theorem dX3_shimmer_40 : decode cX3_shimmer 40 = .ok (.aload_n 0, 1) := by decide +kernel
theorem dX3_shimmer_41 : decode cX3_shimmer 41 = .ok (.iload_n 2, 1) := by decide +kernel
theorem dX3_shimmer_42 : decode cX3_shimmer 42 = .ok (.invokevirtual 74, 3) := by decide +kernel
theorem dX3_shimmer_45 : decode cX3_shimmer 45 = .ok (.invokevirtual 92, 3) := by decide +kernel
theorem dX3_shimmer_48 : decode cX3_shimmer 48 = .ok (.isub, 1) := by decide +kernel
theorem dX3_shimmer_49 : decode cX3_shimmer 49 = .ok (.invokestatic 90, 3) := by decide +kernel
theorem dX3_shimmer_52 : decode cX3_shimmer 52 = .ok (.iadd, 1) := by decide +kernel
theorem dX3_shimmer_53 : decode cX3_shimmer 53 = .ok (.istore_n 1, 1) := by decide +kernel
theorem dX3_shimmer_54 : decode cX3_shimmer 54 = .ok (.iinc 2 1, 3) := by decide +kernel
theorem dX3_shimmer_57 : decode cX3_shimmer 57 = .ok (.goto (-53), 3) := by decide +kernel
theorem dX3_shimmer_60 : decode cX3_shimmer 60 = .ok (.iload_n 1, 1) := by decide +kernel
theorem dX3_shimmer_61 : decode cX3_shimmer 61 = .ok (.ireturn, 1) := by decide +kernel
theorem dX3_roughness_0 : decode cX3_roughness 0 = .ok (.aload_n 0, 1) := by decide +kernel
theorem dX3_roughness_1 : decode cX3_roughness 1 = .ok (.iload_n 1, 1) := by decide +kernel
theorem dX3_roughness_2 : decode cX3_roughness 2 = .ok (.invokevirtual 83, 3) := by decide +kernel
theorem dX3_roughness_5 : decode cX3_roughness 5 = .ok (.istore_n 2, 1) := by decide +kernel
theorem dX3_roughness_6 : decode cX3_roughness 6 = .ok (.iconst 0, 1) := by decide +kernel
theorem dX3_roughness_7 : decode cX3_roughness 7 = .ok (.istore_n 3, 1) := by decide +kernel
theorem dX3_roughness_8 : decode cX3_roughness 8 = .ok (.iconst 0, 1) := by decide +kernel
theorem dX3_roughness_9 : decode cX3_roughness 9 = .ok (.istore 4, 2) := by decide +kernel
theorem dX3_roughness_11 : decode cX3_roughness 11 = .ok (.iload 4, 2) := by decide +kernel
theorem dX3_roughness_13 : decode cX3_roughness 13 = .ok (.iload_n 2, 1) := by decide +kernel
theorem dX3_roughness_14 : decode cX3_roughness 14 = .ok (.if_icmp .ge 48, 3) := by decide +kernel
theorem dX3_roughness_17 : decode cX3_roughness 17 = .ok (.iload_n 3, 1) := by decide +kernel
theorem dX3_roughness_18 : decode cX3_roughness 18 = .ok (.aload_n 0, 1) := by decide +kernel
theorem dX3_roughness_19 : decode cX3_roughness 19 = .ok (.getfield 34, 3) := by decide +kernel
theorem dX3_roughness_22 : decode cX3_roughness 22 = .ok (.aload_n 0, 1) := by decide +kernel
theorem dX3_roughness_23 : decode cX3_roughness 23 = .ok (.iload_n 1, 1) := by decide +kernel
theorem dX3_roughness_24 : decode cX3_roughness 24 = .ok (.invokevirtual 74, 3) := by decide +kernel
theorem dX3_roughness_27 : decode cX3_roughness 27 = .ok (.iload 4, 2) := by decide +kernel
theorem dX3_roughness_29 : decode cX3_roughness 29 = .ok (.iadd, 1) := by decide +kernel
theorem dX3_roughness_30 : decode cX3_roughness 30 = .ok (.invokevirtual 92, 3) := by decide +kernel
theorem dX3_roughness_33 : decode cX3_roughness 33 = .ok (.aload_n 0, 1) := by decide +kernel
theorem dX3_roughness_34 : decode cX3_roughness 34 = .ok (.getfield 34, 3) := by decide +kernel
theorem dX3_roughness_37 : decode cX3_roughness 37 = .ok (.aload_n 0, 1) := by decide +kernel
theorem dX3_roughness_38 : decode cX3_roughness 38 = .ok (.iload_n 1, 1) := by decide +kernel
theorem dX3_roughness_39 : decode cX3_roughness 39 = .ok (.iconst 1, 1) := by decide +kernel
theorem dX3_roughness_40 : decode cX3_roughness 40 = .ok (.iadd, 1) := by decide +kernel
theorem dX3_roughness_41 : decode cX3_roughness 41 = .ok (.invokevirtual 74, 3) := by decide +kernel
theorem dX3_roughness_44 : decode cX3_roughness 44 = .ok (.iload 4, 2) := by decide +kernel
theorem dX3_roughness_46 : decode cX3_roughness 46 = .ok (.iadd, 1) := by decide +kernel
theorem dX3_roughness_47 : decode cX3_roughness 47 = .ok (.invokevirtual 92, 3) := by decide +kernel
theorem dX3_roughness_50 : decode cX3_roughness 50 = .ok (.isub, 1) := by decide +kernel
theorem dX3_roughness_51 : decode cX3_roughness 51 = .ok (.invokestatic 90, 3) := by decide +kernel
theorem dX3_roughness_54 : decode cX3_roughness 54 = .ok (.iadd, 1) := by decide +kernel
theorem dX3_roughness_55 : decode cX3_roughness 55 = .ok (.istore_n 3, 1) := by decide +kernel
theorem dX3_roughness_56 : decode cX3_roughness 56 = .ok (.iinc 4 1, 3) := by decide +kernel
theorem dX3_roughness_59 : decode cX3_roughness 59 = .ok (.goto (-48), 3) := by decide +kernel
theorem dX3_roughness_62 : decode cX3_roughness 62 = .ok (.iload_n 2, 1) := by decide +kernel
theorem dX3_roughness_63 : decode cX3_roughness 63 = .ok (.iconst (-1), 1) := by decide +kernel
theorem dX3_roughness_64 : decode cX3_roughness 64 = .ok (.if_icmp .ne 7, 3) := by decide +kernel
theorem dX3_roughness_67 : decode cX3_roughness 67 = .ok (.iconst (-1), 1) := by decide +kernel
theorem dX3_roughness_68 : decode cX3_roughness 68 = .ok (.goto 4, 3) := by decide +kernel
theorem dX3_roughness_71 : decode cX3_roughness 71 = .ok (.iload_n 3, 1) := by decide +kernel
theorem dX3_roughness_72 : decode cX3_roughness 72 = .ok (.ireturn, 1) := by decide +kernel
theorem dX3_renewed_0 : decode cX3_renewed 0 = .ok (.aload_n 0, 1) := by decide +kernel
theorem dX3_renewed_1 : decode cX3_renewed 1 = .ok (.getfield 30, 3) := by decide +kernel
theorem dX3_renewed_4 : decode cX3_renewed 4 = .ok (.iload_n 3, 1) := by decide +kernel
theorem dX3_renewed_5 : decode cX3_renewed 5 = .ok (.invokevirtual 95, 3) := by decide +kernel
theorem dX3_renewed_8 : decode cX3_renewed 8 = .ok (.istore 4, 2) := by decide +kernel
theorem dX3_renewed_10 : decode cX3_renewed 10 = .ok (.aload_n 0, 1) := by decide +kernel
theorem dX3_renewed_11 : decode cX3_renewed 11 = .ok (.getfield 30, 3) := by decide +kernel
theorem dX3_renewed_14 : decode cX3_renewed 14 = .ok (.iload 4, 2) := by decide +kernel
theorem dX3_renewed_16 : decode cX3_renewed 16 = .ok (.invokevirtual 51, 3) := by decide +kernel
theorem dX3_renewed_19 : decode cX3_renewed 19 = .ok (.ifCond .ne 12, 3) := by decide +kernel
theorem dX3_renewed_22 : decode cX3_renewed 22 = .ok (.aload_n 0, 1) := by decide +kernel
theorem dX3_renewed_23 : decode cX3_renewed 23 = .ok (.getfield 34, 3) := by decide +kernel
theorem dX3_renewed_26 : decode cX3_renewed 26 = .ok (.iload_n 3, 1) := by decide +kernel
theorem dX3_renewed_27 : decode cX3_renewed 27 = .ok (.invokevirtual 92, 3) := by decide +kernel
theorem dX3_renewed_30 : decode cX3_renewed 30 = .ok (.ireturn, 1) := by decide +kernel
theorem dX3_renewed_31 : decode cX3_renewed 31 = .ok (.aload_n 0, 1) := by decide +kernel
theorem dX3_renewed_32 : decode cX3_renewed 32 = .ok (.getfield 24, 3) := by decide +kernel
theorem dX3_renewed_35 : decode cX3_renewed 35 = .ok (.iload 4, 2) := by decide +kernel
theorem dX3_renewed_37 : decode cX3_renewed 37 = .ok (.iaload, 1) := by decide +kernel
theorem dX3_renewed_38 : decode cX3_renewed 38 = .ok (.istore 5, 2) := by decide +kernel
theorem dX3_renewed_40 : decode cX3_renewed 40 = .ok (.aload_n 0, 1) := by decide +kernel
theorem dX3_renewed_41 : decode cX3_renewed 41 = .ok (.getfield 24, 3) := by decide +kernel
theorem dX3_renewed_44 : decode cX3_renewed 44 = .ok (.iload 4, 2) := by decide +kernel
theorem dX3_renewed_46 : decode cX3_renewed 46 = .ok (.iconst 1, 1) := by decide +kernel
theorem dX3_renewed_47 : decode cX3_renewed 47 = .ok (.iadd, 1) := by decide +kernel
theorem dX3_renewed_48 : decode cX3_renewed 48 = .ok (.iaload, 1) := by decide +kernel
theorem dX3_renewed_49 : decode cX3_renewed 49 = .ok (.istore 6, 2) := by decide +kernel
theorem dX3_renewed_51 : decode cX3_renewed 51 = .ok (.aload_n 0, 1) := by decide +kernel
theorem dX3_renewed_52 : decode cX3_renewed 52 = .ok (.getfield 30, 3) := by decide +kernel
theorem dX3_renewed_55 : decode cX3_renewed 55 = .ok (.iload 4, 2) := by decide +kernel
theorem dX3_renewed_57 : decode cX3_renewed 57 = .ok (.invokevirtual 59, 3) := by decide +kernel
theorem dX3_renewed_60 : decode cX3_renewed 60 = .ok (.istore 7, 2) := by decide +kernel
theorem dX3_renewed_62 : decode cX3_renewed 62 = .ok (.iconst 0, 1) := by decide +kernel
theorem dX3_renewed_63 : decode cX3_renewed 63 = .ok (.istore 8, 2) := by decide +kernel
theorem dX3_renewed_65 : decode cX3_renewed 65 = .ok (.aload_n 0, 1) := by decide +kernel
theorem dX3_renewed_66 : decode cX3_renewed 66 = .ok (.iload 5, 2) := by decide +kernel
theorem dX3_renewed_68 : decode cX3_renewed 68 = .ok (.invokevirtual 74, 3) := by decide +kernel
theorem dX3_renewed_71 : decode cX3_renewed 71 = .ok (.istore 9, 2) := by decide +kernel
theorem dX3_renewed_73 : decode cX3_renewed 73 = .ok (.iconst 0, 1) := by decide +kernel
theorem dX3_renewed_74 : decode cX3_renewed 74 = .ok (.istore 10, 2) := by decide +kernel
theorem dX3_renewed_76 : decode cX3_renewed 76 = .ok (.iload 10, 2) := by decide +kernel
theorem dX3_renewed_78 : decode cX3_renewed 78 = .ok (.sipush 800, 3) := by decide +kernel
theorem dX3_renewed_81 : decode cX3_renewed 81 = .ok (.if_icmp .ge 103, 3) := by decide +kernel
theorem dX3_renewed_84 : decode cX3_renewed 84 = .ok (.iload 9, 2) := by decide +kernel
theorem dX3_renewed_86 : decode cX3_renewed 86 = .ok (.iload 7, 2) := by decide +kernel
theorem dX3_renewed_88 : decode cX3_renewed 88 = .ok (.if_icmp .ge 96, 3) := by decide +kernel
theorem dX3_renewed_91 : decode cX3_renewed 91 = .ok (.aload_n 0, 1) := by decide +kernel
theorem dX3_renewed_92 : decode cX3_renewed 92 = .ok (.iload 9, 2) := by decide +kernel
theorem dX3_renewed_94 : decode cX3_renewed 94 = .ok (.iload 5, 2) := by decide +kernel
theorem dX3_renewed_96 : decode cX3_renewed 96 = .ok (.iload 6, 2) := by decide +kernel
theorem dX3_renewed_98 : decode cX3_renewed 98 = .ok (.invokevirtual 98, 3) := by decide +kernel
theorem dX3_renewed_101 : decode cX3_renewed 101 = .ok (.istore 11, 2) := by decide +kernel
theorem dX3_renewed_103 : decode cX3_renewed 103 = .ok (.aload_n 0, 1) := by decide +kernel
theorem dX3_renewed_104 : decode cX3_renewed 104 = .ok (.iload 11, 2) := by decide +kernel
theorem dX3_renewed_106 : decode cX3_renewed 106 = .ok (.invokevirtual 102, 3) := by decide +kernel
theorem dX3_renewed_109 : decode cX3_renewed 109 = .ok (.istore 12, 2) := by decide +kernel
theorem dX3_renewed_111 : decode cX3_renewed 111 = .ok (.iload 9, 2) := by decide +kernel
theorem dX3_renewed_113 : decode cX3_renewed 113 = .ok (.iload_n 3, 1) := by decide +kernel
theorem dX3_renewed_114 : decode cX3_renewed 114 = .ok (.isub, 1) := by decide +kernel
theorem dX3_renewed_115 : decode cX3_renewed 115 = .ok (.invokestatic 90, 3) := by decide +kernel
theorem dX3_renewed_118 : decode cX3_renewed 118 = .ok (.istore 13, 2) := by decide +kernel
theorem dX3_renewed_120 : decode cX3_renewed 120 = .ok (.iload 13, 2) := by decide +kernel
theorem dX3_renewed_122 : decode cX3_renewed 122 = .ok (.iload 12, 2) := by decide +kernel
theorem dX3_renewed_124 : decode cX3_renewed 124 = .ok (.if_icmp .ge 37, 3) := by decide +kernel
theorem dX3_renewed_127 : decode cX3_renewed 127 = .ok (.iload 8, 2) := by decide +kernel
theorem dX3_renewed_129 : decode cX3_renewed 129 = .ok (.aload_n 0, 1) := by decide +kernel
theorem dX3_renewed_130 : decode cX3_renewed 130 = .ok (.getfield 34, 3) := by decide +kernel
theorem dX3_renewed_133 : decode cX3_renewed 133 = .ok (.aload_n 0, 1) := by decide +kernel
theorem dX3_renewed_134 : decode cX3_renewed 134 = .ok (.iload 11, 2) := by decide +kernel
theorem dX3_renewed_136 : decode cX3_renewed 136 = .ok (.invokevirtual 74, 3) := by decide +kernel
theorem dX3_renewed_139 : decode cX3_renewed 139 = .ok (.iload_n 3, 1) := by decide +kernel
theorem dX3_renewed_140 : decode cX3_renewed 140 = .ok (.iadd, 1) := by decide +kernel
theorem dX3_renewed_141 : decode cX3_renewed 141 = .ok (.iload 9, 2) := by decide +kernel
theorem dX3_renewed_143 : decode cX3_renewed 143 = .ok (.isub, 1) := by decide +kernel
theorem dX3_renewed_144 : decode cX3_renewed 144 = .ok (.invokevirtual 92, 3) := by decide +kernel
theorem dX3_renewed_147 : decode cX3_renewed 147 = .ok (.iload 12, 2) := by decide +kernel
theorem dX3_renewed_149 : decode cX3_renewed 149 = .ok (.iload 13, 2) := by decide +kernel
theorem dX3_renewed_151 : decode cX3_renewed 151 = .ok (.isub, 1) := by decide +kernel
theorem dX3_renewed_152 : decode cX3_renewed 152 = .ok (.imul, 1) := by decide +kernel
theorem dX3_renewed_153 : decode cX3_renewed 153 = .ok (.iload 12, 2) := by decide +kernel
theorem dX3_renewed_155 : decode cX3_renewed 155 = .ok (.invokestatic 105, 3) := by decide +kernel
theorem dX3_renewed_158 : decode cX3_renewed 158 = .ok (.iadd, 1) := by decide +kernel
theorem dX3_renewed_159 : decode cX3_renewed 159 = .ok (.istore 8, 2) := by decide +kernel
theorem dX3_renewed_161 : decode cX3_renewed 161 = .ok (.iload 9, 2) := by decide +kernel
theorem dX3_renewed_163 : decode cX3_renewed 163 = .ok (.iconst 1, 1) := by decide +kernel
theorem dX3_renewed_164 : decode cX3_renewed 164 = .ok (.iload 12, 2) := by decide +kernel
theorem dX3_renewed_166 : decode cX3_renewed 166 = .ok (.iload_n 1, 1) := by decide +kernel
theorem dX3_renewed_167 : decode cX3_renewed 167 = .ok (.imul, 1) := by decide +kernel
theorem dX3_renewed_168 : decode cX3_renewed 168 = .ok (.iload_n 2, 1) := by decide +kernel
theorem dX3_renewed_169 : decode cX3_renewed 169 = .ok (.invokestatic 105, 3) := by decide +kernel
theorem dX3_renewed_172 : decode cX3_renewed 172 = .ok (.invokestatic 86, 3) := by decide +kernel
theorem dX3_renewed_175 : decode cX3_renewed 175 = .ok (.iadd, 1) := by decide +kernel
theorem dX3_renewed_176 : decode cX3_renewed 176 = .ok (.istore 9, 2) := by decide +kernel
theorem dX3_renewed_178 : decode cX3_renewed 178 = .ok (.iinc 10 1, 3) := by decide +kernel
theorem dX3_renewed_181 : decode cX3_renewed 181 = .ok (.goto (-105), 3) := by decide +kernel
theorem dX3_renewed_184 : decode cX3_renewed 184 = .ok (.iload 8, 2) := by decide +kernel
theorem dX3_renewed_186 : decode cX3_renewed 186 = .ok (.ireturn, 1) := by decide +kernel
theorem dX3_grasp_0 : decode cX3_grasp 0 = .ok (.aload_n 0, 1) := by decide +kernel
theorem dX3_grasp_1 : decode cX3_grasp 1 = .ok (.iload_n 1, 1) := by decide +kernel
theorem dX3_grasp_2 : decode cX3_grasp 2 = .ok (.invokevirtual 83, 3) := by decide +kernel
theorem dX3_grasp_5 : decode cX3_grasp 5 = .ok (.iconst (-1), 1) := by decide +kernel
theorem dX3_grasp_6 : decode cX3_grasp 6 = .ok (.if_icmp .eq 9, 3) := by decide +kernel
theorem dX3_grasp_9 : decode cX3_grasp 9 = .ok (.aload_n 0, 1) := by decide +kernel
theorem dX3_grasp_10 : decode cX3_grasp 10 = .ok (.iload_n 1, 1) := by decide +kernel
theorem dX3_grasp_11 : decode cX3_grasp 11 = .ok (.invokevirtual 83, 3) := by decide +kernel
theorem dX3_grasp_14 : decode cX3_grasp 14 = .ok (.ireturn, 1) := by decide +kernel
theorem dX3_grasp_15 : decode cX3_grasp 15 = .ok (.aload_n 0, 1) := by decide +kernel
theorem dX3_grasp_16 : decode cX3_grasp 16 = .ok (.iload_n 1, 1) := by decide +kernel
theorem dX3_grasp_17 : decode cX3_grasp 17 = .ok (.iconst 1, 1) := by decide +kernel
theorem dX3_grasp_18 : decode cX3_grasp 18 = .ok (.isub, 1) := by decide +kernel
theorem dX3_grasp_19 : decode cX3_grasp 19 = .ok (.invokevirtual 83, 3) := by decide +kernel
theorem dX3_grasp_22 : decode cX3_grasp 22 = .ok (.iconst (-1), 1) := by decide +kernel
theorem dX3_grasp_23 : decode cX3_grasp 23 = .ok (.if_icmp .eq 13, 3) := by decide +kernel
theorem dX3_grasp_26 : decode cX3_grasp 26 = .ok (.aload_n 0, 1) := by decide +kernel
theorem dX3_grasp_27 : decode cX3_grasp 27 = .ok (.iload_n 1, 1) := by decide +kernel
theorem dX3_grasp_28 : decode cX3_grasp 28 = .ok (.iconst 1, 1) := by decide +kernel
theorem dX3_grasp_29 : decode cX3_grasp 29 = .ok (.isub, 1) := by decide +kernel
theorem dX3_grasp_30 : decode cX3_grasp 30 = .ok (.invokevirtual 83, 3) := by decide +kernel
theorem dX3_grasp_33 : decode cX3_grasp 33 = .ok (.goto 15, 3) := by decide +kernel
theorem dX3_grasp_36 : decode cX3_grasp 36 = .ok (.aload_n 0, 1) := by decide +kernel
theorem dX3_grasp_37 : decode cX3_grasp 37 = .ok (.getfield 30, 3) := by decide +kernel
theorem dX3_grasp_40 : decode cX3_grasp 40 = .ok (.aload_n 0, 1) := by decide +kernel
theorem dX3_grasp_41 : decode cX3_grasp 41 = .ok (.iload_n 1, 1) := by decide +kernel
theorem dX3_grasp_42 : decode cX3_grasp 42 = .ok (.invokevirtual 74, 3) := by decide +kernel
theorem dX3_grasp_45 : decode cX3_grasp 45 = .ok (.invokevirtual 108, 3) := by decide +kernel
theorem dX3_grasp_48 : decode cX3_grasp 48 = .ok (.ireturn, 1) := by decide +kernel
theorem dX3_findWorths_0 : decode cX3_findWorths 0 = .ok (.aload_n 0, 1) := by decide +kernel
theorem dX3_findWorths_1 : decode cX3_findWorths 1 = .ok (.getfield 38, 3) := by decide +kernel
theorem dX3_findWorths_4 : decode cX3_findWorths 4 = .ok (.bipush 13, 2) := by decide +kernel
theorem dX3_findWorths_6 : decode cX3_findWorths 6 = .ok (.invokevirtual 113, 3) := by decide +kernel
theorem dX3_findWorths_9 : decode cX3_findWorths 9 = .ok (.istore_n 3, 1) := by decide +kernel
theorem dX3_findWorths_10 : decode cX3_findWorths 10 = .ok (.iload_n 2, 1) := by decide +kernel
theorem dX3_findWorths_11 : decode cX3_findWorths 11 = .ok (.sipush 800, 3) := by decide +kernel
theorem dX3_findWorths_14 : decode cX3_findWorths 14 = .ok (.invokestatic 116, 3) := by decide +kernel
theorem dX3_findWorths_17 : decode cX3_findWorths 17 = .ok (.iconst 1, 1) := by decide +kernel
theorem dX3_findWorths_18 : decode cX3_findWorths 18 = .ok (.isub, 1) := by decide +kernel
theorem dX3_findWorths_19 : decode cX3_findWorths 19 = .ok (.istore 4, 2) := by decide +kernel
theorem dX3_findWorths_21 : decode cX3_findWorths 21 = .ok (.iload 4, 2) := by decide +kernel
theorem dX3_findWorths_23 : decode cX3_findWorths 23 = .ok (.iload_n 1, 1) := by decide +kernel
theorem dX3_findWorths_24 : decode cX3_findWorths 24 = .ok (.if_icmp .lt 149, 3) := by decide +kernel
theorem dX3_findWorths_27 : decode cX3_findWorths 27 = .ok (.iload 4, 2) := by decide +kernel
theorem dX3_findWorths_29 : decode cX3_findWorths 29 = .ok (.aload_n 0, 1) := by decide +kernel
theorem dX3_findWorths_30 : decode cX3_findWorths 30 = .ok (.getfield 30, 3) := by decide +kernel
theorem dX3_findWorths_33 : decode cX3_findWorths 33 = .ok (.iload 4, 2) := by decide +kernel
theorem dX3_findWorths_35 : decode cX3_findWorths 35 = .ok (.invokevirtual 108, 3) := by decide +kernel
theorem dX3_findWorths_38 : decode cX3_findWorths 38 = .ok (.iadd, 1) := by decide +kernel
theorem dX3_findWorths_39 : decode cX3_findWorths 39 = .ok (.istore 5, 2) := by decide +kernel
theorem dX3_findWorths_41 : decode cX3_findWorths 41 = .ok (.iload 5, 2) := by decide +kernel
theorem dX3_findWorths_43 : decode cX3_findWorths 43 = .ok (.iload 4, 2) := by decide +kernel
theorem dX3_findWorths_45 : decode cX3_findWorths 45 = .ok (.isub, 1) := by decide +kernel
theorem dX3_findWorths_46 : decode cX3_findWorths 46 = .ok (.iconst 4, 1) := by decide +kernel
theorem dX3_findWorths_47 : decode cX3_findWorths 47 = .ok (.idiv, 1) := by decide +kernel
theorem dX3_findWorths_48 : decode cX3_findWorths 48 = .ok (.istore 6, 2) := by decide +kernel
theorem dX3_findWorths_50 : decode cX3_findWorths 50 = .ok (.iconst 0, 1) := by decide +kernel
theorem dX3_findWorths_51 : decode cX3_findWorths 51 = .ok (.istore 7, 2) := by decide +kernel
theorem dX3_findWorths_53 : decode cX3_findWorths 53 = .ok (.aload_n 0, 1) := by decide +kernel
theorem dX3_findWorths_54 : decode cX3_findWorths 54 = .ok (.getfield 15, 3) := by decide +kernel
theorem dX3_findWorths_57 : decode cX3_findWorths 57 = .ok (.iload 4, 2) := by decide +kernel
theorem dX3_findWorths_59 : decode cX3_findWorths 59 = .ok (.iconst (-1), 1) := by decide +kernel
theorem dX3_findWorths_60 : decode cX3_findWorths 60 = .ok (.iastore, 1) := by decide +kernel
theorem dX3_findWorths_61 : decode cX3_findWorths 61 = .ok (.iload 5, 2) := by decide +kernel
theorem dX3_findWorths_63 : decode cX3_findWorths 63 = .ok (.iload 6, 2) := by decide +kernel
theorem dX3_findWorths_65 : decode cX3_findWorths 65 = .ok (.isub, 1) := by decide +kernel
theorem dX3_findWorths_66 : decode cX3_findWorths 66 = .ok (.istore 8, 2) := by decide +kernel
theorem dX3_findWorths_68 : decode cX3_findWorths 68 = .ok (.iload 8, 2) := by decide +kernel
theorem dX3_findWorths_70 : decode cX3_findWorths 70 = .ok (.iload 4, 2) := by decide +kernel
theorem dX3_findWorths_72 : decode cX3_findWorths 72 = .ok (.if_icmp .le 76, 3) := by decide +kernel
theorem dX3_findWorths_75 : decode cX3_findWorths 75 = .ok (.iload 8, 2) := by decide +kernel
theorem dX3_findWorths_77 : decode cX3_findWorths 77 = .ok (.iload 5, 2) := by decide +kernel
theorem dX3_findWorths_79 : decode cX3_findWorths 79 = .ok (.iload 6, 2) := by decide +kernel
theorem dX3_findWorths_81 : decode cX3_findWorths 81 = .ok (.iadd, 1) := by decide +kernel
theorem dX3_findWorths_82 : decode cX3_findWorths 82 = .ok (.if_icmp .gt 66, 3) := by decide +kernel
theorem dX3_findWorths_85 : decode cX3_findWorths 85 = .ok (.iload 8, 2) := by decide +kernel
theorem dX3_findWorths_87 : decode cX3_findWorths 87 = .ok (.iload_n 2, 1) := by decide +kernel
theorem dX3_findWorths_88 : decode cX3_findWorths 88 = .ok (.if_icmp .ge 60, 3) := by decide +kernel
theorem dX3_findWorths_91 : decode cX3_findWorths 91 = .ok (.aload_n 0, 1) := by decide +kernel
theorem dX3_findWorths_92 : decode cX3_findWorths 92 = .ok (.getfield 9, 3) := by decide +kernel
theorem dX3_findWorths_95 : decode cX3_findWorths 95 = .ok (.iload 8, 2) := by decide +kernel
theorem dX3_findWorths_97 : decode cX3_findWorths 97 = .ok (.iaload, 1) := by decide +kernel
theorem dX3_findWorths_98 : decode cX3_findWorths 98 = .ok (.iload_n 3, 1) := by decide +kernel
theorem dX3_findWorths_99 : decode cX3_findWorths 99 = .ok (.iload 8, 2) := by decide +kernel
theorem dX3_findWorths_101 : decode cX3_findWorths 101 = .ok (.iload 5, 2) := by decide +kernel
theorem dX3_findWorths_103 : decode cX3_findWorths 103 = .ok (.isub, 1) := by decide +kernel
theorem dX3_findWorths_104 : decode cX3_findWorths 104 = .ok (.invokestatic 90, 3) := by decide +kernel
theorem dX3_findWorths_107 : decode cX3_findWorths 107 = .ok (.imul, 1) := by decide +kernel
theorem dX3_findWorths_108 : decode cX3_findWorths 108 = .ok (.isub, 1) := by decide +kernel
theorem dX3_findWorths_109 : decode cX3_findWorths 109 = .ok (.istore 9, 2) := by decide +kernel
theorem dX3_findWorths_111 : decode cX3_findWorths 111 = .ok (.aload_n 0, 1) := by decide +kernel
theorem dX3_findWorths_112 : decode cX3_findWorths 112 = .ok (.getfield 15, 3) := by decide +kernel
theorem dX3_findWorths_115 : decode cX3_findWorths 115 = .ok (.iload 4, 2) := by decide +kernel
theorem dX3_findWorths_117 : decode cX3_findWorths 117 = .ok (.iaload, 1) := by decide +kernel
theorem dX3_findWorths_118 : decode cX3_findWorths 118 = .ok (.iconst (-1), 1) := by decide +kernel
theorem dX3_findWorths_119 : decode cX3_findWorths 119 = .ok (.if_icmp .eq 10, 3) := by decide +kernel
theorem dX3_findWorths_122 : decode cX3_findWorths 122 = .ok (.iload 9, 2) := by decide +kernel
theorem dX3_findWorths_124 : decode cX3_findWorths 124 = .ok (.iload 7, 2) := by decide +kernel
theorem dX3_findWorths_126 : decode cX3_findWorths 126 = .ok (.if_icmp .le 16, 3) := by decide +kernel
theorem dX3_findWorths_129 : decode cX3_findWorths 129 = .ok (.aload_n 0, 1) := by decide +kernel
theorem dX3_findWorths_130 : decode cX3_findWorths 130 = .ok (.getfield 15, 3) := by decide +kernel
theorem dX3_findWorths_133 : decode cX3_findWorths 133 = .ok (.iload 4, 2) := by decide +kernel
theorem dX3_findWorths_135 : decode cX3_findWorths 135 = .ok (.iload 8, 2) := by decide +kernel
theorem dX3_findWorths_137 : decode cX3_findWorths 137 = .ok (.iastore, 1) := by decide +kernel
theorem dX3_findWorths_138 : decode cX3_findWorths 138 = .ok (.iload 9, 2) := by decide +kernel
theorem dX3_findWorths_140 : decode cX3_findWorths 140 = .ok (.istore 7, 2) := by decide +kernel
theorem dX3_findWorths_142 : decode cX3_findWorths 142 = .ok (.iinc 8 1, 3) := by decide +kernel
theorem dX3_findWorths_145 : decode cX3_findWorths 145 = .ok (.goto (-77), 3) := by decide +kernel
theorem dX3_findWorths_148 : decode cX3_findWorths 148 = .ok (.aload_n 0, 1) := by decide +kernel
theorem dX3_findWorths_149 : decode cX3_findWorths 149 = .ok (.getfield 9, 3) := by decide +kernel
theorem dX3_findWorths_152 : decode cX3_findWorths 152 = .ok (.iload 4, 2) := by decide +kernel
theorem dX3_findWorths_154 : decode cX3_findWorths 154 = .ok (.iload 7, 2) := by decide +kernel
theorem dX3_findWorths_156 : decode cX3_findWorths 156 = .ok (.aload_n 0, 1) := by decide +kernel
theorem dX3_findWorths_157 : decode cX3_findWorths 157 = .ok (.getfield 34, 3) := by decide +kernel
theorem dX3_findWorths_160 : decode cX3_findWorths 160 = .ok (.iload 4, 2) := by decide +kernel
theorem dX3_findWorths_162 : decode cX3_findWorths 162 = .ok (.invokevirtual 92, 3) := by decide +kernel
theorem dX3_findWorths_165 : decode cX3_findWorths 165 = .ok (.iadd, 1) := by decide +kernel
theorem dX3_findWorths_166 : decode cX3_findWorths 166 = .ok (.iastore, 1) := by decide +kernel
theorem dX3_findWorths_167 : decode cX3_findWorths 167 = .ok (.iinc 4 (-1), 3) := by decide +kernel
theorem dX3_findWorths_170 : decode cX3_findWorths 170 = .ok (.goto (-149), 3) := by decide +kernel
theorem dX3_findWorths_173 : decode cX3_findWorths 173 = .ok (.return_, 1) := by decide +kernel
theorem dX3_markSpan_0 : decode cX3_markSpan 0 = .ok (.iload_n 2, 1) := by decide +kernel
theorem dX3_markSpan_1 : decode cX3_markSpan 1 = .ok (.istore 4, 2) := by decide +kernel
theorem dX3_markSpan_3 : decode cX3_markSpan 3 = .ok (.iload_n 2, 1) := by decide +kernel
theorem dX3_markSpan_4 : decode cX3_markSpan 4 = .ok (.istore 5, 2) := by decide +kernel
theorem dX3_markSpan_6 : decode cX3_markSpan 6 = .ok (.iload 5, 2) := by decide +kernel
theorem dX3_markSpan_8 : decode cX3_markSpan 8 = .ok (.iload_n 3, 1) := by decide +kernel
theorem dX3_markSpan_9 : decode cX3_markSpan 9 = .ok (.if_icmp .ge 45, 3) := by decide +kernel
theorem dX3_markSpan_12 : decode cX3_markSpan 12 = .ok (.iload 5, 2) := by decide +kernel
theorem dX3_markSpan_14 : decode cX3_markSpan 14 = .ok (.iload_n 2, 1) := by decide +kernel
theorem dX3_markSpan_15 : decode cX3_markSpan 15 = .ok (.aload_n 0, 1) := by decide +kernel
theorem dX3_markSpan_16 : decode cX3_markSpan 16 = .ok (.getfield 30, 3) := by decide +kernel
theorem dX3_markSpan_19 : decode cX3_markSpan 19 = .ok (.iload_n 2, 1) := by decide +kernel
theorem dX3_markSpan_20 : decode cX3_markSpan 20 = .ok (.invokevirtual 108, 3) := by decide +kernel
theorem dX3_markSpan_23 : decode cX3_markSpan 23 = .ok (.iadd, 1) := by decide +kernel
theorem dX3_markSpan_24 : decode cX3_markSpan 24 = .ok (.if_icmp .ge 30, 3) := by decide +kernel
theorem dX3_markSpan_27 : decode cX3_markSpan 27 = .ok (.aload_n 0, 1) := by decide +kernel
theorem dX3_markSpan_28 : decode cX3_markSpan 28 = .ok (.getfield 9, 3) := by decide +kernel
theorem dX3_markSpan_31 : decode cX3_markSpan 31 = .ok (.iload 5, 2) := by decide +kernel
theorem dX3_markSpan_33 : decode cX3_markSpan 33 = .ok (.iaload, 1) := by decide +kernel
theorem dX3_markSpan_34 : decode cX3_markSpan 34 = .ok (.aload_n 0, 1) := by decide +kernel
theorem dX3_markSpan_35 : decode cX3_markSpan 35 = .ok (.getfield 9, 3) := by decide +kernel
theorem dX3_markSpan_38 : decode cX3_markSpan 38 = .ok (.iload 4, 2) := by decide +kernel
theorem dX3_markSpan_40 : decode cX3_markSpan 40 = .ok (.iaload, 1) := by decide +kernel
theorem dX3_markSpan_41 : decode cX3_markSpan 41 = .ok (.if_icmp .le 7, 3) := by decide +kernel
theorem dX3_markSpan_44 : decode cX3_markSpan 44 = .ok (.iload 5, 2) := by decide +kernel
theorem dX3_markSpan_46 : decode cX3_markSpan 46 = .ok (.istore 4, 2) := by decide +kernel
theorem dX3_markSpan_48 : decode cX3_markSpan 48 = .ok (.iinc 5 1, 3) := by decide +kernel
theorem dX3_markSpan_51 : decode cX3_markSpan 51 = .ok (.goto (-45), 3) := by decide +kernel
theorem dX3_markSpan_54 : decode cX3_markSpan 54 = .ok (.aload_n 0, 1) := by decide +kernel
theorem dX3_markSpan_55 : decode cX3_markSpan 55 = .ok (.getfield 27, 3) := by decide +kernel
theorem dX3_markSpan_58 : decode cX3_markSpan 58 = .ok (.iload_n 1, 1) := by decide +kernel
theorem dX3_markSpan_59 : decode cX3_markSpan 59 = .ok (.aload_n 0, 1) := by decide +kernel
theorem dX3_markSpan_60 : decode cX3_markSpan 60 = .ok (.getfield 9, 3) := by decide +kernel
theorem dX3_markSpan_63 : decode cX3_markSpan 63 = .ok (.iload 4, 2) := by decide +kernel
theorem dX3_markSpan_65 : decode cX3_markSpan 65 = .ok (.iaload, 1) := by decide +kernel
theorem dX3_markSpan_66 : decode cX3_markSpan 66 = .ok (.iastore, 1) := by decide +kernel
theorem dX3_markSpan_67 : decode cX3_markSpan 67 = .ok (.iload 4, 2) := by decide +kernel
theorem dX3_markSpan_69 : decode cX3_markSpan 69 = .ok (.istore 5, 2) := by decide +kernel
theorem dX3_markSpan_71 : decode cX3_markSpan 71 = .ok (.iload 5, 2) := by decide +kernel
theorem dX3_markSpan_73 : decode cX3_markSpan 73 = .ok (.iload_n 2, 1) := by decide +kernel
theorem dX3_markSpan_74 : decode cX3_markSpan 74 = .ok (.if_icmp .lt 62, 3) := by decide +kernel
theorem dX3_markSpan_77 : decode cX3_markSpan 77 = .ok (.iload 5, 2) := by decide +kernel
theorem dX3_markSpan_79 : decode cX3_markSpan 79 = .ok (.iload_n 3, 1) := by decide +kernel
theorem dX3_markSpan_80 : decode cX3_markSpan 80 = .ok (.if_icmp .ge 56, 3) := by decide +kernel
theorem dX3_markSpan_83 : decode cX3_markSpan 83 = .ok (.aload_n 0, 1) := by decide +kernel
theorem dX3_markSpan_84 : decode cX3_markSpan 84 = .ok (.getfield 42, 3) := by decide +kernel
theorem dX3_markSpan_87 : decode cX3_markSpan 87 = .ok (.sipush 800, 3) := by decide +kernel
theorem dX3_markSpan_90 : decode cX3_markSpan 90 = .ok (.if_icmp .ge 46, 3) := by decide +kernel
theorem dX3_markSpan_93 : decode cX3_markSpan 93 = .ok (.aload_n 0, 1) := by decide +kernel
theorem dX3_markSpan_94 : decode cX3_markSpan 94 = .ok (.getfield 18, 3) := by decide +kernel
theorem dX3_markSpan_97 : decode cX3_markSpan 97 = .ok (.aload_n 0, 1) := by decide +kernel
theorem dX3_markSpan_98 : decode cX3_markSpan 98 = .ok (.getfield 42, 3) := by decide +kernel
theorem dX3_markSpan_101 : decode cX3_markSpan 101 = .ok (.iload 5, 2) := by decide +kernel
theorem dX3_markSpan_103 : decode cX3_markSpan 103 = .ok (.iastore, 1) := by decide +kernel
theorem dX3_markSpan_104 : decode cX3_markSpan 104 = .ok (.aload_n 0, 1) := by decide +kernel
theorem dX3_markSpan_105 : decode cX3_markSpan 105 = .ok (.getfield 21, 3) := by decide +kernel
theorem dX3_markSpan_108 : decode cX3_markSpan 108 = .ok (.aload_n 0, 1) := by decide +kernel
theorem dX3_markSpan_109 : decode cX3_markSpan 109 = .ok (.getfield 42, 3) := by decide +kernel
theorem dX3_markSpan_112 : decode cX3_markSpan 112 = .ok (.iload_n 1, 1) := by decide +kernel
theorem dX3_markSpan_113 : decode cX3_markSpan 113 = .ok (.iastore, 1) := by decide +kernel
theorem dX3_markSpan_114 : decode cX3_markSpan 114 = .ok (.aload_n 0, 1) := by decide +kernel
theorem dX3_markSpan_115 : decode cX3_markSpan 115 = .ok (.dup, 1) := by decide +kernel
theorem dX3_markSpan_116 : decode cX3_markSpan 116 = .ok (.getfield 42, 3) := by decide +kernel
theorem dX3_markSpan_119 : decode cX3_markSpan 119 = .ok (.iconst 1, 1) := by decide +kernel
theorem dX3_markSpan_120 : decode cX3_markSpan 120 = .ok (.iadd, 1) := by decide +kernel
theorem dX3_markSpan_121 : decode cX3_markSpan 121 = .ok (.putfield 42, 3) := by decide +kernel
theorem dX3_markSpan_124 : decode cX3_markSpan 124 = .ok (.aload_n 0, 1) := by decide +kernel
theorem dX3_markSpan_125 : decode cX3_markSpan 125 = .ok (.getfield 15, 3) := by decide +kernel
theorem dX3_markSpan_128 : decode cX3_markSpan 128 = .ok (.iload 5, 2) := by decide +kernel
theorem dX3_markSpan_130 : decode cX3_markSpan 130 = .ok (.iaload, 1) := by decide +kernel
theorem dX3_markSpan_131 : decode cX3_markSpan 131 = .ok (.istore 5, 2) := by decide +kernel
theorem dX3_markSpan_133 : decode cX3_markSpan 133 = .ok (.goto (-62), 3) := by decide +kernel
theorem dX3_markSpan_136 : decode cX3_markSpan 136 = .ok (.return_, 1) := by decide +kernel
theorem dX4_init_0 : decode cX4_init 0 = .ok (.aload_n 0, 1) := by decide +kernel
theorem dX4_init_1 : decode cX4_init 1 = .ok (.invokespecial 3, 3) := by decide +kernel
theorem dX4_init_4 : decode cX4_init 4 = .ok (.aload_n 0, 1) := by decide +kernel
theorem dX4_init_5 : decode cX4_init 5 = .ok (.bipush 100, 2) := by decide +kernel
theorem dX4_init_7 : decode cX4_init 7 = .ok (.newarray .int, 2) := by decide +kernel
theorem dX4_init_9 : decode cX4_init 9 = .ok (.putfield 9, 3) := by decide +kernel
theorem dX4_init_12 : decode cX4_init 12 = .ok (.aload_n 0, 1) := by decide +kernel
theorem dX4_init_13 : decode cX4_init 13 = .ok (.bipush 100, 2) := by decide +kernel
theorem dX4_init_15 : decode cX4_init 15 = .ok (.newarray .int, 2) := by decide +kernel
theorem dX4_init_17 : decode cX4_init 17 = .ok (.putfield 15, 3) := by decide +kernel
theorem dX4_init_20 : decode cX4_init 20 = .ok (.aload_n 0, 1) := by decide +kernel
theorem dX4_init_21 : decode cX4_init 21 = .ok (.bipush 100, 2) := by decide +kernel
theorem dX4_init_23 : decode cX4_init 23 = .ok (.newarray .int, 2) := by decide +kernel
theorem dX4_init_25 : decode cX4_init 25 = .ok (.putfield 18, 3) := by decide +kernel
theorem dX4_init_28 : decode cX4_init 28 = .ok (.aload_n 0, 1) := by decide +kernel
theorem dX4_init_29 : decode cX4_init 29 = .ok (.bipush 50, 2) := by decide +kernel
theorem dX4_init_31 : decode cX4_init 31 = .ok (.newarray .int, 2) := by decide +kernel
theorem dX4_init_33 : decode cX4_init 33 = .ok (.putfield 21, 3) := by decide +kernel
theorem dX4_init_36 : decode cX4_init 36 = .ok (.aload_n 0, 1) := by decide +kernel
theorem dX4_init_37 : decode cX4_init 37 = .ok (.bipush 50, 2) := by decide +kernel
theorem dX4_init_39 : decode cX4_init 39 = .ok (.newarray .int, 2) := by decide +kernel
theorem dX4_init_41 : decode cX4_init 41 = .ok (.putfield 24, 3) := by decide +kernel
theorem dX4_init_44 : decode cX4_init 44 = .ok (.aload_n 0, 1) := by decide +kernel
theorem dX4_init_45 : decode cX4_init 45 = .ok (.aload_n 1, 1) := by decide +kernel
theorem dX4_init_46 : decode cX4_init 46 = .ok (.putfield 27, 3) := by decide +kernel
theorem dX4_init_49 : decode cX4_init 49 = .ok (.return_, 1) := by decide +kernel
theorem dX4_find_0 : decode cX4_find 0 = .ok (.aload_n 0, 1) := by decide +kernel
theorem dX4_find_1 : decode cX4_find 1 = .ok (.invokevirtual 31, 3) := by decide +kernel
theorem dX4_find_4 : decode cX4_find 4 = .ok (.iconst 0, 1) := by decide +kernel
theorem dX4_find_5 : decode cX4_find 5 = .ok (.istore_n 1, 1) := by decide +kernel
theorem dX4_find_6 : decode cX4_find 6 = .ok (.iload_n 1, 1) := by decide +kernel
theorem dX4_find_7 : decode cX4_find 7 = .ok (.aload_n 0, 1) := by decide +kernel
theorem dX4_find_8 : decode cX4_find 8 = .ok (.getfield 34, 3) := by decide +kernel
theorem dX4_find_11 : decode cX4_find 11 = .ok (.if_icmp .ge 49, 3) := by decide +kernel
theorem dX4_find_14 : decode cX4_find 14 = .ok (.aload_n 0, 1) := by decide +kernel
theorem dX4_find_15 : decode cX4_find 15 = .ok (.aload_n 0, 1) := by decide +kernel
theorem dX4_find_16 : decode cX4_find 16 = .ok (.getfield 24, 3) := by decide +kernel
theorem dX4_find_19 : decode cX4_find 19 = .ok (.aload_n 0, 1) := by decide +kernel
theorem dX4_find_20 : decode cX4_find 20 = .ok (.getfield 9, 3) := by decide +kernel
theorem dX4_find_23 : decode cX4_find 23 = .ok (.iload_n 1, 1) := by decide +kernel
theorem dX4_find_24 : decode cX4_find 24 = .ok (.iaload, 1) := by decide +kernel
theorem dX4_find_25 : decode cX4_find 25 = .ok (.aload_n 0, 1) := by decide +kernel
theorem dX4_find_26 : decode cX4_find 26 = .ok (.getfield 15, 3) := by decide +kernel
theorem dX4_find_29 : decode cX4_find 29 = .ok (.iload_n 1, 1) := by decide +kernel
theorem dX4_find_30 : decode cX4_find 30 = .ok (.iaload, 1) := by decide +kernel
theorem dX4_find_31 : decode cX4_find 31 = .ok (.invokevirtual 38, 3) := by decide +kernel
theorem dX4_find_34 : decode cX4_find 34 = .ok (.pop, 1) := by decide +kernel
theorem dX4_find_35 : decode cX4_find 35 = .ok (.aload_n 0, 1) := by decide +kernel
theorem dX4_find_36 : decode cX4_find 36 = .ok (.getfield 18, 3) := by decide +kernel
theorem dX4_find_39 : decode cX4_find 39 = .ok (.iload_n 1, 1) := by decide +kernel
theorem dX4_find_40 : decode cX4_find 40 = .ok (.aload_n 0, 1) := by decide +kernel
theorem dX4_find_41 : decode cX4_find 41 = .ok (.getfield 24, 3) := by decide +kernel
theorem dX4_find_44 : decode cX4_find 44 = .ok (.aload_n 0, 1) := by decide +kernel
theorem dX4_find_45 : decode cX4_find 45 = .ok (.getfield 15, 3) := by decide +kernel
theorem dX4_find_48 : decode cX4_find 48 = .ok (.iload_n 1, 1) := by decide +kernel
theorem dX4_find_49 : decode cX4_find 49 = .ok (.iaload, 1) := by decide +kernel
theorem dX4_find_50 : decode cX4_find 50 = .ok (.invokestatic 42, 3) := by decide +kernel
theorem dX4_find_53 : decode cX4_find 53 = .ok (.iastore, 1) := by decide +kernel
theorem dX4_find_54 : decode cX4_find 54 = .ok (.iinc 1 1, 3) := by decide +kernel
theorem dX4_find_57 : decode cX4_find 57 = .ok (.goto (-51), 3) := by decide +kernel
theorem dX4_find_60 : decode cX4_find 60 = .ok (.aload_n 0, 1) := by decide +kernel
theorem dX4_find_61 : decode cX4_find 61 = .ok (.aload_n 0, 1) := by decide +kernel
theorem dX4_find_62 : decode cX4_find 62 = .ok (.aload_n 0, 1) := by decide +kernel
theorem dX4_find_63 : decode cX4_find 63 = .ok (.getfield 21, 3) := by decide +kernel
theorem dX4_find_66 : decode cX4_find 66 = .ok (.iconst 0, 1) := by decide +kernel
theorem dX4_find_67 : decode cX4_find 67 = .ok (.aload_n 0, 1) := by decide +kernel
theorem dX4_find_68 : decode cX4_find 68 = .ok (.getfield 27, 3) := by decide +kernel
theorem dX4_find_71 : decode cX4_find 71 = .ok (.invokevirtual 46, 3) := by decide +kernel
theorem dX4_find_74 : decode cX4_find 74 = .ok (.invokevirtual 38, 3) := by decide +kernel
theorem dX4_find_77 : decode cX4_find 77 = .ok (.putfield 51, 3) := by decide +kernel
theorem dX4_find_80 : decode cX4_find 80 = .ok (.aload_n 0, 1) := by decide +kernel
theorem dX4_find_81 : decode cX4_find 81 = .ok (.invokevirtual 54, 3) := by decide +kernel
theorem dX4_find_84 : decode cX4_find 84 = .ok (.return_, 1) := by decide +kernel
theorem dX4_size_0 : decode cX4_size 0 = .ok (.aload_n 0, 1) := by decide +kernel
theorem dX4_size_1 : decode cX4_size 1 = .ok (.getfield 34, 3) := by decide +kernel
theorem dX4_size_4 : decode cX4_size 4 = .ok (.ireturn, 1) := by decide +kernel
theorem dX4_has_0 : decode cX4_has 0 = .ok (.iload_n 1, 1) := by decide +kernel
theorem dX4_has_1 : decode cX4_has 1 = .ok (.ifCond .lt 15, 3) := by decide +kernel
theorem dX4_has_4 : decode cX4_has 4 = .ok (.iload_n 1, 1) := by decide +kernel
theorem dX4_has_5 : decode cX4_has 5 = .ok (.aload_n 0, 1) := by decide +kernel
theorem dX4_has_6 : decode cX4_has 6 = .ok (.getfield 34, 3) := by decide +kernel
theorem dX4_has_9 : decode cX4_has 9 = .ok (.if_icmp .ge 7, 3) := by decide +kernel
theorem dX4_has_12 : decode cX4_has 12 = .ok (.iconst 1, 1) := by decide +kernel
theorem dX4_has_13 : decode cX4_has 13 = .ok (.goto 4, 3) := by decide +kernel
theorem dX4_has_16 : decode cX4_has 16 = .ok (.iconst 0, 1) := by decide +kernel
theorem dX4_has_17 : decode cX4_has 17 = .ok (.ireturn, 1) := by decide +kernel
theorem dX4_firstFrame_0 : decode cX4_firstFrame 0 = .ok (.aload_n 0, 1) := by decide +kernel
theorem dX4_firstFrame_1 : decode cX4_firstFrame 1 = .ok (.iload_n 1, 1) := by decide +kernel
theorem dX4_firstFrame_2 : decode cX4_firstFrame 2 = .ok (.invokevirtual 57, 3) := by decide +kernel
theorem dX4_firstFrame_5 : decode cX4_firstFrame 5 = .ok (.ifCond .eq 12, 3) := by decide +kernel
theorem dX4_firstFrame_8 : decode cX4_firstFrame 8 = .ok (.aload_n 0, 1) := by decide +kernel
theorem dX4_firstFrame_9 : decode cX4_firstFrame 9 = .ok (.getfield 9, 3) := by decide +kernel
theorem dX4_firstFrame_12 : decode cX4_firstFrame 12 = .ok (.iload_n 1, 1) := by decide +kernel
theorem dX4_firstFrame_13 : decode cX4_firstFrame 13 = .ok (.iaload, 1) := by decide +kernel
theorem dX4_firstFrame_14 : decode cX4_firstFrame 14 = .ok (.goto 4, 3) := by decide +kernel
theorem dX4_firstFrame_17 : decode cX4_firstFrame 17 = .ok (.iconst (-1), 1) := by decide +kernel
theorem dX4_firstFrame_18 : decode cX4_firstFrame 18 = .ok (.ireturn, 1) := by decide +kernel
theorem dX4_length_0 : decode cX4_length 0 = .ok (.aload_n 0, 1) := by decide +kernel
theorem dX4_length_1 : decode cX4_length 1 = .ok (.iload_n 1, 1) := by decide +kernel
theorem dX4_length_2 : decode cX4_length 2 = .ok (.invokevirtual 57, 3) := by decide +kernel
theorem dX4_length_5 : decode cX4_length 5 = .ok (.ifCond .eq 12, 3) := by decide +kernel
theorem dX4_length_8 : decode cX4_length 8 = .ok (.aload_n 0, 1) := by decide +kernel
theorem dX4_length_9 : decode cX4_length 9 = .ok (.getfield 15, 3) := by decide +kernel
theorem dX4_length_12 : decode cX4_length 12 = .ok (.iload_n 1, 1) := by decide +kernel
theorem dX4_length_13 : decode cX4_length 13 = .ok (.iaload, 1) := by decide +kernel
theorem dX4_length_14 : decode cX4_length 14 = .ok (.goto 4, 3) := by decide +kernel
theorem dX4_length_17 : decode cX4_length 17 = .ok (.iconst 0, 1) := by decide +kernel
theorem dX4_length_18 : decode cX4_length 18 = .ok (.ireturn, 1) := by decide +kernel
theorem dX4_lagOf_0 : decode cX4_lagOf 0 = .ok (.aload_n 0, 1) := by decide +kernel
theorem dX4_lagOf_1 : decode cX4_lagOf 1 = .ok (.iload_n 1, 1) := by decide +kernel
theorem dX4_lagOf_2 : decode cX4_lagOf 2 = .ok (.invokevirtual 57, 3) := by decide +kernel
theorem dX4_lagOf_5 : decode cX4_lagOf 5 = .ok (.ifCond .eq 12, 3) := by decide +kernel
theorem dX4_lagOf_8 : decode cX4_lagOf 8 = .ok (.aload_n 0, 1) := by decide +kernel
theorem dX4_lagOf_9 : decode cX4_lagOf 9 = .ok (.getfield 18, 3) := by decide +kernel
theorem dX4_lagOf_12 : decode cX4_lagOf 12 = .ok (.iload_n 1, 1) := by decide +kernel
theorem dX4_lagOf_13 : decode cX4_lagOf 13 = .ok (.iaload, 1) := by decide +kernel
theorem dX4_lagOf_14 : decode cX4_lagOf 14 = .ok (.goto 4, 3) := by decide +kernel
theorem dX4_lagOf_17 : decode cX4_lagOf 17 = .ok (.iconst 0, 1) := by decide +kernel
theorem dX4_lagOf_18 : decode cX4_lagOf 18 = .ok (.ireturn, 1) := by decide +kernel
theorem dX4_steadyFirst_0 : decode cX4_steadyFirst 0 = .ok (.aload_n 0, 1) := by decide +kernel
theorem dX4_steadyFirst_1 : decode cX4_steadyFirst 1 = .ok (.getfield 61, 3) := by decide +kernel
theorem dX4_steadyFirst_4 : decode cX4_steadyFirst 4 = .ok (.ireturn, 1) := by decide +kernel
theorem dX4_steadyLength_0 : decode cX4_steadyLength 0 = .ok (.aload_n 0, 1) := by decide +kernel
theorem dX4_steadyLength_1 : decode cX4_steadyLength 1 = .ok (.getfield 64, 3) := by decide +kernel
theorem dX4_steadyLength_4 : decode cX4_steadyLength 4 = .ok (.ireturn, 1) := by decide +kernel
theorem dX4_steadyLag_0 : decode cX4_steadyLag 0 = .ok (.aload_n 0, 1) := by decide +kernel
theorem dX4_steadyLag_1 : decode cX4_steadyLag 1 = .ok (.getfield 64, 3) := by decide +kernel
theorem dX4_steadyLag_4 : decode cX4_steadyLag 4 = .ok (.ifCond .ne 7, 3) := by decide +kernel
theorem dX4_steadyLag_7 : decode cX4_steadyLag 7 = .ok (.iconst 0, 1) := by decide +kernel
theorem dX4_steadyLag_8 : decode cX4_steadyLag 8 = .ok (.goto 14, 3) := by decide +kernel
theorem dX4_steadyLag_11 : decode cX4_steadyLag 11 = .ok (.aload_n 0, 1) := by decide +kernel
theorem dX4_steadyLag_12 : decode cX4_steadyLag 12 = .ok (.getfield 27, 3) := by decide +kernel
theorem dX4_steadyLag_15 : decode cX4_steadyLag 15 = .ok (.aload_n 0, 1) := by decide +kernel
theorem dX4_steadyLag_16 : decode cX4_steadyLag 16 = .ok (.getfield 61, 3) := by decide +kernel
theorem dX4_steadyLag_19 : decode cX4_steadyLag 19 = .ok (.invokevirtual 67, 3) := by decide +kernel
theorem dX4_steadyLag_22 : decode cX4_steadyLag 22 = .ok (.ireturn, 1) := by decide +kernel
theorem dX4_unlikeLags_0 : decode cX4_unlikeLags 0 = .ok (.iconst 0, 1) := by decide +kernel
theorem dX4_unlikeLags_1 : decode cX4_unlikeLags 1 = .ok (.istore_n 1, 1) := by decide +kernel
theorem dX4_unlikeLags_2 : decode cX4_unlikeLags 2 = .ok (.iconst 0, 1) := by decide +kernel
theorem dX4_unlikeLags_3 : decode cX4_unlikeLags 3 = .ok (.istore_n 2, 1) := by decide +kernel
theorem dX4_unlikeLags_4 : decode cX4_unlikeLags 4 = .ok (.iload_n 2, 1) := by decide +kernel
theorem dX4_unlikeLags_5 : decode cX4_unlikeLags 5 = .ok (.bipush 50, 2) := by decide +kernel
theorem dX4_unlikeLags_7 : decode cX4_unlikeLags 7 = .ok (.if_icmp .ge 26, 3) := by decide +kernel
theorem dX4_unlikeLags_10 : decode cX4_unlikeLags 10 = .ok (.iload_n 1, 1) := by decide +kernel
theorem dX4_unlikeLags_11 : decode cX4_unlikeLags 11 = .ok (.aload_n 0, 1) := by decide +kernel
theorem dX4_unlikeLags_12 : decode cX4_unlikeLags 12 = .ok (.getfield 21, 3) := by decide +kernel
theorem dX4_unlikeLags_15 : decode cX4_unlikeLags 15 = .ok (.iload_n 2, 1) := by decide +kernel
theorem dX4_unlikeLags_16 : decode cX4_unlikeLags 16 = .ok (.iaload, 1) := by decide +kernel
theorem dX4_unlikeLags_17 : decode cX4_unlikeLags 17 = .ok (.ifCond .le 7, 3) := by decide +kernel
theorem dX4_unlikeLags_20 : decode cX4_unlikeLags 20 = .ok (.iconst 1, 1) := by decide +kernel
theorem dX4_unlikeLags_21 : decode cX4_unlikeLags 21 = .ok (.goto 4, 3) := by decide +kernel
theorem dX4_unlikeLags_24 : decode cX4_unlikeLags 24 = .ok (.iconst 0, 1) := by decide +kernel
theorem dX4_unlikeLags_25 : decode cX4_unlikeLags 25 = .ok (.iadd, 1) := by decide +kernel
theorem dX4_unlikeLags_26 : decode cX4_unlikeLags 26 = .ok (.istore_n 1, 1) := by decide +kernel
theorem dX4_unlikeLags_27 : decode cX4_unlikeLags 27 = .ok (.iinc 2 1, 3) := by decide +kernel
theorem dX4_unlikeLags_30 : decode cX4_unlikeLags 30 = .ok (.goto (-26), 3) := by decide +kernel
theorem dX4_unlikeLags_33 : decode cX4_unlikeLags 33 = .ok (.iload_n 1, 1) := by decide +kernel
theorem dX4_unlikeLags_34 : decode cX4_unlikeLags 34 = .ok (.ireturn, 1) := by decide +kernel
theorem dX4_unlikeLag_0 : decode cX4_unlikeLag 0 = .ok (.iconst 0, 1) := by decide +kernel
theorem dX4_unlikeLag_1 : decode cX4_unlikeLag 1 = .ok (.istore_n 2, 1) := by decide +kernel
theorem dX4_unlikeLag_2 : decode cX4_unlikeLag 2 = .ok (.iconst 0, 1) := by decide +kernel
theorem dX4_unlikeLag_3 : decode cX4_unlikeLag 3 = .ok (.istore_n 3, 1) := by decide +kernel
theorem dX4_unlikeLag_4 : decode cX4_unlikeLag 4 = .ok (.iload_n 3, 1) := by decide +kernel
theorem dX4_unlikeLag_5 : decode cX4_unlikeLag 5 = .ok (.bipush 50, 2) := by decide +kernel
theorem dX4_unlikeLag_7 : decode cX4_unlikeLag 7 = .ok (.if_icmp .ge 28, 3) := by decide +kernel
theorem dX4_unlikeLag_10 : decode cX4_unlikeLag 10 = .ok (.aload_n 0, 1) := by decide +kernel
theorem dX4_unlikeLag_11 : decode cX4_unlikeLag 11 = .ok (.getfield 21, 3) := by decide +kernel
theorem dX4_unlikeLag_14 : decode cX4_unlikeLag 14 = .ok (.iload_n 3, 1) := by decide +kernel
theorem dX4_unlikeLag_15 : decode cX4_unlikeLag 15 = .ok (.iaload, 1) := by decide +kernel
theorem dX4_unlikeLag_16 : decode cX4_unlikeLag 16 = .ok (.ifCond .le 13, 3) := by decide +kernel
theorem dX4_unlikeLag_19 : decode cX4_unlikeLag 19 = .ok (.iload_n 2, 1) := by decide +kernel
theorem dX4_unlikeLag_20 : decode cX4_unlikeLag 20 = .ok (.iload_n 1, 1) := by decide +kernel
theorem dX4_unlikeLag_21 : decode cX4_unlikeLag 21 = .ok (.if_icmp .ne 5, 3) := by decide +kernel
theorem dX4_unlikeLag_24 : decode cX4_unlikeLag 24 = .ok (.iload_n 3, 1) := by decide +kernel
theorem dX4_unlikeLag_25 : decode cX4_unlikeLag 25 = .ok (.ireturn, 1) := by decide +kernel
theorem dX4_unlikeLag_26 : decode cX4_unlikeLag 26 = .ok (.iinc 2 1, 3) := by decide +kernel
theorem dX4_unlikeLag_29 : decode cX4_unlikeLag 29 = .ok (.iinc 3 1, 3) := by decide +kernel
theorem dX4_unlikeLag_32 : decode cX4_unlikeLag 32 = .ok (.goto (-28), 3) := by decide +kernel
theorem dX4_unlikeLag_35 : decode cX4_unlikeLag 35 = .ok (.iconst (-1), 1) := by decide +kernel
theorem dX4_unlikeLag_36 : decode cX4_unlikeLag 36 = .ok (.ireturn, 1) := by decide +kernel
theorem dX4_framesWith_0 : decode cX4_framesWith 0 = .ok (.iload_n 1, 1) := by decide +kernel
theorem dX4_framesWith_1 : decode cX4_framesWith 1 = .ok (.ifCond .lt 9, 3) := by decide +kernel
theorem dX4_framesWith_4 : decode cX4_framesWith 4 = .ok (.iload_n 1, 1) := by decide +kernel
theorem dX4_framesWith_5 : decode cX4_framesWith 5 = .ok (.bipush 50, 2) := by decide +kernel
theorem dX4_framesWith_7 : decode cX4_framesWith 7 = .ok (.if_icmp .lt 7, 3) := by decide +kernel
theorem dX4_framesWith_10 : decode cX4_framesWith 10 = .ok (.iconst 0, 1) := by decide +kernel
theorem dX4_framesWith_11 : decode cX4_framesWith 11 = .ok (.goto 9, 3) := by decide +kernel
theorem dX4_framesWith_14 : decode cX4_framesWith 14 = .ok (.aload_n 0, 1) := by decide +kernel
theorem dX4_framesWith_15 : decode cX4_framesWith 15 = .ok (.getfield 21, 3) := by decide +kernel
theorem dX4_framesWith_18 : decode cX4_framesWith 18 = .ok (.iload_n 1, 1) := by decide +kernel
theorem dX4_framesWith_19 : decode cX4_framesWith 19 = .ok (.iaload, 1) := by decide +kernel
theorem dX4_framesWith_20 : decode cX4_framesWith 20 = .ok (.ireturn, 1) := by decide +kernel
theorem dX4_commonest_0 : decode cX4_commonest 0 = .ok (.iconst (-1), 1) := by decide +kernel
theorem dX4_commonest_1 : decode cX4_commonest 1 = .ok (.istore_n 1, 1) := by decide +kernel
theorem dX4_commonest_2 : decode cX4_commonest 2 = .ok (.iconst 0, 1) := by decide +kernel
theorem dX4_commonest_3 : decode cX4_commonest 3 = .ok (.istore_n 2, 1) := by decide +kernel
theorem dX4_commonest_4 : decode cX4_commonest 4 = .ok (.iconst 0, 1) := by decide +kernel
theorem dX4_commonest_5 : decode cX4_commonest 5 = .ok (.istore_n 3, 1) := by decide +kernel
theorem dX4_commonest_6 : decode cX4_commonest 6 = .ok (.iload_n 3, 1) := by decide +kernel
theorem dX4_commonest_7 : decode cX4_commonest 7 = .ok (.bipush 50, 2) := by decide +kernel
theorem dX4_commonest_9 : decode cX4_commonest 9 = .ok (.if_icmp .ge 28, 3) := by decide +kernel
theorem dX4_commonest_12 : decode cX4_commonest 12 = .ok (.aload_n 0, 1) := by decide +kernel
theorem dX4_commonest_13 : decode cX4_commonest 13 = .ok (.getfield 21, 3) := by decide +kernel
theorem dX4_commonest_16 : decode cX4_commonest 16 = .ok (.iload_n 3, 1) := by decide +kernel
theorem dX4_commonest_17 : decode cX4_commonest 17 = .ok (.iaload, 1) := by decide +kernel
theorem dX4_commonest_18 : decode cX4_commonest 18 = .ok (.iload_n 2, 1) := by decide +kernel
theorem dX4_commonest_19 : decode cX4_commonest 19 = .ok (.if_icmp .le 12, 3) := by decide +kernel
theorem dX4_commonest_22 : decode cX4_commonest 22 = .ok (.aload_n 0, 1) := by decide +kernel
theorem dX4_commonest_23 : decode cX4_commonest 23 = .ok (.getfield 21, 3) := by decide +kernel
theorem dX4_commonest_26 : decode cX4_commonest 26 = .ok (.iload_n 3, 1) := by decide +kernel
theorem dX4_commonest_27 : decode cX4_commonest 27 = .ok (.iaload, 1) := by decide +kernel
theorem dX4_commonest_28 : decode cX4_commonest 28 = .ok (.istore_n 2, 1) := by decide +kernel
theorem dX4_commonest_29 : decode cX4_commonest 29 = .ok (.iload_n 3, 1) := by decide +kernel
theorem dX4_commonest_30 : decode cX4_commonest 30 = .ok (.istore_n 1, 1) := by decide +kernel
theorem dX4_commonest_31 : decode cX4_commonest 31 = .ok (.iinc 3 1, 3) := by decide +kernel
theorem dX4_commonest_34 : decode cX4_commonest 34 = .ok (.goto (-28), 3) := by decide +kernel
theorem dX4_commonest_37 : decode cX4_commonest 37 = .ok (.iload_n 1, 1) := by decide +kernel
theorem dX4_commonest_38 : decode cX4_commonest 38 = .ok (.ireturn, 1) := by decide +kernel
theorem dX4_middleOfAll_0 : decode cX4_middleOfAll 0 = .ok (.aload_n 0, 1) := by decide +kernel
theorem dX4_middleOfAll_1 : decode cX4_middleOfAll 1 = .ok (.getfield 51, 3) := by decide +kernel
theorem dX4_middleOfAll_4 : decode cX4_middleOfAll 4 = .ok (.ifCond .ne 7, 3) := by decide +kernel
theorem dX4_middleOfAll_7 : decode cX4_middleOfAll 7 = .ok (.iconst (-1), 1) := by decide +kernel
theorem dX4_middleOfAll_8 : decode cX4_middleOfAll 8 = .ok (.goto 14, 3) := by decide +kernel
theorem dX4_middleOfAll_11 : decode cX4_middleOfAll 11 = .ok (.aload_n 0, 1) := by decide +kernel
theorem dX4_middleOfAll_12 : decode cX4_middleOfAll 12 = .ok (.getfield 21, 3) := by decide +kernel
theorem dX4_middleOfAll_15 : decode cX4_middleOfAll 15 = .ok (.aload_n 0, 1) := by decide +kernel
theorem dX4_middleOfAll_16 : decode cX4_middleOfAll 16 = .ok (.getfield 51, 3) := by decide +kernel
theorem dX4_middleOfAll_19 : decode cX4_middleOfAll 19 = .ok (.invokestatic 42, 3) := by decide +kernel
theorem dX4_middleOfAll_22 : decode cX4_middleOfAll 22 = .ok (.ireturn, 1) := by decide +kernel
theorem dX4_findNotes_0 : decode cX4_findNotes 0 = .ok (.aload_n 0, 1) := by decide +kernel
theorem dX4_findNotes_1 : decode cX4_findNotes 1 = .ok (.iconst 0, 1) := by decide +kernel
theorem dX4_findNotes_2 : decode cX4_findNotes 2 = .ok (.putfield 34, 3) := by decide +kernel
theorem dX4_findNotes_5 : decode cX4_findNotes 5 = .ok (.iconst 0, 1) := by decide +kernel
theorem dX4_findNotes_6 : decode cX4_findNotes 6 = .ok (.istore_n 1, 1) := by decide +kernel
theorem dX4_findNotes_7 : decode cX4_findNotes 7 = .ok (.iload_n 1, 1) := by decide +kernel
theorem dX4_findNotes_8 : decode cX4_findNotes 8 = .ok (.aload_n 0, 1) := by decide +kernel
theorem dX4_findNotes_9 : decode cX4_findNotes 9 = .ok (.getfield 27, 3) := by decide +kernel
theorem dX4_findNotes_12 : decode cX4_findNotes 12 = .ok (.invokevirtual 46, 3) := by decide +kernel
theorem dX4_findNotes_15 : decode cX4_findNotes 15 = .ok (.if_icmp .ge 100, 3) := by decide +kernel
theorem dX4_findNotes_18 : decode cX4_findNotes 18 = .ok (.aload_n 0, 1) := by decide +kernel
theorem dX4_findNotes_19 : decode cX4_findNotes 19 = .ok (.getfield 27, 3) := by decide +kernel
theorem dX4_findNotes_22 : decode cX4_findNotes 22 = .ok (.iload_n 1, 1) := by decide +kernel
theorem dX4_findNotes_23 : decode cX4_findNotes 23 = .ok (.invokevirtual 67, 3) := by decide +kernel
theorem dX4_findNotes_26 : decode cX4_findNotes 26 = .ok (.istore_n 2, 1) := by decide +kernel
theorem dX4_findNotes_27 : decode cX4_findNotes 27 = .ok (.iload_n 2, 1) := by decide +kernel
theorem dX4_findNotes_28 : decode cX4_findNotes 28 = .ok (.ifCond .eq 81, 3) := by decide +kernel
theorem dX4_findNotes_31 : decode cX4_findNotes 31 = .ok (.iload_n 1, 1) := by decide +kernel
theorem dX4_findNotes_32 : decode cX4_findNotes 32 = .ok (.ifCond .ne 7, 3) := by decide +kernel
theorem dX4_findNotes_35 : decode cX4_findNotes 35 = .ok (.iconst 0, 1) := by decide +kernel
theorem dX4_findNotes_36 : decode cX4_findNotes 36 = .ok (.goto 13, 3) := by decide +kernel
theorem dX4_findNotes_39 : decode cX4_findNotes 39 = .ok (.aload_n 0, 1) := by decide +kernel
theorem dX4_findNotes_40 : decode cX4_findNotes 40 = .ok (.getfield 27, 3) := by decide +kernel
theorem dX4_findNotes_43 : decode cX4_findNotes 43 = .ok (.iload_n 1, 1) := by decide +kernel
theorem dX4_findNotes_44 : decode cX4_findNotes 44 = .ok (.iconst 1, 1) := by decide +kernel
theorem dX4_findNotes_45 : decode cX4_findNotes 45 = .ok (.isub, 1) := by decide +kernel
theorem dX4_findNotes_46 : decode cX4_findNotes 46 = .ok (.invokevirtual 67, 3) := by decide +kernel
theorem dX4_findNotes_49 : decode cX4_findNotes 49 = .ok (.istore_n 3, 1) := by decide +kernel
theorem dX4_findNotes_50 : decode cX4_findNotes 50 = .ok (.iload_n 3, 1) := by decide +kernel
theorem dX4_findNotes_51 : decode cX4_findNotes 51 = .ok (.ifCond .eq 13, 3) := by decide +kernel
theorem dX4_findNotes_54 : decode cX4_findNotes 54 = .ok (.iload_n 2, 1) := by decide +kernel
theorem dX4_findNotes_55 : decode cX4_findNotes 55 = .ok (.iload_n 3, 1) := by decide +kernel
theorem dX4_findNotes_56 : decode cX4_findNotes 56 = .ok (.isub, 1) := by decide +kernel
theorem dX4_findNotes_57 : decode cX4_findNotes 57 = .ok (.invokestatic 71, 3) := by decide +kernel
theorem dX4_findNotes_60 : decode cX4_findNotes 60 = .ok (.iconst 1, 1) := by decide +kernel
theorem dX4_findNotes_61 : decode cX4_findNotes 61 = .ok (.if_icmp .le 33, 3) := by decide +kernel
theorem dX4_findNotes_64 : decode cX4_findNotes 64 = .ok (.aload_n 0, 1) := by decide +kernel
theorem dX4_findNotes_65 : decode cX4_findNotes 65 = .ok (.getfield 9, 3) := by decide +kernel
theorem dX4_findNotes_68 : decode cX4_findNotes 68 = .ok (.aload_n 0, 1) := by decide +kernel
theorem dX4_findNotes_69 : decode cX4_findNotes 69 = .ok (.getfield 34, 3) := by decide +kernel
theorem dX4_findNotes_72 : decode cX4_findNotes 72 = .ok (.iload_n 1, 1) := by decide +kernel
theorem dX4_findNotes_73 : decode cX4_findNotes 73 = .ok (.iastore, 1) := by decide +kernel
theorem dX4_findNotes_74 : decode cX4_findNotes 74 = .ok (.aload_n 0, 1) := by decide +kernel
theorem dX4_findNotes_75 : decode cX4_findNotes 75 = .ok (.getfield 15, 3) := by decide +kernel
theorem dX4_findNotes_78 : decode cX4_findNotes 78 = .ok (.aload_n 0, 1) := by decide +kernel
theorem dX4_findNotes_79 : decode cX4_findNotes 79 = .ok (.getfield 34, 3) := by decide +kernel
theorem dX4_findNotes_82 : decode cX4_findNotes 82 = .ok (.iconst 0, 1) := by decide +kernel
theorem dX4_findNotes_83 : decode cX4_findNotes 83 = .ok (.iastore, 1) := by decide +kernel
theorem dX4_findNotes_84 : decode cX4_findNotes 84 = .ok (.aload_n 0, 1) := by decide +kernel
theorem dX4_findNotes_85 : decode cX4_findNotes 85 = .ok (.dup, 1) := by decide +kernel
theorem dX4_findNotes_86 : decode cX4_findNotes 86 = .ok (.getfield 34, 3) := by decide +kernel
theorem dX4_findNotes_89 : decode cX4_findNotes 89 = .ok (.iconst 1, 1) := by decide +kernel
theorem dX4_findNotes_90 : decode cX4_findNotes 90 = .ok (.iadd, 1) := by decide +kernel
theorem dX4_findNotes_91 : decode cX4_findNotes 91 = .ok (.putfield 34, 3) := by decide +kernel
theorem dX4_findNotes_94 : decode cX4_findNotes 94 = .ok (.aload_n 0, 1) := by decide +kernel
theorem dX4_findNotes_95 : decode cX4_findNotes 95 = .ok (.getfield 15, 3) := by decide +kernel
theorem dX4_findNotes_98 : decode cX4_findNotes 98 = .ok (.aload_n 0, 1) := by decide +kernel
theorem dX4_findNotes_99 : decode cX4_findNotes 99 = .ok (.getfield 34, 3) := by decide +kernel
theorem dX4_findNotes_102 : decode cX4_findNotes 102 = .ok (.iconst 1, 1) := by decide +kernel
theorem dX4_findNotes_103 : decode cX4_findNotes 103 = .ok (.isub, 1) := by decide +kernel
theorem dX4_findNotes_104 : decode cX4_findNotes 104 = .ok (.dup2, 1) := by decide +kernel
theorem dX4_findNotes_105 : decode cX4_findNotes 105 = .ok (.iaload, 1) := by decide +kernel
theorem dX4_findNotes_106 : decode cX4_findNotes 106 = .ok (.iconst 1, 1) := by decide +kernel
theorem dX4_findNotes_107 : decode cX4_findNotes 107 = .ok (.iadd, 1) := by decide +kernel
theorem dX4_findNotes_108 : decode cX4_findNotes 108 = .ok (.iastore, 1) := by decide +kernel
theorem dX4_findNotes_109 : decode cX4_findNotes 109 = .ok (.iinc 1 1, 3) := by decide +kernel
theorem dX4_findNotes_112 : decode cX4_findNotes 112 = .ok (.goto (-105), 3) := by decide +kernel
theorem dX4_findNotes_115 : decode cX4_findNotes 115 = .ok (.return_, 1) := by decide +kernel
theorem dX4_tallyLags_0 : decode cX4_tallyLags 0 = .ok (.iconst 0, 1) := by decide +kernel
theorem dX4_tallyLags_1 : decode cX4_tallyLags 1 = .ok (.istore 4, 2) := by decide +kernel
theorem dX4_tallyLags_3 : decode cX4_tallyLags 3 = .ok (.iconst 0, 1) := by decide +kernel
theorem dX4_tallyLags_4 : decode cX4_tallyLags 4 = .ok (.istore 5, 2) := by decide +kernel
theorem dX4_tallyLags_6 : decode cX4_tallyLags 6 = .ok (.iload 5, 2) := by decide +kernel
theorem dX4_tallyLags_8 : decode cX4_tallyLags 8 = .ok (.bipush 50, 2) := by decide +kernel
theorem dX4_tallyLags_10 : decode cX4_tallyLags 10 = .ok (.if_icmp .ge 14, 3) := by decide +kernel
theorem dX4_tallyLags_13 : decode cX4_tallyLags 13 = .ok (.aload_n 1, 1) := by decide +kernel
theorem dX4_tallyLags_14 : decode cX4_tallyLags 14 = .ok (.iload 5, 2) := by decide +kernel
theorem dX4_tallyLags_16 : decode cX4_tallyLags 16 = .ok (.iconst 0, 1) := by decide +kernel
theorem dX4_tallyLags_17 : decode cX4_tallyLags 17 = .ok (.iastore, 1) := by decide +kernel
theorem dX4_tallyLags_18 : decode cX4_tallyLags 18 = .ok (.iinc 5 1, 3) := by decide +kernel
theorem dX4_tallyLags_21 : decode cX4_tallyLags 21 = .ok (.goto (-15), 3) := by decide +kernel
theorem dX4_tallyLags_24 : decode cX4_tallyLags 24 = .ok (.iload_n 2, 1) := by decide +kernel
theorem dX4_tallyLags_25 : decode cX4_tallyLags 25 = .ok (.istore 5, 2) := by decide +kernel
theorem dX4_tallyLags_27 : decode cX4_tallyLags 27 = .ok (.iload 5, 2) := by decide +kernel
theorem dX4_tallyLags_29 : decode cX4_tallyLags 29 = .ok (.iload_n 2, 1) := by decide +kernel
theorem dX4_tallyLags_30 : decode cX4_tallyLags 30 = .ok (.iload_n 3, 1) := by decide +kernel
theorem dX4_tallyLags_31 : decode cX4_tallyLags 31 = .ok (.iadd, 1) := by decide +kernel
theorem dX4_tallyLags_32 : decode cX4_tallyLags 32 = .ok (.if_icmp .ge 43, 3) := by decide +kernel
theorem dX4_tallyLags_35 : decode cX4_tallyLags 35 = .ok (.aload_n 0, 1) := by decide +kernel
theorem dX4_tallyLags_36 : decode cX4_tallyLags 36 = .ok (.getfield 27, 3) := by decide +kernel
theorem dX4_tallyLags_39 : decode cX4_tallyLags 39 = .ok (.iload 5, 2) := by decide +kernel
theorem dX4_tallyLags_41 : decode cX4_tallyLags 41 = .ok (.invokevirtual 67, 3) := by decide +kernel
theorem dX4_tallyLags_44 : decode cX4_tallyLags 44 = .ok (.istore 6, 2) := by decide +kernel
theorem dX4_tallyLags_46 : decode cX4_tallyLags 46 = .ok (.iload 6, 2) := by decide +kernel
theorem dX4_tallyLags_48 : decode cX4_tallyLags 48 = .ok (.ifCond .le 21, 3) := by decide +kernel
theorem dX4_tallyLags_51 : decode cX4_tallyLags 51 = .ok (.iload 6, 2) := by decide +kernel
theorem dX4_tallyLags_53 : decode cX4_tallyLags 53 = .ok (.bipush 50, 2) := by decide +kernel
theorem dX4_tallyLags_55 : decode cX4_tallyLags 55 = .ok (.if_icmp .ge 14, 3) := by decide +kernel
theorem dX4_tallyLags_58 : decode cX4_tallyLags 58 = .ok (.aload_n 1, 1) := by decide +kernel
theorem dX4_tallyLags_59 : decode cX4_tallyLags 59 = .ok (.iload 6, 2) := by decide +kernel
theorem dX4_tallyLags_61 : decode cX4_tallyLags 61 = .ok (.dup2, 1) := by decide +kernel
theorem dX4_tallyLags_62 : decode cX4_tallyLags 62 = .ok (.iaload, 1) := by decide +kernel
theorem dX4_tallyLags_63 : decode cX4_tallyLags 63 = .ok (.iconst 1, 1) := by decide +kernel
theorem dX4_tallyLags_64 : decode cX4_tallyLags 64 = .ok (.iadd, 1) := by decide +kernel
theorem dX4_tallyLags_65 : decode cX4_tallyLags 65 = .ok (.iastore, 1) := by decide +kernel
theorem dX4_tallyLags_66 : decode cX4_tallyLags 66 = .ok (.iinc 4 1, 3) := by decide +kernel
theorem dX4_tallyLags_69 : decode cX4_tallyLags 69 = .ok (.iinc 5 1, 3) := by decide +kernel
theorem dX4_tallyLags_72 : decode cX4_tallyLags 72 = .ok (.goto (-45), 3) := by decide +kernel
theorem dX4_tallyLags_75 : decode cX4_tallyLags 75 = .ok (.iload 4, 2) := by decide +kernel
theorem dX4_tallyLags_77 : decode cX4_tallyLags 77 = .ok (.ireturn, 1) := by decide +kernel
theorem dX4_findSteady_0 : decode cX4_findSteady 0 = .ok (.aload_n 0, 1) := by decide +kernel
theorem dX4_findSteady_1 : decode cX4_findSteady 1 = .ok (.iconst (-1), 1) := by decide +kernel
theorem dX4_findSteady_2 : decode cX4_findSteady 2 = .ok (.putfield 61, 3) := by decide +kernel
theorem dX4_findSteady_5 : decode cX4_findSteady 5 = .ok (.aload_n 0, 1) := by decide +kernel
theorem dX4_findSteady_6 : decode cX4_findSteady 6 = .ok (.iconst 0, 1) := by decide +kernel
theorem dX4_findSteady_7 : decode cX4_findSteady 7 = .ok (.putfield 64, 3) := by decide +kernel
theorem dX4_findSteady_10 : decode cX4_findSteady 10 = .ok (.iconst 0, 1) := by decide +kernel
theorem dX4_findSteady_11 : decode cX4_findSteady 11 = .ok (.istore_n 1, 1) := by decide +kernel
theorem dX4_findSteady_12 : decode cX4_findSteady 12 = .ok (.iconst 0, 1) := by decide +kernel
theorem dX4_findSteady_13 : decode cX4_findSteady 13 = .ok (.istore_n 2, 1) := by decide +kernel
theorem dX4_findSteady_14 : decode cX4_findSteady 14 = .ok (.iload_n 2, 1) := by decide +kernel
theorem dX4_findSteady_15 : decode cX4_findSteady 15 = .ok (.aload_n 0, 1) := by decide +kernel
theorem dX4_findSteady_16 : decode cX4_findSteady 16 = .ok (.getfield 27, 3) := by decide +kernel
theorem dX4_findSteady_19 : decode cX4_findSteady 19 = .ok (.invokevirtual 46, 3) := by decide +kernel
theorem dX4_findSteady_22 : decode cX4_findSteady 22 = .ok (.if_icmp .ge 67, 3) := by decide +kernel
theorem dX4_findSteady_25 : decode cX4_findSteady 25 = .ok (.aload_n 0, 1) := by decide +kernel
theorem dX4_findSteady_26 : decode cX4_findSteady 26 = .ok (.getfield 27, 3) := by decide +kernel
theorem dX4_findSteady_29 : decode cX4_findSteady 29 = .ok (.iload_n 2, 1) := by decide +kernel
theorem dX4_findSteady_30 : decode cX4_findSteady 30 = .ok (.invokevirtual 67, 3) := by decide +kernel
theorem dX4_findSteady_33 : decode cX4_findSteady 33 = .ok (.aload_n 0, 1) := by decide +kernel
theorem dX4_findSteady_34 : decode cX4_findSteady 34 = .ok (.getfield 27, 3) := by decide +kernel
theorem dX4_findSteady_37 : decode cX4_findSteady 37 = .ok (.iload_n 1, 1) := by decide +kernel
theorem dX4_findSteady_38 : decode cX4_findSteady 38 = .ok (.invokevirtual 67, 3) := by decide +kernel
theorem dX4_findSteady_41 : decode cX4_findSteady 41 = .ok (.if_icmp .eq 5, 3) := by decide +kernel
theorem dX4_findSteady_44 : decode cX4_findSteady 44 = .ok (.iload_n 2, 1) := by decide +kernel
theorem dX4_findSteady_45 : decode cX4_findSteady 45 = .ok (.istore_n 1, 1) := by decide +kernel
theorem dX4_findSteady_46 : decode cX4_findSteady 46 = .ok (.aload_n 0, 1) := by decide +kernel
theorem dX4_findSteady_47 : decode cX4_findSteady 47 = .ok (.getfield 27, 3) := by decide +kernel
theorem dX4_findSteady_50 : decode cX4_findSteady 50 = .ok (.iload_n 2, 1) := by decide +kernel
theorem dX4_findSteady_51 : decode cX4_findSteady 51 = .ok (.invokevirtual 67, 3) := by decide +kernel
theorem dX4_findSteady_54 : decode cX4_findSteady 54 = .ok (.ifCond .eq 29, 3) := by decide +kernel
theorem dX4_findSteady_57 : decode cX4_findSteady 57 = .ok (.iload_n 2, 1) := by decide +kernel
theorem dX4_findSteady_58 : decode cX4_findSteady 58 = .ok (.iload_n 1, 1) := by decide +kernel
theorem dX4_findSteady_59 : decode cX4_findSteady 59 = .ok (.isub, 1) := by decide +kernel
theorem dX4_findSteady_60 : decode cX4_findSteady 60 = .ok (.iconst 1, 1) := by decide +kernel
theorem dX4_findSteady_61 : decode cX4_findSteady 61 = .ok (.iadd, 1) := by decide +kernel
theorem dX4_findSteady_62 : decode cX4_findSteady 62 = .ok (.aload_n 0, 1) := by decide +kernel
theorem dX4_findSteady_63 : decode cX4_findSteady 63 = .ok (.getfield 64, 3) := by decide +kernel
theorem dX4_findSteady_66 : decode cX4_findSteady 66 = .ok (.if_icmp .le 17, 3) := by decide +kernel
theorem dX4_findSteady_69 : decode cX4_findSteady 69 = .ok (.aload_n 0, 1) := by decide +kernel
theorem dX4_findSteady_70 : decode cX4_findSteady 70 = .ok (.iload_n 1, 1) := by decide +kernel
theorem dX4_findSteady_71 : decode cX4_findSteady 71 = .ok (.putfield 61, 3) := by decide +kernel
theorem dX4_findSteady_74 : decode cX4_findSteady 74 = .ok (.aload_n 0, 1) := by decide +kernel
theorem dX4_findSteady_75 : decode cX4_findSteady 75 = .ok (.iload_n 2, 1) := by decide +kernel
theorem dX4_findSteady_76 : decode cX4_findSteady 76 = .ok (.iload_n 1, 1) := by decide +kernel
theorem dX4_findSteady_77 : decode cX4_findSteady 77 = .ok (.isub, 1) := by decide +kernel
theorem dX4_findSteady_78 : decode cX4_findSteady 78 = .ok (.iconst 1, 1) := by decide +kernel
theorem dX4_findSteady_79 : decode cX4_findSteady 79 = .ok (.iadd, 1) := by decide +kernel
theorem dX4_findSteady_80 : decode cX4_findSteady 80 = .ok (.putfield 64, 3) := by decide +kernel
theorem dX4_findSteady_83 : decode cX4_findSteady 83 = .ok (.iinc 2 1, 3) := by decide +kernel
theorem dX4_findSteady_86 : decode cX4_findSteady 86 = .ok (.goto (-72), 3) := by decide +kernel
theorem dX4_findSteady_89 : decode cX4_findSteady 89 = .ok (.return_, 1) := by decide +kernel
theorem dX5_init_0 : decode cX5_init 0 = .ok (.aload_n 0, 1) := by decide +kernel
theorem dX5_init_1 : decode cX5_init 1 = .ok (.invokespecial 3, 3) := by decide +kernel
theorem dX5_init_4 : decode cX5_init 4 = .ok (.aload_n 0, 1) := by decide +kernel
theorem dX5_init_5 : decode cX5_init 5 = .ok (.new 9, 3) := by decide +kernel
theorem dX5_init_8 : decode cX5_init 8 = .ok (.dup, 1) := by decide +kernel
theorem dX5_init_9 : decode cX5_init 9 = .ok (.invokespecial 11, 3) := by decide +kernel
theorem dX5_init_12 : decode cX5_init 12 = .ok (.putfield 12, 3) := by decide +kernel
theorem dX5_init_15 : decode cX5_init 15 = .ok (.aload_n 0, 1) := by decide +kernel
theorem dX5_init_16 : decode cX5_init 16 = .ok (.new 9, 3) := by decide +kernel
theorem dX5_init_19 : decode cX5_init 19 = .ok (.dup, 1) := by decide +kernel
theorem dX5_init_20 : decode cX5_init 20 = .ok (.invokespecial 11, 3) := by decide +kernel
theorem dX5_init_23 : decode cX5_init 23 = .ok (.putfield 18, 3) := by decide +kernel
theorem dX5_init_26 : decode cX5_init 26 = .ok (.aload_n 0, 1) := by decide +kernel
theorem dX5_init_27 : decode cX5_init 27 = .ok (.sipush 600, 3) := by decide +kernel
theorem dX5_init_30 : decode cX5_init 30 = .ok (.newarray .int, 2) := by decide +kernel
theorem dX5_init_32 : decode cX5_init 32 = .ok (.putfield 21, 3) := by decide +kernel
theorem dX5_init_35 : decode cX5_init 35 = .ok (.aload_n 0, 1) := by decide +kernel
theorem dX5_init_36 : decode cX5_init 36 = .ok (.sipush 600, 3) := by decide +kernel
theorem dX5_init_39 : decode cX5_init 39 = .ok (.newarray .int, 2) := by decide +kernel
theorem dX5_init_41 : decode cX5_init 41 = .ok (.putfield 25, 3) := by decide +kernel
theorem dX5_init_44 : decode cX5_init 44 = .ok (.aload_n 0, 1) := by decide +kernel
theorem dX5_init_45 : decode cX5_init 45 = .ok (.sipush 600, 3) := by decide +kernel
theorem dX5_init_48 : decode cX5_init 48 = .ok (.newarray .int, 2) := by decide +kernel
theorem dX5_init_50 : decode cX5_init 50 = .ok (.putfield 28, 3) := by decide +kernel
theorem dX5_init_53 : decode cX5_init 53 = .ok (.aload_n 0, 1) := by decide +kernel
theorem dX5_init_54 : decode cX5_init 54 = .ok (.sipush 600, 3) := by decide +kernel
theorem dX5_init_57 : decode cX5_init 57 = .ok (.newarray .int, 2) := by decide +kernel
theorem dX5_init_59 : decode cX5_init 59 = .ok (.putfield 31, 3) := by decide +kernel
theorem dX5_init_62 : decode cX5_init 62 = .ok (.aload_n 0, 1) := by decide +kernel
theorem dX5_init_63 : decode cX5_init 63 = .ok (.bipush 100, 2) := by decide +kernel
theorem dX5_init_65 : decode cX5_init 65 = .ok (.newarray .int, 2) := by decide +kernel
theorem dX5_init_67 : decode cX5_init 67 = .ok (.putfield 34, 3) := by decide +kernel
theorem dX5_init_70 : decode cX5_init 70 = .ok (.aload_n 0, 1) := by decide +kernel
theorem dX5_init_71 : decode cX5_init 71 = .ok (.bipush 100, 2) := by decide +kernel
theorem dX5_init_73 : decode cX5_init 73 = .ok (.newarray .int, 2) := by decide +kernel
theorem dX5_init_75 : decode cX5_init 75 = .ok (.putfield 37, 3) := by decide +kernel
theorem dX5_init_78 : decode cX5_init 78 = .ok (.aload_n 0, 1) := by decide +kernel
theorem dX5_init_79 : decode cX5_init 79 = .ok (.bipush 6, 2) := by decide +kernel
theorem dX5_init_81 : decode cX5_init 81 = .ok (.newarray .int, 2) := by decide +kernel
theorem dX5_init_83 : decode cX5_init 83 = .ok (.putfield 40, 3) := by decide +kernel
theorem dX5_init_86 : decode cX5_init 86 = .ok (.aload_n 0, 1) := by decide +kernel
theorem dX5_init_87 : decode cX5_init 87 = .ok (.bipush 6, 2) := by decide +kernel
theorem dX5_init_89 : decode cX5_init 89 = .ok (.newarray .int, 2) := by decide +kernel
theorem dX5_init_91 : decode cX5_init 91 = .ok (.putfield 43, 3) := by decide +kernel
theorem dX5_init_94 : decode cX5_init 94 = .ok (.aload_n 0, 1) := by decide +kernel
theorem dX5_init_95 : decode cX5_init 95 = .ok (.aload_n 1, 1) := by decide +kernel
theorem dX5_init_96 : decode cX5_init 96 = .ok (.putfield 46, 3) := by decide +kernel
theorem dX5_init_99 : decode cX5_init 99 = .ok (.aload_n 0, 1) := by decide +kernel
theorem dX5_init_100 : decode cX5_init 100 = .ok (.aload_n 2, 1) := by decide +kernel
theorem dX5_init_101 : decode cX5_init 101 = .ok (.putfield 50, 3) := by decide +kernel
theorem dX5_init_104 : decode cX5_init 104 = .ok (.return_, 1) := by decide +kernel
theorem dX5_find_0 : decode cX5_find 0 = .ok (.aload_n 0, 1) := by decide +kernel
theorem dX5_find_1 : decode cX5_find 1 = .ok (.aload_n 0, 1) := by decide +kernel
theorem dX5_find_2 : decode cX5_find 2 = .ok (.getfield 46, 3) := by decide +kernel
theorem dX5_find_5 : decode cX5_find 5 = .ok (.invokevirtual 54, 3) := by decide +kernel
theorem dX5_find_8 : decode cX5_find 8 = .ok (.putfield 60, 3) := by decide +kernel
theorem dX5_find_11 : decode cX5_find 11 = .ok (.aload_n 0, 1) := by decide +kernel
theorem dX5_find_12 : decode cX5_find 12 = .ok (.getfield 12, 3) := by decide +kernel
theorem dX5_find_15 : decode cX5_find 15 = .ok (.aload_n 0, 1) := by decide +kernel
theorem dX5_find_16 : decode cX5_find 16 = .ok (.getfield 50, 3) := by decide +kernel
theorem dX5_find_19 : decode cX5_find 19 = .ok (.invokevirtual 64, 3) := by decide +kernel
theorem dX5_find_22 : decode cX5_find 22 = .ok (.iconst 0, 1) := by decide +kernel
theorem dX5_find_23 : decode cX5_find 23 = .ok (.istore_n 1, 1) := by decide +kernel
theorem dX5_find_24 : decode cX5_find 24 = .ok (.iload_n 1, 1) := by decide +kernel
theorem dX5_find_25 : decode cX5_find 25 = .ok (.aload_n 0, 1) := by decide +kernel
theorem dX5_find_26 : decode cX5_find 26 = .ok (.getfield 60, 3) := by decide +kernel
theorem dX5_find_29 : decode cX5_find 29 = .ok (.if_icmp .ge 19, 3) := by decide +kernel
theorem dX5_find_32 : decode cX5_find 32 = .ok (.aload_n 0, 1) := by decide +kernel
theorem dX5_find_33 : decode cX5_find 33 = .ok (.iload_n 1, 1) := by decide +kernel
theorem dX5_find_34 : decode cX5_find 34 = .ok (.invokevirtual 68, 3) := by decide +kernel
theorem dX5_find_37 : decode cX5_find 37 = .ok (.aload_n 0, 1) := by decide +kernel
theorem dX5_find_38 : decode cX5_find 38 = .ok (.iload_n 1, 1) := by decide +kernel
theorem dX5_find_39 : decode cX5_find 39 = .ok (.invokevirtual 72, 3) := by decide +kernel
theorem dX5_find_42 : decode cX5_find 42 = .ok (.iinc 1 1, 3) := by decide +kernel
theorem dX5_find_45 : decode cX5_find 45 = .ok (.goto (-21), 3) := by decide +kernel
theorem dX5_find_48 : decode cX5_find 48 = .ok (.aload_n 0, 1) := by decide +kernel
theorem dX5_find_49 : decode cX5_find 49 = .ok (.getfield 60, 3) := by decide +kernel
theorem dX5_find_52 : decode cX5_find 52 = .ok (.iconst 1, 1) := by decide +kernel
theorem dX5_find_53 : decode cX5_find 53 = .ok (.isub, 1) := by decide +kernel
theorem dX5_find_54 : decode cX5_find 54 = .ok (.istore_n 1, 1) := by decide +kernel
theorem dX5_find_55 : decode cX5_find 55 = .ok (.iload_n 1, 1) := by decide +kernel
theorem dX5_find_56 : decode cX5_find 56 = .ok (.ifCond .lt 14, 3) := by decide +kernel
theorem dX5_find_59 : decode cX5_find 59 = .ok (.aload_n 0, 1) := by decide +kernel
theorem dX5_find_60 : decode cX5_find 60 = .ok (.iload_n 1, 1) := by decide +kernel
theorem dX5_find_61 : decode cX5_find 61 = .ok (.invokevirtual 75, 3) := by decide +kernel
theorem dX5_find_64 : decode cX5_find 64 = .ok (.iinc 1 (-1), 3) := by decide +kernel
theorem dX5_find_67 : decode cX5_find 67 = .ok (.goto (-12), 3) := by decide +kernel
theorem dX5_find_70 : decode cX5_find 70 = .ok (.aload_n 0, 1) := by decide +kernel
theorem dX5_find_71 : decode cX5_find 71 = .ok (.getfield 60, 3) := by decide +kernel
theorem dX5_find_74 : decode cX5_find 74 = .ok (.ifCond .ne 7, 3) := by decide +kernel
theorem dX5_find_77 : decode cX5_find 77 = .ok (.iconst 0, 1) := by decide +kernel
theorem dX5_find_78 : decode cX5_find 78 = .ok (.goto 13, 3) := by decide +kernel
theorem dX5_find_81 : decode cX5_find 81 = .ok (.aload_n 0, 1) := by decide +kernel
theorem dX5_find_82 : decode cX5_find 82 = .ok (.aload_n 0, 1) := by decide +kernel
theorem dX5_find_83 : decode cX5_find 83 = .ok (.getfield 60, 3) := by decide +kernel
theorem dX5_find_86 : decode cX5_find 86 = .ok (.iconst 1, 1) := by decide +kernel
theorem dX5_find_87 : decode cX5_find 87 = .ok (.isub, 1) := by decide +kernel
theorem dX5_find_88 : decode cX5_find 88 = .ok (.invokevirtual 78, 3) := by decide +kernel
theorem dX5_find_91 : decode cX5_find 91 = .ok (.istore_n 1, 1) := by decide +kernel
theorem dX5_find_92 : decode cX5_find 92 = .ok (.aload_n 0, 1) := by decide +kernel
theorem dX5_find_93 : decode cX5_find 93 = .ok (.getfield 60, 3) := by decide +kernel
theorem dX5_find_96 : decode cX5_find 96 = .ok (.iconst 1, 1) := by decide +kernel
theorem dX5_find_97 : decode cX5_find 97 = .ok (.isub, 1) := by decide +kernel
theorem dX5_find_98 : decode cX5_find 98 = .ok (.istore_n 2, 1) := by decide +kernel
theorem dX5_find_99 : decode cX5_find 99 = .ok (.iload_n 2, 1) := by decide +kernel
theorem dX5_find_100 : decode cX5_find 100 = .ok (.ifCond .lt 38, 3) := by decide +kernel
theorem dX5_find_103 : decode cX5_find 103 = .ok (.aload_n 0, 1) := by decide +kernel
theorem dX5_find_104 : decode cX5_find 104 = .ok (.getfield 34, 3) := by decide +kernel
theorem dX5_find_107 : decode cX5_find 107 = .ok (.iload_n 2, 1) := by decide +kernel
theorem dX5_find_108 : decode cX5_find 108 = .ok (.iload_n 1, 1) := by decide +kernel
theorem dX5_find_109 : decode cX5_find 109 = .ok (.iastore, 1) := by decide +kernel
theorem dX5_find_110 : decode cX5_find 110 = .ok (.aload_n 0, 1) := by decide +kernel
theorem dX5_find_111 : decode cX5_find 111 = .ok (.getfield 37, 3) := by decide +kernel
theorem dX5_find_114 : decode cX5_find 114 = .ok (.iload_n 2, 1) := by decide +kernel
theorem dX5_find_115 : decode cX5_find 115 = .ok (.aload_n 0, 1) := by decide +kernel
theorem dX5_find_116 : decode cX5_find 116 = .ok (.getfield 46, 3) := by decide +kernel
theorem dX5_find_119 : decode cX5_find 119 = .ok (.iload_n 2, 1) := by decide +kernel
theorem dX5_find_120 : decode cX5_find 120 = .ok (.iload_n 1, 1) := by decide +kernel
theorem dX5_find_121 : decode cX5_find 121 = .ok (.invokevirtual 82, 3) := by decide +kernel
theorem dX5_find_124 : decode cX5_find 124 = .ok (.iastore, 1) := by decide +kernel
theorem dX5_find_125 : decode cX5_find 125 = .ok (.aload_n 0, 1) := by decide +kernel
theorem dX5_find_126 : decode cX5_find 126 = .ok (.iload_n 2, 1) := by decide +kernel
theorem dX5_find_127 : decode cX5_find 127 = .ok (.iload_n 1, 1) := by decide +kernel
theorem dX5_find_128 : decode cX5_find 128 = .ok (.invokevirtual 86, 3) := by decide +kernel
theorem dX5_find_131 : decode cX5_find 131 = .ok (.istore_n 1, 1) := by decide +kernel
theorem dX5_find_132 : decode cX5_find 132 = .ok (.iinc 2 (-1), 3) := by decide +kernel
theorem dX5_find_135 : decode cX5_find 135 = .ok (.goto (-36), 3) := by decide +kernel
theorem dX5_find_138 : decode cX5_find 138 = .ok (.return_, 1) := by decide +kernel
theorem dX5_size_0 : decode cX5_size 0 = .ok (.aload_n 0, 1) := by decide +kernel
theorem dX5_size_1 : decode cX5_size 1 = .ok (.getfield 60, 3) := by decide +kernel
theorem dX5_size_4 : decode cX5_size 4 = .ok (.ireturn, 1) := by decide +kernel
theorem dX5_chosenIn_0 : decode cX5_chosenIn 0 = .ok (.iload_n 1, 1) := by decide +kernel
theorem dX5_chosenIn_1 : decode cX5_chosenIn 1 = .ok (.ifCond .lt 11, 3) := by decide +kernel
theorem dX5_chosenIn_4 : decode cX5_chosenIn 4 = .ok (.iload_n 1, 1) := by decide +kernel
theorem dX5_chosenIn_5 : decode cX5_chosenIn 5 = .ok (.aload_n 0, 1) := by decide +kernel
theorem dX5_chosenIn_6 : decode cX5_chosenIn 6 = .ok (.getfield 60, 3) := by decide +kernel
theorem dX5_chosenIn_9 : decode cX5_chosenIn 9 = .ok (.if_icmp .lt 7, 3) := by decide +kernel
theorem dX5_chosenIn_12 : decode cX5_chosenIn 12 = .ok (.iconst 0, 1) := by decide +kernel
theorem dX5_chosenIn_13 : decode cX5_chosenIn 13 = .ok (.goto 9, 3) := by decide +kernel
theorem dX5_chosenIn_16 : decode cX5_chosenIn 16 = .ok (.aload_n 0, 1) := by decide +kernel
theorem dX5_chosenIn_17 : decode cX5_chosenIn 17 = .ok (.getfield 34, 3) := by decide +kernel
theorem dX5_chosenIn_20 : decode cX5_chosenIn 20 = .ok (.iload_n 1, 1) := by decide +kernel
theorem dX5_chosenIn_21 : decode cX5_chosenIn 21 = .ok (.iaload, 1) := by decide +kernel
theorem dX5_chosenIn_22 : decode cX5_chosenIn 22 = .ok (.ireturn, 1) := by decide +kernel
theorem dX5_lagIn_0 : decode cX5_lagIn 0 = .ok (.iload_n 1, 1) := by decide +kernel
theorem dX5_lagIn_1 : decode cX5_lagIn 1 = .ok (.ifCond .lt 11, 3) := by decide +kernel
theorem dX5_lagIn_4 : decode cX5_lagIn 4 = .ok (.iload_n 1, 1) := by decide +kernel
theorem dX5_lagIn_5 : decode cX5_lagIn 5 = .ok (.aload_n 0, 1) := by decide +kernel
theorem dX5_lagIn_6 : decode cX5_lagIn 6 = .ok (.getfield 60, 3) := by decide +kernel
theorem dX5_lagIn_9 : decode cX5_lagIn 9 = .ok (.if_icmp .lt 7, 3) := by decide +kernel
theorem dX5_lagIn_12 : decode cX5_lagIn 12 = .ok (.iconst 0, 1) := by decide +kernel
theorem dX5_lagIn_13 : decode cX5_lagIn 13 = .ok (.goto 9, 3) := by decide +kernel
theorem dX5_lagIn_16 : decode cX5_lagIn 16 = .ok (.aload_n 0, 1) := by decide +kernel
theorem dX5_lagIn_17 : decode cX5_lagIn 17 = .ok (.getfield 37, 3) := by decide +kernel
theorem dX5_lagIn_20 : decode cX5_lagIn 20 = .ok (.iload_n 1, 1) := by decide +kernel
theorem dX5_lagIn_21 : decode cX5_lagIn 21 = .ok (.iaload, 1) := by decide +kernel
theorem dX5_lagIn_22 : decode cX5_lagIn 22 = .ok (.ireturn, 1) := by decide +kernel
theorem dX5_priceOf_0 : decode cX5_priceOf 0 = .ok (.iload_n 1, 1) := by decide +kernel
theorem dX5_priceOf_1 : decode cX5_priceOf 1 = .ok (.tableswitch 84 1 4 #[31, 36, 52, 68], 31) := by decide +kernel
theorem dX5_priceOf_32 : decode cX5_priceOf 32 = .ok (.aload_n 0, 1) := by decide +kernel
theorem dX5_priceOf_33 : decode cX5_priceOf 33 = .ok (.invokevirtual 89, 3) := by decide +kernel
theorem dX5_priceOf_36 : decode cX5_priceOf 36 = .ok (.ireturn, 1) := by decide +kernel
theorem dX5_priceOf_37 : decode cX5_priceOf 37 = .ok (.aload_n 0, 1) := by decide +kernel
theorem dX5_priceOf_38 : decode cX5_priceOf 38 = .ok (.aload_n 0, 1) := by decide +kernel
theorem dX5_priceOf_39 : decode cX5_priceOf 39 = .ok (.getfield 50, 3) := by decide +kernel
theorem dX5_priceOf_42 : decode cX5_priceOf 42 = .ok (.bipush 10, 2) := by decide +kernel
theorem dX5_priceOf_44 : decode cX5_priceOf 44 = .ok (.invokevirtual 94, 3) := by decide +kernel
theorem dX5_priceOf_47 : decode cX5_priceOf 47 = .ok (.iconst 0, 1) := by decide +kernel
theorem dX5_priceOf_48 : decode cX5_priceOf 48 = .ok (.iconst 0, 1) := by decide +kernel
theorem dX5_priceOf_49 : decode cX5_priceOf 49 = .ok (.invokevirtual 97, 3) := by decide +kernel
theorem dX5_priceOf_52 : decode cX5_priceOf 52 = .ok (.ireturn, 1) := by decide +kernel
theorem dX5_priceOf_53 : decode cX5_priceOf 53 = .ok (.aload_n 0, 1) := by decide +kernel
theorem dX5_priceOf_54 : decode cX5_priceOf 54 = .ok (.iconst 0, 1) := by decide +kernel
theorem dX5_priceOf_55 : decode cX5_priceOf 55 = .ok (.aload_n 0, 1) := by decide +kernel
theorem dX5_priceOf_56 : decode cX5_priceOf 56 = .ok (.getfield 50, 3) := by decide +kernel
theorem dX5_priceOf_59 : decode cX5_priceOf 59 = .ok (.bipush 11, 2) := by decide +kernel
theorem dX5_priceOf_61 : decode cX5_priceOf 61 = .ok (.invokevirtual 94, 3) := by decide +kernel
theorem dX5_priceOf_64 : decode cX5_priceOf 64 = .ok (.iconst 0, 1) := by decide +kernel
theorem dX5_priceOf_65 : decode cX5_priceOf 65 = .ok (.invokevirtual 97, 3) := by decide +kernel
theorem dX5_priceOf_68 : decode cX5_priceOf 68 = .ok (.ireturn, 1) := by decide +kernel
theorem dX5_priceOf_69 : decode cX5_priceOf 69 = .ok (.aload_n 0, 1) := by decide +kernel
theorem dX5_priceOf_70 : decode cX5_priceOf 70 = .ok (.iconst 0, 1) := by decide +kernel
theorem dX5_priceOf_71 : decode cX5_priceOf 71 = .ok (.iconst 0, 1) := by decide +kernel
theorem dX5_priceOf_72 : decode cX5_priceOf 72 = .ok (.aload_n 0, 1) := by decide +kernel
theorem dX5_priceOf_73 : decode cX5_priceOf 73 = .ok (.getfield 50, 3) := by decide +kernel
theorem dX5_priceOf_76 : decode cX5_priceOf 76 = .ok (.bipush 12, 2) := by decide +kernel
theorem dX5_priceOf_78 : decode cX5_priceOf 78 = .ok (.invokevirtual 94, 3) := by decide +kernel
theorem dX5_priceOf_81 : decode cX5_priceOf 81 = .ok (.invokevirtual 97, 3) := by decide +kernel
theorem dX5_priceOf_84 : decode cX5_priceOf 84 = .ok (.ireturn, 1) := by decide +kernel
theorem dX5_priceOf_85 : decode cX5_priceOf 85 = .ok (.aload_n 0, 1) := by decide +kernel
theorem dX5_priceOf_86 : decode cX5_priceOf 86 = .ok (.invokevirtual 89, 3) := by decide +kernel
theorem dX5_priceOf_89 : decode cX5_priceOf 89 = .ok (.aload_n 0, 1) := by decide +kernel
theorem dX5_priceOf_90 : decode cX5_priceOf 90 = .ok (.aload_n 0, 1) := by decide +kernel
theorem dX5_priceOf_91 : decode cX5_priceOf 91 = .ok (.getfield 50, 3) := by decide +kernel
theorem dX5_priceOf_94 : decode cX5_priceOf 94 = .ok (.bipush 10, 2) := by decide +kernel
theorem dX5_priceOf_96 : decode cX5_priceOf 96 = .ok (.invokevirtual 94, 3) := by decide +kernel
theorem dX5_priceOf_99 : decode cX5_priceOf 99 = .ok (.aload_n 0, 1) := by decide +kernel
theorem dX5_priceOf_100 : decode cX5_priceOf 100 = .ok (.getfield 50, 3) := by decide +kernel
theorem dX5_priceOf_103 : decode cX5_priceOf 103 = .ok (.bipush 11, 2) := by decide +kernel
theorem dX5_priceOf_105 : decode cX5_priceOf 105 = .ok (.invokevirtual 94, 3) := by decide +kernel
theorem dX5_priceOf_108 : decode cX5_priceOf 108 = .ok (.aload_n 0, 1) := by decide +kernel
theorem dX5_priceOf_109 : decode cX5_priceOf 109 = .ok (.getfield 50, 3) := by decide +kernel
theorem dX5_priceOf_112 : decode cX5_priceOf 112 = .ok (.bipush 12, 2) := by decide +kernel
theorem dX5_priceOf_114 : decode cX5_priceOf 114 = .ok (.invokevirtual 94, 3) := by decide +kernel
theorem dX5_priceOf_117 : decode cX5_priceOf 117 = .ok (.invokevirtual 97, 3) := by decide +kernel
theorem dX5_priceOf_120 : decode cX5_priceOf 120 = .ok (.iadd, 1) := by decide +kernel
theorem dX5_priceOf_121 : decode cX5_priceOf 121 = .ok (.ireturn, 1) := by decide +kernel
theorem dX5_doublesChosen_0 : decode cX5_doublesChosen 0 = .ok (.iconst 0, 1) := by decide +kernel
theorem dX5_doublesChosen_1 : decode cX5_doublesChosen 1 = .ok (.istore_n 1, 1) := by decide +kernel
theorem dX5_doublesChosen_2 : decode cX5_doublesChosen 2 = .ok (.iconst 0, 1) := by decide +kernel
theorem dX5_doublesChosen_3 : decode cX5_doublesChosen 3 = .ok (.istore_n 2, 1) := by decide +kernel
theorem dX5_doublesChosen_4 : decode cX5_doublesChosen 4 = .ok (.iload_n 2, 1) := by decide +kernel
theorem dX5_doublesChosen_5 : decode cX5_doublesChosen 5 = .ok (.aload_n 0, 1) := by decide +kernel
theorem dX5_doublesChosen_6 : decode cX5_doublesChosen 6 = .ok (.getfield 60, 3) := by decide +kernel
theorem dX5_doublesChosen_9 : decode cX5_doublesChosen 9 = .ok (.if_icmp .ge 30, 3) := by decide +kernel
theorem dX5_doublesChosen_12 : decode cX5_doublesChosen 12 = .ok (.aload_n 0, 1) := by decide +kernel
theorem dX5_doublesChosen_13 : decode cX5_doublesChosen 13 = .ok (.getfield 46, 3) := by decide +kernel
theorem dX5_doublesChosen_16 : decode cX5_doublesChosen 16 = .ok (.iload_n 2, 1) := by decide +kernel
theorem dX5_doublesChosen_17 : decode cX5_doublesChosen 17 = .ok (.aload_n 0, 1) := by decide +kernel
theorem dX5_doublesChosen_18 : decode cX5_doublesChosen 18 = .ok (.getfield 34, 3) := by decide +kernel
theorem dX5_doublesChosen_21 : decode cX5_doublesChosen 21 = .ok (.iload_n 2, 1) := by decide +kernel
theorem dX5_doublesChosen_22 : decode cX5_doublesChosen 22 = .ok (.iaload, 1) := by decide +kernel
theorem dX5_doublesChosen_23 : decode cX5_doublesChosen 23 = .ok (.invokevirtual 101, 3) := by decide +kernel
theorem dX5_doublesChosen_26 : decode cX5_doublesChosen 26 = .ok (.iconst (-1), 1) := by decide +kernel
theorem dX5_doublesChosen_27 : decode cX5_doublesChosen 27 = .ok (.if_icmp .eq 6, 3) := by decide +kernel
theorem dX5_doublesChosen_30 : decode cX5_doublesChosen 30 = .ok (.iinc 1 1, 3) := by decide +kernel
theorem dX5_doublesChosen_33 : decode cX5_doublesChosen 33 = .ok (.iinc 2 1, 3) := by decide +kernel
theorem dX5_doublesChosen_36 : decode cX5_doublesChosen 36 = .ok (.goto (-32), 3) := by decide +kernel
theorem dX5_doublesChosen_39 : decode cX5_doublesChosen 39 = .ok (.iload_n 1, 1) := by decide +kernel
theorem dX5_doublesChosen_40 : decode cX5_doublesChosen 40 = .ok (.ireturn, 1) := by decide +kernel
theorem dX5_leastThrough_0 : decode cX5_leastThrough 0 = .ok (.aload_n 0, 1) := by decide +kernel
theorem dX5_leastThrough_1 : decode cX5_leastThrough 1 = .ok (.getfield 46, 3) := by decide +kernel
theorem dX5_leastThrough_4 : decode cX5_leastThrough 4 = .ok (.iload_n 1, 1) := by decide +kernel
theorem dX5_leastThrough_5 : decode cX5_leastThrough 5 = .ok (.iload_n 2, 1) := by decide +kernel
theorem dX5_leastThrough_6 : decode cX5_leastThrough 6 = .ok (.invokevirtual 104, 3) := by decide +kernel
theorem dX5_leastThrough_9 : decode cX5_leastThrough 9 = .ok (.ifCond .ne 5, 3) := by decide +kernel
theorem dX5_leastThrough_12 : decode cX5_leastThrough 12 = .ok (.iconst 0, 1) := by decide +kernel
theorem dX5_leastThrough_13 : decode cX5_leastThrough 13 = .ok (.ireturn, 1) := by decide +kernel
theorem dX5_leastThrough_14 : decode cX5_leastThrough 14 = .ok (.aload_n 0, 1) := by decide +kernel
theorem dX5_leastThrough_15 : decode cX5_leastThrough 15 = .ok (.getfield 21, 3) := by decide +kernel
theorem dX5_leastThrough_18 : decode cX5_leastThrough 18 = .ok (.iload_n 1, 1) := by decide +kernel
theorem dX5_leastThrough_19 : decode cX5_leastThrough 19 = .ok (.iload_n 2, 1) := by decide +kernel
theorem dX5_leastThrough_20 : decode cX5_leastThrough 20 = .ok (.invokestatic 108, 3) := by decide +kernel
theorem dX5_leastThrough_23 : decode cX5_leastThrough 23 = .ok (.iaload, 1) := by decide +kernel
theorem dX5_leastThrough_24 : decode cX5_leastThrough 24 = .ok (.aload_n 0, 1) := by decide +kernel
theorem dX5_leastThrough_25 : decode cX5_leastThrough 25 = .ok (.getfield 31, 3) := by decide +kernel
theorem dX5_leastThrough_28 : decode cX5_leastThrough 28 = .ok (.iload_n 1, 1) := by decide +kernel
theorem dX5_leastThrough_29 : decode cX5_leastThrough 29 = .ok (.iload_n 2, 1) := by decide +kernel
theorem dX5_leastThrough_30 : decode cX5_leastThrough 30 = .ok (.invokestatic 108, 3) := by decide +kernel
theorem dX5_leastThrough_33 : decode cX5_leastThrough 33 = .ok (.iaload, 1) := by decide +kernel
theorem dX5_leastThrough_34 : decode cX5_leastThrough 34 = .ok (.iadd, 1) := by decide +kernel
theorem dX5_leastThrough_35 : decode cX5_leastThrough 35 = .ok (.aload_n 0, 1) := by decide +kernel
theorem dX5_leastThrough_36 : decode cX5_leastThrough 36 = .ok (.getfield 46, 3) := by decide +kernel
theorem dX5_leastThrough_39 : decode cX5_leastThrough 39 = .ok (.iload_n 1, 1) := by decide +kernel
theorem dX5_leastThrough_40 : decode cX5_leastThrough 40 = .ok (.iload_n 2, 1) := by decide +kernel
theorem dX5_leastThrough_41 : decode cX5_leastThrough 41 = .ok (.invokevirtual 111, 3) := by decide +kernel
theorem dX5_leastThrough_44 : decode cX5_leastThrough 44 = .ok (.isub, 1) := by decide +kernel
theorem dX5_leastThrough_45 : decode cX5_leastThrough 45 = .ok (.ireturn, 1) := by decide +kernel
theorem dX5_leastThroughTwo_0 : decode cX5_leastThroughTwo 0 = .ok (.aload_n 0, 1) := by decide +kernel
theorem dX5_leastThroughTwo_1 : decode cX5_leastThroughTwo 1 = .ok (.getfield 46, 3) := by decide +kernel
theorem dX5_leastThroughTwo_4 : decode cX5_leastThroughTwo 4 = .ok (.iload_n 1, 1) := by decide +kernel
theorem dX5_leastThroughTwo_5 : decode cX5_leastThroughTwo 5 = .ok (.iload_n 2, 1) := by decide +kernel
theorem dX5_leastThroughTwo_6 : decode cX5_leastThroughTwo 6 = .ok (.invokevirtual 104, 3) := by decide +kernel
theorem dX5_leastThroughTwo_9 : decode cX5_leastThroughTwo 9 = .ok (.ifCond .eq 16, 3) := by decide +kernel
theorem dX5_leastThroughTwo_12 : decode cX5_leastThroughTwo 12 = .ok (.aload_n 0, 1) := by decide +kernel
theorem dX5_leastThroughTwo_13 : decode cX5_leastThroughTwo 13 = .ok (.getfield 46, 3) := by decide +kernel
theorem dX5_leastThroughTwo_16 : decode cX5_leastThroughTwo 16 = .ok (.iload_n 3, 1) := by decide +kernel
theorem dX5_leastThroughTwo_17 : decode cX5_leastThroughTwo 17 = .ok (.iload 4, 2) := by decide +kernel
theorem dX5_leastThroughTwo_19 : decode cX5_leastThroughTwo 19 = .ok (.invokevirtual 104, 3) := by decide +kernel
theorem dX5_leastThroughTwo_22 : decode cX5_leastThroughTwo 22 = .ok (.ifCond .ne 5, 3) := by decide +kernel
theorem dX5_leastThroughTwo_25 : decode cX5_leastThroughTwo 25 = .ok (.iconst 0, 1) := by decide +kernel
theorem dX5_leastThroughTwo_26 : decode cX5_leastThroughTwo 26 = .ok (.ireturn, 1) := by decide +kernel
theorem dX5_leastThroughTwo_27 : decode cX5_leastThroughTwo 27 = .ok (.iconst 0, 1) := by decide +kernel
theorem dX5_leastThroughTwo_28 : decode cX5_leastThroughTwo 28 = .ok (.istore 5, 2) := by decide +kernel
theorem dX5_leastThroughTwo_30 : decode cX5_leastThroughTwo 30 = .ok (.iload 5, 2) := by decide +kernel
theorem dX5_leastThroughTwo_32 : decode cX5_leastThroughTwo 32 = .ok (.aload_n 0, 1) := by decide +kernel
theorem dX5_leastThroughTwo_33 : decode cX5_leastThroughTwo 33 = .ok (.getfield 46, 3) := by decide +kernel
theorem dX5_leastThroughTwo_36 : decode cX5_leastThroughTwo 36 = .ok (.iload_n 1, 1) := by decide +kernel
theorem dX5_leastThroughTwo_37 : decode cX5_leastThroughTwo 37 = .ok (.invokevirtual 114, 3) := by decide +kernel
theorem dX5_leastThroughTwo_40 : decode cX5_leastThroughTwo 40 = .ok (.if_icmp .ge 37, 3) := by decide +kernel
theorem dX5_leastThroughTwo_43 : decode cX5_leastThroughTwo 43 = .ok (.aload_n 0, 1) := by decide +kernel
theorem dX5_leastThroughTwo_44 : decode cX5_leastThroughTwo 44 = .ok (.getfield 40, 3) := by decide +kernel
theorem dX5_leastThroughTwo_47 : decode cX5_leastThroughTwo 47 = .ok (.iload 5, 2) := by decide +kernel
theorem dX5_leastThroughTwo_49 : decode cX5_leastThroughTwo 49 = .ok (.iload 5, 2) := by decide +kernel
theorem dX5_leastThroughTwo_51 : decode cX5_leastThroughTwo 51 = .ok (.iload_n 2, 1) := by decide +kernel
theorem dX5_leastThroughTwo_52 : decode cX5_leastThroughTwo 52 = .ok (.if_icmp .ne 16, 3) := by decide +kernel
theorem dX5_leastThroughTwo_55 : decode cX5_leastThroughTwo 55 = .ok (.aload_n 0, 1) := by decide +kernel
theorem dX5_leastThroughTwo_56 : decode cX5_leastThroughTwo 56 = .ok (.getfield 21, 3) := by decide +kernel
theorem dX5_leastThroughTwo_59 : decode cX5_leastThroughTwo 59 = .ok (.iload_n 1, 1) := by decide +kernel
theorem dX5_leastThroughTwo_60 : decode cX5_leastThroughTwo 60 = .ok (.iload_n 2, 1) := by decide +kernel
theorem dX5_leastThroughTwo_61 : decode cX5_leastThroughTwo 61 = .ok (.invokestatic 108, 3) := by decide +kernel
theorem dX5_leastThroughTwo_64 : decode cX5_leastThroughTwo 64 = .ok (.iaload, 1) := by decide +kernel
theorem dX5_leastThroughTwo_65 : decode cX5_leastThroughTwo 65 = .ok (.goto 5, 3) := by decide +kernel
theorem dX5_leastThroughTwo_68 : decode cX5_leastThroughTwo 68 = .ok (.ldc 117, 2) := by decide +kernel
theorem dX5_leastThroughTwo_70 : decode cX5_leastThroughTwo 70 = .ok (.iastore, 1) := by decide +kernel
theorem dX5_leastThroughTwo_71 : decode cX5_leastThroughTwo 71 = .ok (.iinc 5 1, 3) := by decide +kernel
theorem dX5_leastThroughTwo_74 : decode cX5_leastThroughTwo 74 = .ok (.goto (-44), 3) := by decide +kernel
theorem dX5_leastThroughTwo_77 : decode cX5_leastThroughTwo 77 = .ok (.iload_n 1, 1) := by decide +kernel
theorem dX5_leastThroughTwo_78 : decode cX5_leastThroughTwo 78 = .ok (.iconst 1, 1) := by decide +kernel
theorem dX5_leastThroughTwo_79 : decode cX5_leastThroughTwo 79 = .ok (.iadd, 1) := by decide +kernel
theorem dX5_leastThroughTwo_80 : decode cX5_leastThroughTwo 80 = .ok (.istore 5, 2) := by decide +kernel
theorem dX5_leastThroughTwo_82 : decode cX5_leastThroughTwo 82 = .ok (.iload 5, 2) := by decide +kernel
theorem dX5_leastThroughTwo_84 : decode cX5_leastThroughTwo 84 = .ok (.iload_n 3, 1) := by decide +kernel
theorem dX5_leastThroughTwo_85 : decode cX5_leastThroughTwo 85 = .ok (.if_icmp .gt 19, 3) := by decide +kernel
theorem dX5_leastThroughTwo_88 : decode cX5_leastThroughTwo 88 = .ok (.aload_n 0, 1) := by decide +kernel
theorem dX5_leastThroughTwo_89 : decode cX5_leastThroughTwo 89 = .ok (.iload 5, 2) := by decide +kernel
theorem dX5_leastThroughTwo_91 : decode cX5_leastThroughTwo 91 = .ok (.aload_n 0, 1) := by decide +kernel
theorem dX5_leastThroughTwo_92 : decode cX5_leastThroughTwo 92 = .ok (.getfield 12, 3) := by decide +kernel
theorem dX5_leastThroughTwo_95 : decode cX5_leastThroughTwo 95 = .ok (.invokevirtual 118, 3) := by decide +kernel
theorem dX5_leastThroughTwo_98 : decode cX5_leastThroughTwo 98 = .ok (.iinc 5 1, 3) := by decide +kernel
theorem dX5_leastThroughTwo_101 : decode cX5_leastThroughTwo 101 = .ok (.goto (-19), 3) := by decide +kernel
theorem dX5_leastThroughTwo_104 : decode cX5_leastThroughTwo 104 = .ok (.aload_n 0, 1) := by decide +kernel
theorem dX5_leastThroughTwo_105 : decode cX5_leastThroughTwo 105 = .ok (.getfield 40, 3) := by decide +kernel
theorem dX5_leastThroughTwo_108 : decode cX5_leastThroughTwo 108 = .ok (.iload 4, 2) := by decide +kernel
theorem dX5_leastThroughTwo_110 : decode cX5_leastThroughTwo 110 = .ok (.iaload, 1) := by decide +kernel
theorem dX5_leastThroughTwo_111 : decode cX5_leastThroughTwo 111 = .ok (.aload_n 0, 1) := by decide +kernel
theorem dX5_leastThroughTwo_112 : decode cX5_leastThroughTwo 112 = .ok (.getfield 31, 3) := by decide +kernel
theorem dX5_leastThroughTwo_115 : decode cX5_leastThroughTwo 115 = .ok (.iload_n 3, 1) := by decide +kernel
theorem dX5_leastThroughTwo_116 : decode cX5_leastThroughTwo 116 = .ok (.iload 4, 2) := by decide +kernel
theorem dX5_leastThroughTwo_118 : decode cX5_leastThroughTwo 118 = .ok (.invokestatic 108, 3) := by decide +kernel
theorem dX5_leastThroughTwo_121 : decode cX5_leastThroughTwo 121 = .ok (.iaload, 1) := by decide +kernel
theorem dX5_leastThroughTwo_122 : decode cX5_leastThroughTwo 122 = .ok (.iadd, 1) := by decide +kernel
theorem dX5_leastThroughTwo_123 : decode cX5_leastThroughTwo 123 = .ok (.aload_n 0, 1) := by decide +kernel
theorem dX5_leastThroughTwo_124 : decode cX5_leastThroughTwo 124 = .ok (.getfield 46, 3) := by decide +kernel
theorem dX5_leastThroughTwo_127 : decode cX5_leastThroughTwo 127 = .ok (.iload_n 3, 1) := by decide +kernel
theorem dX5_leastThroughTwo_128 : decode cX5_leastThroughTwo 128 = .ok (.iload 4, 2) := by decide +kernel
theorem dX5_leastThroughTwo_130 : decode cX5_leastThroughTwo 130 = .ok (.invokevirtual 111, 3) := by decide +kernel
theorem dX5_leastThroughTwo_133 : decode cX5_leastThroughTwo 133 = .ok (.isub, 1) := by decide +kernel
theorem dX5_leastThroughTwo_134 : decode cX5_leastThroughTwo 134 = .ok (.ireturn, 1) := by decide +kernel
theorem dX5_leastWithoutDoubles_0 : decode cX5_leastWithoutDoubles 0 = .ok (.aload_n 0, 1) := by decide +kernel
theorem dX5_leastWithoutDoubles_1 : decode cX5_leastWithoutDoubles 1 = .ok (.aload_n 0, 1) := by decide +kernel
theorem dX5_leastWithoutDoubles_2 : decode cX5_leastWithoutDoubles 2 = .ok (.getfield 12, 3) := by decide +kernel
theorem dX5_leastWithoutDoubles_5 : decode cX5_leastWithoutDoubles 5 = .ok (.iconst 0, 1) := by decide +kernel
theorem dX5_leastWithoutDoubles_6 : decode cX5_leastWithoutDoubles 6 = .ok (.invokevirtual 122, 3) := by decide +kernel
theorem dX5_leastWithoutDoubles_9 : decode cX5_leastWithoutDoubles 9 = .ok (.ireturn, 1) := by decide +kernel
theorem dX5_leastWith_0 : decode cX5_leastWith 0 = .ok (.aload_n 0, 1) := by decide +kernel
theorem dX5_leastWith_1 : decode cX5_leastWith 1 = .ok (.getfield 18, 3) := by decide +kernel
theorem dX5_leastWith_4 : decode cX5_leastWith 4 = .ok (.aload_n 0, 1) := by decide +kernel
theorem dX5_leastWith_5 : decode cX5_leastWith 5 = .ok (.getfield 50, 3) := by decide +kernel
theorem dX5_leastWith_8 : decode cX5_leastWith 8 = .ok (.bipush 10, 2) := by decide +kernel
theorem dX5_leastWith_10 : decode cX5_leastWith 10 = .ok (.invokevirtual 94, 3) := by decide +kernel
theorem dX5_leastWith_13 : decode cX5_leastWith 13 = .ok (.iload_n 1, 1) := by decide +kernel
theorem dX5_leastWith_14 : decode cX5_leastWith 14 = .ok (.iload_n 2, 1) := by decide +kernel
theorem dX5_leastWith_15 : decode cX5_leastWith 15 = .ok (.invokevirtual 126, 3) := by decide +kernel
theorem dX5_leastWith_18 : decode cX5_leastWith 18 = .ok (.aload_n 0, 1) := by decide +kernel
theorem dX5_leastWith_19 : decode cX5_leastWith 19 = .ok (.aload_n 0, 1) := by decide +kernel
theorem dX5_leastWith_20 : decode cX5_leastWith 20 = .ok (.getfield 18, 3) := by decide +kernel
theorem dX5_leastWith_23 : decode cX5_leastWith 23 = .ok (.iconst 1, 1) := by decide +kernel
theorem dX5_leastWith_24 : decode cX5_leastWith 24 = .ok (.invokevirtual 122, 3) := by decide +kernel
theorem dX5_leastWith_27 : decode cX5_leastWith 27 = .ok (.ireturn, 1) := by decide +kernel
theorem dX5_chosenLive_0 : decode cX5_chosenLive 0 = .ok (.iload_n 1, 1) := by decide +kernel
theorem dX5_chosenLive_1 : decode cX5_chosenLive 1 = .ok (.iload_n 2, 1) := by decide +kernel
theorem dX5_chosenLive_2 : decode cX5_chosenLive 2 = .ok (.iadd, 1) := by decide +kernel
theorem dX5_chosenLive_3 : decode cX5_chosenLive 3 = .ok (.aload_n 0, 1) := by decide +kernel
theorem dX5_chosenLive_4 : decode cX5_chosenLive 4 = .ok (.getfield 60, 3) := by decide +kernel
theorem dX5_chosenLive_7 : decode cX5_chosenLive 7 = .ok (.iconst 1, 1) := by decide +kernel
theorem dX5_chosenLive_8 : decode cX5_chosenLive 8 = .ok (.isub, 1) := by decide +kernel
theorem dX5_chosenLive_9 : decode cX5_chosenLive 9 = .ok (.invokestatic 130, 3) := by decide +kernel
theorem dX5_chosenLive_12 : decode cX5_chosenLive 12 = .ok (.istore_n 3, 1) := by decide +kernel
theorem dX5_chosenLive_13 : decode cX5_chosenLive 13 = .ok (.iload_n 1, 1) := by decide +kernel
theorem dX5_chosenLive_14 : decode cX5_chosenLive 14 = .ok (.ifCond .lt 8, 3) := by decide +kernel
theorem dX5_chosenLive_17 : decode cX5_chosenLive 17 = .ok (.iload_n 3, 1) := by decide +kernel
theorem dX5_chosenLive_18 : decode cX5_chosenLive 18 = .ok (.iload_n 1, 1) := by decide +kernel
theorem dX5_chosenLive_19 : decode cX5_chosenLive 19 = .ok (.if_icmp .ge 5, 3) := by decide +kernel
theorem dX5_chosenLive_22 : decode cX5_chosenLive 22 = .ok (.iconst 0, 1) := by decide +kernel
theorem dX5_chosenLive_23 : decode cX5_chosenLive 23 = .ok (.ireturn, 1) := by decide +kernel
theorem dX5_chosenLive_24 : decode cX5_chosenLive 24 = .ok (.aload_n 0, 1) := by decide +kernel
theorem dX5_chosenLive_25 : decode cX5_chosenLive 25 = .ok (.iload_n 3, 1) := by decide +kernel
theorem dX5_chosenLive_26 : decode cX5_chosenLive 26 = .ok (.invokevirtual 78, 3) := by decide +kernel
theorem dX5_chosenLive_29 : decode cX5_chosenLive 29 = .ok (.istore 4, 2) := by decide +kernel
theorem dX5_chosenLive_31 : decode cX5_chosenLive 31 = .ok (.iload_n 3, 1) := by decide +kernel
theorem dX5_chosenLive_32 : decode cX5_chosenLive 32 = .ok (.istore 5, 2) := by decide +kernel
theorem dX5_chosenLive_34 : decode cX5_chosenLive 34 = .ok (.iload 5, 2) := by decide +kernel
theorem dX5_chosenLive_36 : decode cX5_chosenLive 36 = .ok (.iload_n 1, 1) := by decide +kernel
theorem dX5_chosenLive_37 : decode cX5_chosenLive 37 = .ok (.if_icmp .le 19, 3) := by decide +kernel
theorem dX5_chosenLive_40 : decode cX5_chosenLive 40 = .ok (.aload_n 0, 1) := by decide +kernel
theorem dX5_chosenLive_41 : decode cX5_chosenLive 41 = .ok (.iload 5, 2) := by decide +kernel
theorem dX5_chosenLive_43 : decode cX5_chosenLive 43 = .ok (.iload 4, 2) := by decide +kernel
theorem dX5_chosenLive_45 : decode cX5_chosenLive 45 = .ok (.invokevirtual 86, 3) := by decide +kernel
theorem dX5_chosenLive_48 : decode cX5_chosenLive 48 = .ok (.istore 4, 2) := by decide +kernel
theorem dX5_chosenLive_50 : decode cX5_chosenLive 50 = .ok (.iinc 5 (-1), 3) := by decide +kernel
theorem dX5_chosenLive_53 : decode cX5_chosenLive 53 = .ok (.goto (-19), 3) := by decide +kernel
theorem dX5_chosenLive_56 : decode cX5_chosenLive 56 = .ok (.iload 4, 2) := by decide +kernel
theorem dX5_chosenLive_58 : decode cX5_chosenLive 58 = .ok (.ireturn, 1) := by decide +kernel
theorem dX5_ownSum_0 : decode cX5_ownSum 0 = .ok (.iconst 0, 1) := by decide +kernel
theorem dX5_ownSum_1 : decode cX5_ownSum 1 = .ok (.istore_n 1, 1) := by decide +kernel
theorem dX5_ownSum_2 : decode cX5_ownSum 2 = .ok (.iconst 0, 1) := by decide +kernel
theorem dX5_ownSum_3 : decode cX5_ownSum 3 = .ok (.istore_n 2, 1) := by decide +kernel
theorem dX5_ownSum_4 : decode cX5_ownSum 4 = .ok (.iload_n 2, 1) := by decide +kernel
theorem dX5_ownSum_5 : decode cX5_ownSum 5 = .ok (.aload_n 0, 1) := by decide +kernel
theorem dX5_ownSum_6 : decode cX5_ownSum 6 = .ok (.getfield 60, 3) := by decide +kernel
theorem dX5_ownSum_9 : decode cX5_ownSum 9 = .ok (.if_icmp .ge 26, 3) := by decide +kernel
theorem dX5_ownSum_12 : decode cX5_ownSum 12 = .ok (.iload_n 1, 1) := by decide +kernel
theorem dX5_ownSum_13 : decode cX5_ownSum 13 = .ok (.aload_n 0, 1) := by decide +kernel
theorem dX5_ownSum_14 : decode cX5_ownSum 14 = .ok (.getfield 46, 3) := by decide +kernel
theorem dX5_ownSum_17 : decode cX5_ownSum 17 = .ok (.iload_n 2, 1) := by decide +kernel
theorem dX5_ownSum_18 : decode cX5_ownSum 18 = .ok (.aload_n 0, 1) := by decide +kernel
theorem dX5_ownSum_19 : decode cX5_ownSum 19 = .ok (.getfield 34, 3) := by decide +kernel
theorem dX5_ownSum_22 : decode cX5_ownSum 22 = .ok (.iload_n 2, 1) := by decide +kernel
theorem dX5_ownSum_23 : decode cX5_ownSum 23 = .ok (.iaload, 1) := by decide +kernel
theorem dX5_ownSum_24 : decode cX5_ownSum 24 = .ok (.invokevirtual 111, 3) := by decide +kernel
theorem dX5_ownSum_27 : decode cX5_ownSum 27 = .ok (.iadd, 1) := by decide +kernel
theorem dX5_ownSum_28 : decode cX5_ownSum 28 = .ok (.istore_n 1, 1) := by decide +kernel
theorem dX5_ownSum_29 : decode cX5_ownSum 29 = .ok (.iinc 2 1, 3) := by decide +kernel
theorem dX5_ownSum_32 : decode cX5_ownSum 32 = .ok (.goto (-28), 3) := by decide +kernel
theorem dX5_ownSum_35 : decode cX5_ownSum 35 = .ok (.iload_n 1, 1) := by decide +kernel
theorem dX5_ownSum_36 : decode cX5_ownSum 36 = .ok (.ireturn, 1) := by decide +kernel
theorem dX5_stepSum_0 : decode cX5_stepSum 0 = .ok (.iconst 0, 1) := by decide +kernel
theorem dX5_stepSum_1 : decode cX5_stepSum 1 = .ok (.istore 4, 2) := by decide +kernel
theorem dX5_stepSum_3 : decode cX5_stepSum 3 = .ok (.aload_n 0, 1) := by decide +kernel
theorem dX5_stepSum_4 : decode cX5_stepSum 4 = .ok (.getfield 18, 3) := by decide +kernel
theorem dX5_stepSum_7 : decode cX5_stepSum 7 = .ok (.iload_n 1, 1) := by decide +kernel
theorem dX5_stepSum_8 : decode cX5_stepSum 8 = .ok (.iload_n 2, 1) := by decide +kernel
theorem dX5_stepSum_9 : decode cX5_stepSum 9 = .ok (.iload_n 3, 1) := by decide +kernel
theorem dX5_stepSum_10 : decode cX5_stepSum 10 = .ok (.invokevirtual 126, 3) := by decide +kernel
theorem dX5_stepSum_13 : decode cX5_stepSum 13 = .ok (.iconst 1, 1) := by decide +kernel
theorem dX5_stepSum_14 : decode cX5_stepSum 14 = .ok (.istore 5, 2) := by decide +kernel
theorem dX5_stepSum_16 : decode cX5_stepSum 16 = .ok (.iload 5, 2) := by decide +kernel
theorem dX5_stepSum_18 : decode cX5_stepSum 18 = .ok (.aload_n 0, 1) := by decide +kernel
theorem dX5_stepSum_19 : decode cX5_stepSum 19 = .ok (.getfield 60, 3) := by decide +kernel
theorem dX5_stepSum_22 : decode cX5_stepSum 22 = .ok (.if_icmp .ge 37, 3) := by decide +kernel
theorem dX5_stepSum_25 : decode cX5_stepSum 25 = .ok (.iload 4, 2) := by decide +kernel
theorem dX5_stepSum_27 : decode cX5_stepSum 27 = .ok (.aload_n 0, 1) := by decide +kernel
theorem dX5_stepSum_28 : decode cX5_stepSum 28 = .ok (.getfield 18, 3) := by decide +kernel
theorem dX5_stepSum_31 : decode cX5_stepSum 31 = .ok (.aload_n 0, 1) := by decide +kernel
theorem dX5_stepSum_32 : decode cX5_stepSum 32 = .ok (.getfield 37, 3) := by decide +kernel
theorem dX5_stepSum_35 : decode cX5_stepSum 35 = .ok (.iload 5, 2) := by decide +kernel
theorem dX5_stepSum_37 : decode cX5_stepSum 37 = .ok (.iconst 1, 1) := by decide +kernel
theorem dX5_stepSum_38 : decode cX5_stepSum 38 = .ok (.isub, 1) := by decide +kernel
theorem dX5_stepSum_39 : decode cX5_stepSum 39 = .ok (.iaload, 1) := by decide +kernel
theorem dX5_stepSum_40 : decode cX5_stepSum 40 = .ok (.aload_n 0, 1) := by decide +kernel
theorem dX5_stepSum_41 : decode cX5_stepSum 41 = .ok (.getfield 37, 3) := by decide +kernel
theorem dX5_stepSum_44 : decode cX5_stepSum 44 = .ok (.iload 5, 2) := by decide +kernel
theorem dX5_stepSum_46 : decode cX5_stepSum 46 = .ok (.iaload, 1) := by decide +kernel
theorem dX5_stepSum_47 : decode cX5_stepSum 47 = .ok (.invokevirtual 135, 3) := by decide +kernel
theorem dX5_stepSum_50 : decode cX5_stepSum 50 = .ok (.iadd, 1) := by decide +kernel
theorem dX5_stepSum_51 : decode cX5_stepSum 51 = .ok (.istore 4, 2) := by decide +kernel
theorem dX5_stepSum_53 : decode cX5_stepSum 53 = .ok (.iinc 5 1, 3) := by decide +kernel
theorem dX5_stepSum_56 : decode cX5_stepSum 56 = .ok (.goto (-40), 3) := by decide +kernel
theorem dX5_stepSum_59 : decode cX5_stepSum 59 = .ok (.iload 4, 2) := by decide +kernel
theorem dX5_stepSum_61 : decode cX5_stepSum 61 = .ok (.ireturn, 1) := by decide +kernel
theorem dX5_findHeads_0 : decode cX5_findHeads 0 = .ok (.iconst 0, 1) := by decide +kernel
theorem dX5_findHeads_1 : decode cX5_findHeads 1 = .ok (.istore_n 2, 1) := by decide +kernel
theorem dX5_findHeads_2 : decode cX5_findHeads 2 = .ok (.iload_n 2, 1) := by decide +kernel
theorem dX5_findHeads_3 : decode cX5_findHeads 3 = .ok (.aload_n 0, 1) := by decide +kernel
theorem dX5_findHeads_4 : decode cX5_findHeads 4 = .ok (.getfield 46, 3) := by decide +kernel
theorem dX5_findHeads_7 : decode cX5_findHeads 7 = .ok (.iload_n 1, 1) := by decide +kernel
theorem dX5_findHeads_8 : decode cX5_findHeads 8 = .ok (.invokevirtual 114, 3) := by decide +kernel
theorem dX5_findHeads_11 : decode cX5_findHeads 11 = .ok (.if_icmp .ge 179, 3) := by decide +kernel
theorem dX5_findHeads_14 : decode cX5_findHeads 14 = .ok (.aload_n 0, 1) := by decide +kernel
theorem dX5_findHeads_15 : decode cX5_findHeads 15 = .ok (.getfield 46, 3) := by decide +kernel
theorem dX5_findHeads_18 : decode cX5_findHeads 18 = .ok (.iload_n 1, 1) := by decide +kernel
theorem dX5_findHeads_19 : decode cX5_findHeads 19 = .ok (.iload_n 2, 1) := by decide +kernel
theorem dX5_findHeads_20 : decode cX5_findHeads 20 = .ok (.invokevirtual 82, 3) := by decide +kernel
theorem dX5_findHeads_23 : decode cX5_findHeads 23 = .ok (.istore_n 3, 1) := by decide +kernel
theorem dX5_findHeads_24 : decode cX5_findHeads 24 = .ok (.iconst 0, 1) := by decide +kernel
theorem dX5_findHeads_25 : decode cX5_findHeads 25 = .ok (.istore 4, 2) := by decide +kernel
theorem dX5_findHeads_27 : decode cX5_findHeads 27 = .ok (.iconst 0, 1) := by decide +kernel
theorem dX5_findHeads_28 : decode cX5_findHeads 28 = .ok (.istore 5, 2) := by decide +kernel
theorem dX5_findHeads_30 : decode cX5_findHeads 30 = .ok (.iconst 0, 1) := by decide +kernel
theorem dX5_findHeads_31 : decode cX5_findHeads 31 = .ok (.istore 6, 2) := by decide +kernel
theorem dX5_findHeads_33 : decode cX5_findHeads 33 = .ok (.iload_n 1, 1) := by decide +kernel
theorem dX5_findHeads_34 : decode cX5_findHeads 34 = .ok (.ifCond .le 116, 3) := by decide +kernel
theorem dX5_findHeads_37 : decode cX5_findHeads 37 = .ok (.iload 6, 2) := by decide +kernel
theorem dX5_findHeads_39 : decode cX5_findHeads 39 = .ok (.aload_n 0, 1) := by decide +kernel
theorem dX5_findHeads_40 : decode cX5_findHeads 40 = .ok (.getfield 46, 3) := by decide +kernel
theorem dX5_findHeads_43 : decode cX5_findHeads 43 = .ok (.iload_n 1, 1) := by decide +kernel
theorem dX5_findHeads_44 : decode cX5_findHeads 44 = .ok (.iconst 1, 1) := by decide +kernel
theorem dX5_findHeads_45 : decode cX5_findHeads 45 = .ok (.isub, 1) := by decide +kernel
theorem dX5_findHeads_46 : decode cX5_findHeads 46 = .ok (.invokevirtual 114, 3) := by decide +kernel
theorem dX5_findHeads_49 : decode cX5_findHeads 49 = .ok (.if_icmp .ge 101, 3) := by decide +kernel
theorem dX5_findHeads_52 : decode cX5_findHeads 52 = .ok (.aload_n 0, 1) := by decide +kernel
theorem dX5_findHeads_53 : decode cX5_findHeads 53 = .ok (.getfield 21, 3) := by decide +kernel
theorem dX5_findHeads_56 : decode cX5_findHeads 56 = .ok (.iload_n 1, 1) := by decide +kernel
theorem dX5_findHeads_57 : decode cX5_findHeads 57 = .ok (.iconst 1, 1) := by decide +kernel
theorem dX5_findHeads_58 : decode cX5_findHeads 58 = .ok (.isub, 1) := by decide +kernel
theorem dX5_findHeads_59 : decode cX5_findHeads 59 = .ok (.iload 6, 2) := by decide +kernel
theorem dX5_findHeads_61 : decode cX5_findHeads 61 = .ok (.invokestatic 108, 3) := by decide +kernel
theorem dX5_findHeads_64 : decode cX5_findHeads 64 = .ok (.iaload, 1) := by decide +kernel
theorem dX5_findHeads_65 : decode cX5_findHeads 65 = .ok (.aload_n 0, 1) := by decide +kernel
theorem dX5_findHeads_66 : decode cX5_findHeads 66 = .ok (.getfield 12, 3) := by decide +kernel
theorem dX5_findHeads_69 : decode cX5_findHeads 69 = .ok (.aload_n 0, 1) := by decide +kernel
theorem dX5_findHeads_70 : decode cX5_findHeads 70 = .ok (.getfield 46, 3) := by decide +kernel
theorem dX5_findHeads_73 : decode cX5_findHeads 73 = .ok (.iload_n 1, 1) := by decide +kernel
theorem dX5_findHeads_74 : decode cX5_findHeads 74 = .ok (.iconst 1, 1) := by decide +kernel
theorem dX5_findHeads_75 : decode cX5_findHeads 75 = .ok (.isub, 1) := by decide +kernel
theorem dX5_findHeads_76 : decode cX5_findHeads 76 = .ok (.iload 6, 2) := by decide +kernel
theorem dX5_findHeads_78 : decode cX5_findHeads 78 = .ok (.invokevirtual 82, 3) := by decide +kernel
theorem dX5_findHeads_81 : decode cX5_findHeads 81 = .ok (.iload_n 3, 1) := by decide +kernel
theorem dX5_findHeads_82 : decode cX5_findHeads 82 = .ok (.invokevirtual 135, 3) := by decide +kernel
theorem dX5_findHeads_85 : decode cX5_findHeads 85 = .ok (.iadd, 1) := by decide +kernel
theorem dX5_findHeads_86 : decode cX5_findHeads 86 = .ok (.istore 7, 2) := by decide +kernel
theorem dX5_findHeads_88 : decode cX5_findHeads 88 = .ok (.iload 6, 2) := by decide +kernel
theorem dX5_findHeads_90 : decode cX5_findHeads 90 = .ok (.ifCond .eq 46, 3) := by decide +kernel
theorem dX5_findHeads_93 : decode cX5_findHeads 93 = .ok (.iload 7, 2) := by decide +kernel
theorem dX5_findHeads_95 : decode cX5_findHeads 95 = .ok (.iload 4, 2) := by decide +kernel
theorem dX5_findHeads_97 : decode cX5_findHeads 97 = .ok (.if_icmp .lt 39, 3) := by decide +kernel
theorem dX5_findHeads_100 : decode cX5_findHeads 100 = .ok (.iload 7, 2) := by decide +kernel
theorem dX5_findHeads_102 : decode cX5_findHeads 102 = .ok (.iload 4, 2) := by decide +kernel
theorem dX5_findHeads_104 : decode cX5_findHeads 104 = .ok (.if_icmp .ne 40, 3) := by decide +kernel
theorem dX5_findHeads_107 : decode cX5_findHeads 107 = .ok (.aload_n 0, 1) := by decide +kernel
theorem dX5_findHeads_108 : decode cX5_findHeads 108 = .ok (.getfield 25, 3) := by decide +kernel
theorem dX5_findHeads_111 : decode cX5_findHeads 111 = .ok (.iload_n 1, 1) := by decide +kernel
theorem dX5_findHeads_112 : decode cX5_findHeads 112 = .ok (.iconst 1, 1) := by decide +kernel
theorem dX5_findHeads_113 : decode cX5_findHeads 113 = .ok (.isub, 1) := by decide +kernel
theorem dX5_findHeads_114 : decode cX5_findHeads 114 = .ok (.iload 6, 2) := by decide +kernel
theorem dX5_findHeads_116 : decode cX5_findHeads 116 = .ok (.invokestatic 108, 3) := by decide +kernel
theorem dX5_findHeads_119 : decode cX5_findHeads 119 = .ok (.iaload, 1) := by decide +kernel
theorem dX5_findHeads_120 : decode cX5_findHeads 120 = .ok (.aload_n 0, 1) := by decide +kernel
theorem dX5_findHeads_121 : decode cX5_findHeads 121 = .ok (.getfield 25, 3) := by decide +kernel
theorem dX5_findHeads_124 : decode cX5_findHeads 124 = .ok (.iload_n 1, 1) := by decide +kernel
theorem dX5_findHeads_125 : decode cX5_findHeads 125 = .ok (.iconst 1, 1) := by decide +kernel
theorem dX5_findHeads_126 : decode cX5_findHeads 126 = .ok (.isub, 1) := by decide +kernel
theorem dX5_findHeads_127 : decode cX5_findHeads 127 = .ok (.iload 5, 2) := by decide +kernel
theorem dX5_findHeads_129 : decode cX5_findHeads 129 = .ok (.invokestatic 108, 3) := by decide +kernel
theorem dX5_findHeads_132 : decode cX5_findHeads 132 = .ok (.iaload, 1) := by decide +kernel
theorem dX5_findHeads_133 : decode cX5_findHeads 133 = .ok (.if_icmp .ge 11, 3) := by decide +kernel
theorem dX5_findHeads_136 : decode cX5_findHeads 136 = .ok (.iload 7, 2) := by decide +kernel
theorem dX5_findHeads_138 : decode cX5_findHeads 138 = .ok (.istore 4, 2) := by decide +kernel
theorem dX5_findHeads_140 : decode cX5_findHeads 140 = .ok (.iload 6, 2) := by decide +kernel
theorem dX5_findHeads_142 : decode cX5_findHeads 142 = .ok (.istore 5, 2) := by decide +kernel
theorem dX5_findHeads_144 : decode cX5_findHeads 144 = .ok (.iinc 6 1, 3) := by decide +kernel
theorem dX5_findHeads_147 : decode cX5_findHeads 147 = .ok (.goto (-114), 3) := by decide +kernel
theorem dX5_findHeads_150 : decode cX5_findHeads 150 = .ok (.aload_n 0, 1) := by decide +kernel
theorem dX5_findHeads_151 : decode cX5_findHeads 151 = .ok (.getfield 21, 3) := by decide +kernel
theorem dX5_findHeads_154 : decode cX5_findHeads 154 = .ok (.iload_n 1, 1) := by decide +kernel
theorem dX5_findHeads_155 : decode cX5_findHeads 155 = .ok (.iload_n 2, 1) := by decide +kernel
theorem dX5_findHeads_156 : decode cX5_findHeads 156 = .ok (.invokestatic 108, 3) := by decide +kernel
theorem dX5_findHeads_159 : decode cX5_findHeads 159 = .ok (.iload 4, 2) := by decide +kernel
theorem dX5_findHeads_161 : decode cX5_findHeads 161 = .ok (.aload_n 0, 1) := by decide +kernel
theorem dX5_findHeads_162 : decode cX5_findHeads 162 = .ok (.getfield 46, 3) := by decide +kernel
theorem dX5_findHeads_165 : decode cX5_findHeads 165 = .ok (.iload_n 1, 1) := by decide +kernel
theorem dX5_findHeads_166 : decode cX5_findHeads 166 = .ok (.iload_n 2, 1) := by decide +kernel
theorem dX5_findHeads_167 : decode cX5_findHeads 167 = .ok (.invokevirtual 111, 3) := by decide +kernel
theorem dX5_findHeads_170 : decode cX5_findHeads 170 = .ok (.iadd, 1) := by decide +kernel
theorem dX5_findHeads_171 : decode cX5_findHeads 171 = .ok (.iastore, 1) := by decide +kernel
theorem dX5_findHeads_172 : decode cX5_findHeads 172 = .ok (.aload_n 0, 1) := by decide +kernel
theorem dX5_findHeads_173 : decode cX5_findHeads 173 = .ok (.getfield 28, 3) := by decide +kernel
theorem dX5_findHeads_176 : decode cX5_findHeads 176 = .ok (.iload_n 1, 1) := by decide +kernel
theorem dX5_findHeads_177 : decode cX5_findHeads 177 = .ok (.iload_n 2, 1) := by decide +kernel
theorem dX5_findHeads_178 : decode cX5_findHeads 178 = .ok (.invokestatic 108, 3) := by decide +kernel
theorem dX5_findHeads_181 : decode cX5_findHeads 181 = .ok (.iload 5, 2) := by decide +kernel
theorem dX5_findHeads_183 : decode cX5_findHeads 183 = .ok (.iastore, 1) := by decide +kernel
theorem dX5_findHeads_184 : decode cX5_findHeads 184 = .ok (.iinc 2 1, 3) := by decide +kernel
theorem dX5_findHeads_187 : decode cX5_findHeads 187 = .ok (.goto (-185), 3) := by decide +kernel
theorem dX5_findHeads_190 : decode cX5_findHeads 190 = .ok (.return_, 1) := by decide +kernel
theorem dX5_findRanks_0 : decode cX5_findRanks 0 = .ok (.iconst 0, 1) := by decide +kernel
theorem dX5_findRanks_1 : decode cX5_findRanks 1 = .ok (.istore_n 2, 1) := by decide +kernel
theorem dX5_findRanks_2 : decode cX5_findRanks 2 = .ok (.iload_n 2, 1) := by decide +kernel
theorem dX5_findRanks_3 : decode cX5_findRanks 3 = .ok (.aload_n 0, 1) := by decide +kernel
theorem dX5_findRanks_4 : decode cX5_findRanks 4 = .ok (.getfield 46, 3) := by decide +kernel
theorem dX5_findRanks_7 : decode cX5_findRanks 7 = .ok (.iload_n 1, 1) := by decide +kernel
theorem dX5_findRanks_8 : decode cX5_findRanks 8 = .ok (.invokevirtual 114, 3) := by decide +kernel
theorem dX5_findRanks_11 : decode cX5_findRanks 11 = .ok (.if_icmp .ge 58, 3) := by decide +kernel
theorem dX5_findRanks_14 : decode cX5_findRanks 14 = .ok (.iconst 0, 1) := by decide +kernel
theorem dX5_findRanks_15 : decode cX5_findRanks 15 = .ok (.istore_n 3, 1) := by decide +kernel
theorem dX5_findRanks_16 : decode cX5_findRanks 16 = .ok (.iconst 0, 1) := by decide +kernel
theorem dX5_findRanks_17 : decode cX5_findRanks 17 = .ok (.istore 4, 2) := by decide +kernel
theorem dX5_findRanks_19 : decode cX5_findRanks 19 = .ok (.iload 4, 2) := by decide +kernel
theorem dX5_findRanks_21 : decode cX5_findRanks 21 = .ok (.aload_n 0, 1) := by decide +kernel
theorem dX5_findRanks_22 : decode cX5_findRanks 22 = .ok (.getfield 46, 3) := by decide +kernel
theorem dX5_findRanks_25 : decode cX5_findRanks 25 = .ok (.iload_n 1, 1) := by decide +kernel
theorem dX5_findRanks_26 : decode cX5_findRanks 26 = .ok (.invokevirtual 114, 3) := by decide +kernel
theorem dX5_findRanks_29 : decode cX5_findRanks 29 = .ok (.if_icmp .ge 23, 3) := by decide +kernel
theorem dX5_findRanks_32 : decode cX5_findRanks 32 = .ok (.aload_n 0, 1) := by decide +kernel
theorem dX5_findRanks_33 : decode cX5_findRanks 33 = .ok (.iload_n 1, 1) := by decide +kernel
theorem dX5_findRanks_34 : decode cX5_findRanks 34 = .ok (.iload 4, 2) := by decide +kernel
theorem dX5_findRanks_36 : decode cX5_findRanks 36 = .ok (.iload_n 2, 1) := by decide +kernel
theorem dX5_findRanks_37 : decode cX5_findRanks 37 = .ok (.invokevirtual 138, 3) := by decide +kernel
theorem dX5_findRanks_40 : decode cX5_findRanks 40 = .ok (.ifCond .eq 6, 3) := by decide +kernel
theorem dX5_findRanks_43 : decode cX5_findRanks 43 = .ok (.iinc 3 1, 3) := by decide +kernel
theorem dX5_findRanks_46 : decode cX5_findRanks 46 = .ok (.iinc 4 1, 3) := by decide +kernel
theorem dX5_findRanks_49 : decode cX5_findRanks 49 = .ok (.goto (-30), 3) := by decide +kernel
theorem dX5_findRanks_52 : decode cX5_findRanks 52 = .ok (.aload_n 0, 1) := by decide +kernel
theorem dX5_findRanks_53 : decode cX5_findRanks 53 = .ok (.getfield 25, 3) := by decide +kernel
theorem dX5_findRanks_56 : decode cX5_findRanks 56 = .ok (.iload_n 1, 1) := by decide +kernel
theorem dX5_findRanks_57 : decode cX5_findRanks 57 = .ok (.iload_n 2, 1) := by decide +kernel
theorem dX5_findRanks_58 : decode cX5_findRanks 58 = .ok (.invokestatic 108, 3) := by decide +kernel
theorem dX5_findRanks_61 : decode cX5_findRanks 61 = .ok (.iload_n 3, 1) := by decide +kernel
theorem dX5_findRanks_62 : decode cX5_findRanks 62 = .ok (.iastore, 1) := by decide +kernel
theorem dX5_findRanks_63 : decode cX5_findRanks 63 = .ok (.iinc 2 1, 3) := by decide +kernel
theorem dX5_findRanks_66 : decode cX5_findRanks 66 = .ok (.goto (-64), 3) := by decide +kernel
theorem dX5_findRanks_69 : decode cX5_findRanks 69 = .ok (.return_, 1) := by decide +kernel
theorem dX5_isAhead_0 : decode cX5_isAhead 0 = .ok (.aload_n 0, 1) := by decide +kernel
theorem dX5_isAhead_1 : decode cX5_isAhead 1 = .ok (.getfield 28, 3) := by decide +kernel
theorem dX5_isAhead_4 : decode cX5_isAhead 4 = .ok (.iload_n 1, 1) := by decide +kernel
theorem dX5_isAhead_5 : decode cX5_isAhead 5 = .ok (.iload_n 2, 1) := by decide +kernel
theorem dX5_isAhead_6 : decode cX5_isAhead 6 = .ok (.invokestatic 108, 3) := by decide +kernel
theorem dX5_isAhead_9 : decode cX5_isAhead 9 = .ok (.iaload, 1) := by decide +kernel
theorem dX5_isAhead_10 : decode cX5_isAhead 10 = .ok (.istore 4, 2) := by decide +kernel
theorem dX5_isAhead_12 : decode cX5_isAhead 12 = .ok (.aload_n 0, 1) := by decide +kernel
theorem dX5_isAhead_13 : decode cX5_isAhead 13 = .ok (.getfield 28, 3) := by decide +kernel
theorem dX5_isAhead_16 : decode cX5_isAhead 16 = .ok (.iload_n 1, 1) := by decide +kernel
theorem dX5_isAhead_17 : decode cX5_isAhead 17 = .ok (.iload_n 3, 1) := by decide +kernel
theorem dX5_isAhead_18 : decode cX5_isAhead 18 = .ok (.invokestatic 108, 3) := by decide +kernel
theorem dX5_isAhead_21 : decode cX5_isAhead 21 = .ok (.iaload, 1) := by decide +kernel
theorem dX5_isAhead_22 : decode cX5_isAhead 22 = .ok (.istore 5, 2) := by decide +kernel
theorem dX5_isAhead_24 : decode cX5_isAhead 24 = .ok (.iload 4, 2) := by decide +kernel
theorem dX5_isAhead_26 : decode cX5_isAhead 26 = .ok (.iload 5, 2) := by decide +kernel
theorem dX5_isAhead_28 : decode cX5_isAhead 28 = .ok (.if_icmp .eq 33, 3) := by decide +kernel
theorem dX5_isAhead_31 : decode cX5_isAhead 31 = .ok (.aload_n 0, 1) := by decide +kernel
theorem dX5_isAhead_32 : decode cX5_isAhead 32 = .ok (.getfield 46, 3) := by decide +kernel
theorem dX5_isAhead_35 : decode cX5_isAhead 35 = .ok (.iload_n 1, 1) := by decide +kernel
theorem dX5_isAhead_36 : decode cX5_isAhead 36 = .ok (.iconst 1, 1) := by decide +kernel
theorem dX5_isAhead_37 : decode cX5_isAhead 37 = .ok (.isub, 1) := by decide +kernel
theorem dX5_isAhead_38 : decode cX5_isAhead 38 = .ok (.iload 4, 2) := by decide +kernel
theorem dX5_isAhead_40 : decode cX5_isAhead 40 = .ok (.invokevirtual 104, 3) := by decide +kernel
theorem dX5_isAhead_43 : decode cX5_isAhead 43 = .ok (.ifCond .eq 18, 3) := by decide +kernel
theorem dX5_isAhead_46 : decode cX5_isAhead 46 = .ok (.aload_n 0, 1) := by decide +kernel
theorem dX5_isAhead_47 : decode cX5_isAhead 47 = .ok (.getfield 46, 3) := by decide +kernel
theorem dX5_isAhead_50 : decode cX5_isAhead 50 = .ok (.iload_n 1, 1) := by decide +kernel
theorem dX5_isAhead_51 : decode cX5_isAhead 51 = .ok (.iconst 1, 1) := by decide +kernel
theorem dX5_isAhead_52 : decode cX5_isAhead 52 = .ok (.isub, 1) := by decide +kernel
theorem dX5_isAhead_53 : decode cX5_isAhead 53 = .ok (.iload 5, 2) := by decide +kernel
theorem dX5_isAhead_55 : decode cX5_isAhead 55 = .ok (.invokevirtual 104, 3) := by decide +kernel
theorem dX5_isAhead_58 : decode cX5_isAhead 58 = .ok (.ifCond .ne 14, 3) := by decide +kernel
theorem dX5_isAhead_61 : decode cX5_isAhead 61 = .ok (.iload_n 2, 1) := by decide +kernel
theorem dX5_isAhead_62 : decode cX5_isAhead 62 = .ok (.iload_n 3, 1) := by decide +kernel
theorem dX5_isAhead_63 : decode cX5_isAhead 63 = .ok (.if_icmp .ge 7, 3) := by decide +kernel
theorem dX5_isAhead_66 : decode cX5_isAhead 66 = .ok (.iconst 1, 1) := by decide +kernel
theorem dX5_isAhead_67 : decode cX5_isAhead 67 = .ok (.goto 4, 3) := by decide +kernel
theorem dX5_isAhead_70 : decode cX5_isAhead 70 = .ok (.iconst 0, 1) := by decide +kernel
theorem dX5_isAhead_71 : decode cX5_isAhead 71 = .ok (.ireturn, 1) := by decide +kernel
theorem dX5_isAhead_72 : decode cX5_isAhead 72 = .ok (.aload_n 0, 1) := by decide +kernel
theorem dX5_isAhead_73 : decode cX5_isAhead 73 = .ok (.getfield 25, 3) := by decide +kernel
theorem dX5_isAhead_76 : decode cX5_isAhead 76 = .ok (.iload_n 1, 1) := by decide +kernel
theorem dX5_isAhead_77 : decode cX5_isAhead 77 = .ok (.iconst 1, 1) := by decide +kernel
theorem dX5_isAhead_78 : decode cX5_isAhead 78 = .ok (.isub, 1) := by decide +kernel
theorem dX5_isAhead_79 : decode cX5_isAhead 79 = .ok (.iload 4, 2) := by decide +kernel
theorem dX5_isAhead_81 : decode cX5_isAhead 81 = .ok (.invokestatic 108, 3) := by decide +kernel
theorem dX5_isAhead_84 : decode cX5_isAhead 84 = .ok (.iaload, 1) := by decide +kernel
theorem dX5_isAhead_85 : decode cX5_isAhead 85 = .ok (.aload_n 0, 1) := by decide +kernel
theorem dX5_isAhead_86 : decode cX5_isAhead 86 = .ok (.getfield 25, 3) := by decide +kernel
theorem dX5_isAhead_89 : decode cX5_isAhead 89 = .ok (.iload_n 1, 1) := by decide +kernel
theorem dX5_isAhead_90 : decode cX5_isAhead 90 = .ok (.iconst 1, 1) := by decide +kernel
theorem dX5_isAhead_91 : decode cX5_isAhead 91 = .ok (.isub, 1) := by decide +kernel
theorem dX5_isAhead_92 : decode cX5_isAhead 92 = .ok (.iload 5, 2) := by decide +kernel
theorem dX5_isAhead_94 : decode cX5_isAhead 94 = .ok (.invokestatic 108, 3) := by decide +kernel
theorem dX5_isAhead_97 : decode cX5_isAhead 97 = .ok (.iaload, 1) := by decide +kernel
theorem dX5_isAhead_98 : decode cX5_isAhead 98 = .ok (.if_icmp .ge 7, 3) := by decide +kernel
theorem dX5_isAhead_101 : decode cX5_isAhead 101 = .ok (.iconst 1, 1) := by decide +kernel
theorem dX5_isAhead_102 : decode cX5_isAhead 102 = .ok (.goto 4, 3) := by decide +kernel
theorem dX5_isAhead_105 : decode cX5_isAhead 105 = .ok (.iconst 0, 1) := by decide +kernel
theorem dX5_isAhead_106 : decode cX5_isAhead 106 = .ok (.ireturn, 1) := by decide +kernel
theorem dX5_aheadOf_0 : decode cX5_aheadOf 0 = .ok (.aload_n 0, 1) := by decide +kernel
theorem dX5_aheadOf_1 : decode cX5_aheadOf 1 = .ok (.getfield 46, 3) := by decide +kernel
theorem dX5_aheadOf_4 : decode cX5_aheadOf 4 = .ok (.iload_n 1, 1) := by decide +kernel
theorem dX5_aheadOf_5 : decode cX5_aheadOf 5 = .ok (.iload_n 2, 1) := by decide +kernel
theorem dX5_aheadOf_6 : decode cX5_aheadOf 6 = .ok (.invokevirtual 104, 3) := by decide +kernel
theorem dX5_aheadOf_9 : decode cX5_aheadOf 9 = .ok (.ifCond .eq 16, 3) := by decide +kernel
theorem dX5_aheadOf_12 : decode cX5_aheadOf 12 = .ok (.aload_n 0, 1) := by decide +kernel
theorem dX5_aheadOf_13 : decode cX5_aheadOf 13 = .ok (.getfield 28, 3) := by decide +kernel
theorem dX5_aheadOf_16 : decode cX5_aheadOf 16 = .ok (.iload_n 1, 1) := by decide +kernel
theorem dX5_aheadOf_17 : decode cX5_aheadOf 17 = .ok (.iload_n 2, 1) := by decide +kernel
theorem dX5_aheadOf_18 : decode cX5_aheadOf 18 = .ok (.invokestatic 108, 3) := by decide +kernel
theorem dX5_aheadOf_21 : decode cX5_aheadOf 21 = .ok (.iaload, 1) := by decide +kernel
theorem dX5_aheadOf_22 : decode cX5_aheadOf 22 = .ok (.goto 4, 3) := by decide +kernel
theorem dX5_aheadOf_25 : decode cX5_aheadOf 25 = .ok (.iconst 0, 1) := by decide +kernel
theorem dX5_aheadOf_26 : decode cX5_aheadOf 26 = .ok (.istore_n 3, 1) := by decide +kernel
theorem dX5_aheadOf_27 : decode cX5_aheadOf 27 = .ok (.aload_n 0, 1) := by decide +kernel
theorem dX5_aheadOf_28 : decode cX5_aheadOf 28 = .ok (.getfield 46, 3) := by decide +kernel
theorem dX5_aheadOf_31 : decode cX5_aheadOf 31 = .ok (.iload_n 1, 1) := by decide +kernel
theorem dX5_aheadOf_32 : decode cX5_aheadOf 32 = .ok (.iconst 1, 1) := by decide +kernel
theorem dX5_aheadOf_33 : decode cX5_aheadOf 33 = .ok (.isub, 1) := by decide +kernel
theorem dX5_aheadOf_34 : decode cX5_aheadOf 34 = .ok (.iload_n 3, 1) := by decide +kernel
theorem dX5_aheadOf_35 : decode cX5_aheadOf 35 = .ok (.invokevirtual 104, 3) := by decide +kernel
theorem dX5_aheadOf_38 : decode cX5_aheadOf 38 = .ok (.ifCond .eq 7, 3) := by decide +kernel
theorem dX5_aheadOf_41 : decode cX5_aheadOf 41 = .ok (.iload_n 3, 1) := by decide +kernel
theorem dX5_aheadOf_42 : decode cX5_aheadOf 42 = .ok (.goto 4, 3) := by decide +kernel
theorem dX5_aheadOf_45 : decode cX5_aheadOf 45 = .ok (.iconst 0, 1) := by decide +kernel
theorem dX5_aheadOf_46 : decode cX5_aheadOf 46 = .ok (.ireturn, 1) := by decide +kernel
theorem dX5_firstAtEnd_0 : decode cX5_firstAtEnd 0 = .ok (.iconst 0, 1) := by decide +kernel
theorem dX5_firstAtEnd_1 : decode cX5_firstAtEnd 1 = .ok (.istore_n 2, 1) := by decide +kernel
theorem dX5_firstAtEnd_2 : decode cX5_firstAtEnd 2 = .ok (.iconst 1, 1) := by decide +kernel
theorem dX5_firstAtEnd_3 : decode cX5_firstAtEnd 3 = .ok (.istore_n 3, 1) := by decide +kernel
theorem dX5_firstAtEnd_4 : decode cX5_firstAtEnd 4 = .ok (.iload_n 3, 1) := by decide +kernel
theorem dX5_firstAtEnd_5 : decode cX5_firstAtEnd 5 = .ok (.aload_n 0, 1) := by decide +kernel
theorem dX5_firstAtEnd_6 : decode cX5_firstAtEnd 6 = .ok (.getfield 46, 3) := by decide +kernel
theorem dX5_firstAtEnd_9 : decode cX5_firstAtEnd 9 = .ok (.iload_n 1, 1) := by decide +kernel
theorem dX5_firstAtEnd_10 : decode cX5_firstAtEnd 10 = .ok (.invokevirtual 114, 3) := by decide +kernel
theorem dX5_firstAtEnd_13 : decode cX5_firstAtEnd 13 = .ok (.if_icmp .ge 67, 3) := by decide +kernel
theorem dX5_firstAtEnd_16 : decode cX5_firstAtEnd 16 = .ok (.aload_n 0, 1) := by decide +kernel
theorem dX5_firstAtEnd_17 : decode cX5_firstAtEnd 17 = .ok (.getfield 21, 3) := by decide +kernel
theorem dX5_firstAtEnd_20 : decode cX5_firstAtEnd 20 = .ok (.iload_n 1, 1) := by decide +kernel
theorem dX5_firstAtEnd_21 : decode cX5_firstAtEnd 21 = .ok (.iload_n 3, 1) := by decide +kernel
theorem dX5_firstAtEnd_22 : decode cX5_firstAtEnd 22 = .ok (.invokestatic 108, 3) := by decide +kernel
theorem dX5_firstAtEnd_25 : decode cX5_firstAtEnd 25 = .ok (.iaload, 1) := by decide +kernel
theorem dX5_firstAtEnd_26 : decode cX5_firstAtEnd 26 = .ok (.aload_n 0, 1) := by decide +kernel
theorem dX5_firstAtEnd_27 : decode cX5_firstAtEnd 27 = .ok (.getfield 21, 3) := by decide +kernel
theorem dX5_firstAtEnd_30 : decode cX5_firstAtEnd 30 = .ok (.iload_n 1, 1) := by decide +kernel
theorem dX5_firstAtEnd_31 : decode cX5_firstAtEnd 31 = .ok (.iload_n 2, 1) := by decide +kernel
theorem dX5_firstAtEnd_32 : decode cX5_firstAtEnd 32 = .ok (.invokestatic 108, 3) := by decide +kernel
theorem dX5_firstAtEnd_35 : decode cX5_firstAtEnd 35 = .ok (.iaload, 1) := by decide +kernel
theorem dX5_firstAtEnd_36 : decode cX5_firstAtEnd 36 = .ok (.isub, 1) := by decide +kernel
theorem dX5_firstAtEnd_37 : decode cX5_firstAtEnd 37 = .ok (.istore 4, 2) := by decide +kernel
theorem dX5_firstAtEnd_39 : decode cX5_firstAtEnd 39 = .ok (.iload 4, 2) := by decide +kernel
theorem dX5_firstAtEnd_41 : decode cX5_firstAtEnd 41 = .ok (.ifCond .lt 31, 3) := by decide +kernel
theorem dX5_firstAtEnd_44 : decode cX5_firstAtEnd 44 = .ok (.iload 4, 2) := by decide +kernel
theorem dX5_firstAtEnd_46 : decode cX5_firstAtEnd 46 = .ok (.ifCond .ne 28, 3) := by decide +kernel
theorem dX5_firstAtEnd_49 : decode cX5_firstAtEnd 49 = .ok (.aload_n 0, 1) := by decide +kernel
theorem dX5_firstAtEnd_50 : decode cX5_firstAtEnd 50 = .ok (.getfield 25, 3) := by decide +kernel
theorem dX5_firstAtEnd_53 : decode cX5_firstAtEnd 53 = .ok (.iload_n 1, 1) := by decide +kernel
theorem dX5_firstAtEnd_54 : decode cX5_firstAtEnd 54 = .ok (.iload_n 3, 1) := by decide +kernel
theorem dX5_firstAtEnd_55 : decode cX5_firstAtEnd 55 = .ok (.invokestatic 108, 3) := by decide +kernel
theorem dX5_firstAtEnd_58 : decode cX5_firstAtEnd 58 = .ok (.iaload, 1) := by decide +kernel
theorem dX5_firstAtEnd_59 : decode cX5_firstAtEnd 59 = .ok (.aload_n 0, 1) := by decide +kernel
theorem dX5_firstAtEnd_60 : decode cX5_firstAtEnd 60 = .ok (.getfield 25, 3) := by decide +kernel
theorem dX5_firstAtEnd_63 : decode cX5_firstAtEnd 63 = .ok (.iload_n 1, 1) := by decide +kernel
theorem dX5_firstAtEnd_64 : decode cX5_firstAtEnd 64 = .ok (.iload_n 2, 1) := by decide +kernel
theorem dX5_firstAtEnd_65 : decode cX5_firstAtEnd 65 = .ok (.invokestatic 108, 3) := by decide +kernel
theorem dX5_firstAtEnd_68 : decode cX5_firstAtEnd 68 = .ok (.iaload, 1) := by decide +kernel
theorem dX5_firstAtEnd_69 : decode cX5_firstAtEnd 69 = .ok (.if_icmp .ge 5, 3) := by decide +kernel
theorem dX5_firstAtEnd_72 : decode cX5_firstAtEnd 72 = .ok (.iload_n 3, 1) := by decide +kernel
theorem dX5_firstAtEnd_73 : decode cX5_firstAtEnd 73 = .ok (.istore_n 2, 1) := by decide +kernel
theorem dX5_firstAtEnd_74 : decode cX5_firstAtEnd 74 = .ok (.iinc 3 1, 3) := by decide +kernel
theorem dX5_firstAtEnd_77 : decode cX5_firstAtEnd 77 = .ok (.goto (-73), 3) := by decide +kernel
theorem dX5_firstAtEnd_80 : decode cX5_firstAtEnd 80 = .ok (.iload_n 2, 1) := by decide +kernel
theorem dX5_firstAtEnd_81 : decode cX5_firstAtEnd 81 = .ok (.ireturn, 1) := by decide +kernel
theorem dX5_findTails_0 : decode cX5_findTails 0 = .ok (.iconst 0, 1) := by decide +kernel
theorem dX5_findTails_1 : decode cX5_findTails 1 = .ok (.istore_n 2, 1) := by decide +kernel
theorem dX5_findTails_2 : decode cX5_findTails 2 = .ok (.iload_n 2, 1) := by decide +kernel
theorem dX5_findTails_3 : decode cX5_findTails 3 = .ok (.aload_n 0, 1) := by decide +kernel
theorem dX5_findTails_4 : decode cX5_findTails 4 = .ok (.getfield 46, 3) := by decide +kernel
theorem dX5_findTails_7 : decode cX5_findTails 7 = .ok (.iload_n 1, 1) := by decide +kernel
theorem dX5_findTails_8 : decode cX5_findTails 8 = .ok (.invokevirtual 114, 3) := by decide +kernel
theorem dX5_findTails_11 : decode cX5_findTails 11 = .ok (.if_icmp .ge 138, 3) := by decide +kernel
theorem dX5_findTails_14 : decode cX5_findTails 14 = .ok (.aload_n 0, 1) := by decide +kernel
theorem dX5_findTails_15 : decode cX5_findTails 15 = .ok (.getfield 46, 3) := by decide +kernel
theorem dX5_findTails_18 : decode cX5_findTails 18 = .ok (.iload_n 1, 1) := by decide +kernel
theorem dX5_findTails_19 : decode cX5_findTails 19 = .ok (.iload_n 2, 1) := by decide +kernel
theorem dX5_findTails_20 : decode cX5_findTails 20 = .ok (.invokevirtual 82, 3) := by decide +kernel
theorem dX5_findTails_23 : decode cX5_findTails 23 = .ok (.istore_n 3, 1) := by decide +kernel
theorem dX5_findTails_24 : decode cX5_findTails 24 = .ok (.iload_n 1, 1) := by decide +kernel
theorem dX5_findTails_25 : decode cX5_findTails 25 = .ok (.iconst 1, 1) := by decide +kernel
theorem dX5_findTails_26 : decode cX5_findTails 26 = .ok (.iadd, 1) := by decide +kernel
theorem dX5_findTails_27 : decode cX5_findTails 27 = .ok (.aload_n 0, 1) := by decide +kernel
theorem dX5_findTails_28 : decode cX5_findTails 28 = .ok (.getfield 60, 3) := by decide +kernel
theorem dX5_findTails_31 : decode cX5_findTails 31 = .ok (.if_icmp .ge 8, 3) := by decide +kernel
theorem dX5_findTails_34 : decode cX5_findTails 34 = .ok (.ldc 117, 2) := by decide +kernel
theorem dX5_findTails_36 : decode cX5_findTails 36 = .ok (.goto 4, 3) := by decide +kernel
theorem dX5_findTails_39 : decode cX5_findTails 39 = .ok (.iconst 0, 1) := by decide +kernel
theorem dX5_findTails_40 : decode cX5_findTails 40 = .ok (.istore 4, 2) := by decide +kernel
theorem dX5_findTails_42 : decode cX5_findTails 42 = .ok (.iconst 0, 1) := by decide +kernel
theorem dX5_findTails_43 : decode cX5_findTails 43 = .ok (.istore 5, 2) := by decide +kernel
theorem dX5_findTails_45 : decode cX5_findTails 45 = .ok (.iload_n 1, 1) := by decide +kernel
theorem dX5_findTails_46 : decode cX5_findTails 46 = .ok (.iconst 1, 1) := by decide +kernel
theorem dX5_findTails_47 : decode cX5_findTails 47 = .ok (.iadd, 1) := by decide +kernel
theorem dX5_findTails_48 : decode cX5_findTails 48 = .ok (.aload_n 0, 1) := by decide +kernel
theorem dX5_findTails_49 : decode cX5_findTails 49 = .ok (.getfield 60, 3) := by decide +kernel
theorem dX5_findTails_52 : decode cX5_findTails 52 = .ok (.if_icmp .ge 69, 3) := by decide +kernel
theorem dX5_findTails_55 : decode cX5_findTails 55 = .ok (.iload 5, 2) := by decide +kernel
theorem dX5_findTails_57 : decode cX5_findTails 57 = .ok (.aload_n 0, 1) := by decide +kernel
theorem dX5_findTails_58 : decode cX5_findTails 58 = .ok (.getfield 46, 3) := by decide +kernel
theorem dX5_findTails_61 : decode cX5_findTails 61 = .ok (.iload_n 1, 1) := by decide +kernel
theorem dX5_findTails_62 : decode cX5_findTails 62 = .ok (.iconst 1, 1) := by decide +kernel
theorem dX5_findTails_63 : decode cX5_findTails 63 = .ok (.iadd, 1) := by decide +kernel
theorem dX5_findTails_64 : decode cX5_findTails 64 = .ok (.invokevirtual 114, 3) := by decide +kernel
theorem dX5_findTails_67 : decode cX5_findTails 67 = .ok (.if_icmp .ge 54, 3) := by decide +kernel
theorem dX5_findTails_70 : decode cX5_findTails 70 = .ok (.aload_n 0, 1) := by decide +kernel
theorem dX5_findTails_71 : decode cX5_findTails 71 = .ok (.getfield 31, 3) := by decide +kernel
theorem dX5_findTails_74 : decode cX5_findTails 74 = .ok (.iload_n 1, 1) := by decide +kernel
theorem dX5_findTails_75 : decode cX5_findTails 75 = .ok (.iconst 1, 1) := by decide +kernel
theorem dX5_findTails_76 : decode cX5_findTails 76 = .ok (.iadd, 1) := by decide +kernel
theorem dX5_findTails_77 : decode cX5_findTails 77 = .ok (.iload 5, 2) := by decide +kernel
theorem dX5_findTails_79 : decode cX5_findTails 79 = .ok (.invokestatic 108, 3) := by decide +kernel
theorem dX5_findTails_82 : decode cX5_findTails 82 = .ok (.iaload, 1) := by decide +kernel
theorem dX5_findTails_83 : decode cX5_findTails 83 = .ok (.aload_n 0, 1) := by decide +kernel
theorem dX5_findTails_84 : decode cX5_findTails 84 = .ok (.getfield 12, 3) := by decide +kernel
theorem dX5_findTails_87 : decode cX5_findTails 87 = .ok (.iload_n 3, 1) := by decide +kernel
theorem dX5_findTails_88 : decode cX5_findTails 88 = .ok (.aload_n 0, 1) := by decide +kernel
theorem dX5_findTails_89 : decode cX5_findTails 89 = .ok (.getfield 46, 3) := by decide +kernel
theorem dX5_findTails_92 : decode cX5_findTails 92 = .ok (.iload_n 1, 1) := by decide +kernel
theorem dX5_findTails_93 : decode cX5_findTails 93 = .ok (.iconst 1, 1) := by decide +kernel
theorem dX5_findTails_94 : decode cX5_findTails 94 = .ok (.iadd, 1) := by decide +kernel
theorem dX5_findTails_95 : decode cX5_findTails 95 = .ok (.iload 5, 2) := by decide +kernel
theorem dX5_findTails_97 : decode cX5_findTails 97 = .ok (.invokevirtual 82, 3) := by decide +kernel
theorem dX5_findTails_100 : decode cX5_findTails 100 = .ok (.invokevirtual 135, 3) := by decide +kernel
theorem dX5_findTails_103 : decode cX5_findTails 103 = .ok (.iadd, 1) := by decide +kernel
theorem dX5_findTails_104 : decode cX5_findTails 104 = .ok (.istore 6, 2) := by decide +kernel
theorem dX5_findTails_106 : decode cX5_findTails 106 = .ok (.iload 4, 2) := by decide +kernel
theorem dX5_findTails_108 : decode cX5_findTails 108 = .ok (.iload 6, 2) := by decide +kernel
theorem dX5_findTails_110 : decode cX5_findTails 110 = .ok (.invokestatic 130, 3) := by decide +kernel
theorem dX5_findTails_113 : decode cX5_findTails 113 = .ok (.istore 4, 2) := by decide +kernel
theorem dX5_findTails_115 : decode cX5_findTails 115 = .ok (.iinc 5 1, 3) := by decide +kernel
theorem dX5_findTails_118 : decode cX5_findTails 118 = .ok (.goto (-73), 3) := by decide +kernel
theorem dX5_findTails_121 : decode cX5_findTails 121 = .ok (.aload_n 0, 1) := by decide +kernel
theorem dX5_findTails_122 : decode cX5_findTails 122 = .ok (.getfield 31, 3) := by decide +kernel
theorem dX5_findTails_125 : decode cX5_findTails 125 = .ok (.iload_n 1, 1) := by decide +kernel
theorem dX5_findTails_126 : decode cX5_findTails 126 = .ok (.iload_n 2, 1) := by decide +kernel
theorem dX5_findTails_127 : decode cX5_findTails 127 = .ok (.invokestatic 108, 3) := by decide +kernel
theorem dX5_findTails_130 : decode cX5_findTails 130 = .ok (.iload 4, 2) := by decide +kernel
theorem dX5_findTails_132 : decode cX5_findTails 132 = .ok (.aload_n 0, 1) := by decide +kernel
theorem dX5_findTails_133 : decode cX5_findTails 133 = .ok (.getfield 46, 3) := by decide +kernel
theorem dX5_findTails_136 : decode cX5_findTails 136 = .ok (.iload_n 1, 1) := by decide +kernel
theorem dX5_findTails_137 : decode cX5_findTails 137 = .ok (.iload_n 2, 1) := by decide +kernel
theorem dX5_findTails_138 : decode cX5_findTails 138 = .ok (.invokevirtual 111, 3) := by decide +kernel
theorem dX5_findTails_141 : decode cX5_findTails 141 = .ok (.iadd, 1) := by decide +kernel
theorem dX5_findTails_142 : decode cX5_findTails 142 = .ok (.iastore, 1) := by decide +kernel
theorem dX5_findTails_143 : decode cX5_findTails 143 = .ok (.iinc 2 1, 3) := by decide +kernel
theorem dX5_findTails_146 : decode cX5_findTails 146 = .ok (.goto (-144), 3) := by decide +kernel
theorem dX5_findTails_149 : decode cX5_findTails 149 = .ok (.return_, 1) := by decide +kernel
theorem dX5_leastOfAll_0 : decode cX5_leastOfAll 0 = .ok (.aload_n 0, 1) := by decide +kernel
theorem dX5_leastOfAll_1 : decode cX5_leastOfAll 1 = .ok (.getfield 60, 3) := by decide +kernel
theorem dX5_leastOfAll_4 : decode cX5_leastOfAll 4 = .ok (.ifCond .ne 5, 3) := by decide +kernel
theorem dX5_leastOfAll_7 : decode cX5_leastOfAll 7 = .ok (.iconst 0, 1) := by decide +kernel
theorem dX5_leastOfAll_8 : decode cX5_leastOfAll 8 = .ok (.ireturn, 1) := by decide +kernel
theorem dX5_leastOfAll_9 : decode cX5_leastOfAll 9 = .ok (.iconst 0, 1) := by decide +kernel
theorem dX5_leastOfAll_10 : decode cX5_leastOfAll 10 = .ok (.istore_n 3, 1) := by decide +kernel
theorem dX5_leastOfAll_11 : decode cX5_leastOfAll 11 = .ok (.iload_n 3, 1) := by decide +kernel
theorem dX5_leastOfAll_12 : decode cX5_leastOfAll 12 = .ok (.aload_n 0, 1) := by decide +kernel
theorem dX5_leastOfAll_13 : decode cX5_leastOfAll 13 = .ok (.getfield 60, 3) := by decide +kernel
theorem dX5_leastOfAll_16 : decode cX5_leastOfAll 16 = .ok (.if_icmp .ge 120, 3) := by decide +kernel
theorem dX5_leastOfAll_19 : decode cX5_leastOfAll 19 = .ok (.iload_n 3, 1) := by decide +kernel
theorem dX5_leastOfAll_20 : decode cX5_leastOfAll 20 = .ok (.ifCond .ne 45, 3) := by decide +kernel
theorem dX5_leastOfAll_23 : decode cX5_leastOfAll 23 = .ok (.iconst 0, 1) := by decide +kernel
theorem dX5_leastOfAll_24 : decode cX5_leastOfAll 24 = .ok (.istore 4, 2) := by decide +kernel
theorem dX5_leastOfAll_26 : decode cX5_leastOfAll 26 = .ok (.iload 4, 2) := by decide +kernel
theorem dX5_leastOfAll_28 : decode cX5_leastOfAll 28 = .ok (.aload_n 0, 1) := by decide +kernel
theorem dX5_leastOfAll_29 : decode cX5_leastOfAll 29 = .ok (.getfield 46, 3) := by decide +kernel
theorem dX5_leastOfAll_32 : decode cX5_leastOfAll 32 = .ok (.iconst 0, 1) := by decide +kernel
theorem dX5_leastOfAll_33 : decode cX5_leastOfAll 33 = .ok (.invokevirtual 114, 3) := by decide +kernel
theorem dX5_leastOfAll_36 : decode cX5_leastOfAll 36 = .ok (.if_icmp .ge 26, 3) := by decide +kernel
theorem dX5_leastOfAll_39 : decode cX5_leastOfAll 39 = .ok (.aload_n 0, 1) := by decide +kernel
theorem dX5_leastOfAll_40 : decode cX5_leastOfAll 40 = .ok (.getfield 40, 3) := by decide +kernel
theorem dX5_leastOfAll_43 : decode cX5_leastOfAll 43 = .ok (.iload 4, 2) := by decide +kernel
theorem dX5_leastOfAll_45 : decode cX5_leastOfAll 45 = .ok (.aload_n 0, 1) := by decide +kernel
theorem dX5_leastOfAll_46 : decode cX5_leastOfAll 46 = .ok (.getfield 46, 3) := by decide +kernel
theorem dX5_leastOfAll_49 : decode cX5_leastOfAll 49 = .ok (.iconst 0, 1) := by decide +kernel
theorem dX5_leastOfAll_50 : decode cX5_leastOfAll 50 = .ok (.iload 4, 2) := by decide +kernel
theorem dX5_leastOfAll_52 : decode cX5_leastOfAll 52 = .ok (.invokevirtual 111, 3) := by decide +kernel
theorem dX5_leastOfAll_55 : decode cX5_leastOfAll 55 = .ok (.iastore, 1) := by decide +kernel
theorem dX5_leastOfAll_56 : decode cX5_leastOfAll 56 = .ok (.iinc 4 1, 3) := by decide +kernel
theorem dX5_leastOfAll_59 : decode cX5_leastOfAll 59 = .ok (.goto (-33), 3) := by decide +kernel
theorem dX5_leastOfAll_62 : decode cX5_leastOfAll 62 = .ok (.goto 9, 3) := by decide +kernel
theorem dX5_leastOfAll_65 : decode cX5_leastOfAll 65 = .ok (.aload_n 0, 1) := by decide +kernel
theorem dX5_leastOfAll_66 : decode cX5_leastOfAll 66 = .ok (.iload_n 3, 1) := by decide +kernel
theorem dX5_leastOfAll_67 : decode cX5_leastOfAll 67 = .ok (.aload_n 1, 1) := by decide +kernel
theorem dX5_leastOfAll_68 : decode cX5_leastOfAll 68 = .ok (.invokevirtual 118, 3) := by decide +kernel
theorem dX5_leastOfAll_71 : decode cX5_leastOfAll 71 = .ok (.iconst 0, 1) := by decide +kernel
theorem dX5_leastOfAll_72 : decode cX5_leastOfAll 72 = .ok (.istore 4, 2) := by decide +kernel
theorem dX5_leastOfAll_74 : decode cX5_leastOfAll 74 = .ok (.iload_n 2, 1) := by decide +kernel
theorem dX5_leastOfAll_75 : decode cX5_leastOfAll 75 = .ok (.ifCond .ne 55, 3) := by decide +kernel
theorem dX5_leastOfAll_78 : decode cX5_leastOfAll 78 = .ok (.iload 4, 2) := by decide +kernel
theorem dX5_leastOfAll_80 : decode cX5_leastOfAll 80 = .ok (.aload_n 0, 1) := by decide +kernel
theorem dX5_leastOfAll_81 : decode cX5_leastOfAll 81 = .ok (.getfield 46, 3) := by decide +kernel
theorem dX5_leastOfAll_84 : decode cX5_leastOfAll 84 = .ok (.iload_n 3, 1) := by decide +kernel
theorem dX5_leastOfAll_85 : decode cX5_leastOfAll 85 = .ok (.invokevirtual 114, 3) := by decide +kernel
theorem dX5_leastOfAll_88 : decode cX5_leastOfAll 88 = .ok (.if_icmp .ge 42, 3) := by decide +kernel
theorem dX5_leastOfAll_91 : decode cX5_leastOfAll 91 = .ok (.aload_n 0, 1) := by decide +kernel
theorem dX5_leastOfAll_92 : decode cX5_leastOfAll 92 = .ok (.getfield 40, 3) := by decide +kernel
theorem dX5_leastOfAll_95 : decode cX5_leastOfAll 95 = .ok (.iload 4, 2) := by decide +kernel
theorem dX5_leastOfAll_97 : decode cX5_leastOfAll 97 = .ok (.aload_n 0, 1) := by decide +kernel
theorem dX5_leastOfAll_98 : decode cX5_leastOfAll 98 = .ok (.getfield 46, 3) := by decide +kernel
theorem dX5_leastOfAll_101 : decode cX5_leastOfAll 101 = .ok (.iload_n 3, 1) := by decide +kernel
theorem dX5_leastOfAll_102 : decode cX5_leastOfAll 102 = .ok (.iload 4, 2) := by decide +kernel
theorem dX5_leastOfAll_104 : decode cX5_leastOfAll 104 = .ok (.invokevirtual 101, 3) := by decide +kernel
theorem dX5_leastOfAll_107 : decode cX5_leastOfAll 107 = .ok (.iconst (-1), 1) := by decide +kernel
theorem dX5_leastOfAll_108 : decode cX5_leastOfAll 108 = .ok (.if_icmp .ne 13, 3) := by decide +kernel
theorem dX5_leastOfAll_111 : decode cX5_leastOfAll 111 = .ok (.aload_n 0, 1) := by decide +kernel
theorem dX5_leastOfAll_112 : decode cX5_leastOfAll 112 = .ok (.getfield 40, 3) := by decide +kernel
theorem dX5_leastOfAll_115 : decode cX5_leastOfAll 115 = .ok (.iload 4, 2) := by decide +kernel
theorem dX5_leastOfAll_117 : decode cX5_leastOfAll 117 = .ok (.iaload, 1) := by decide +kernel
theorem dX5_leastOfAll_118 : decode cX5_leastOfAll 118 = .ok (.goto 5, 3) := by decide +kernel
theorem dX5_leastOfAll_121 : decode cX5_leastOfAll 121 = .ok (.ldc 117, 2) := by decide +kernel
theorem dX5_leastOfAll_123 : decode cX5_leastOfAll 123 = .ok (.iastore, 1) := by decide +kernel
theorem dX5_leastOfAll_124 : decode cX5_leastOfAll 124 = .ok (.iinc 4 1, 3) := by decide +kernel
theorem dX5_leastOfAll_127 : decode cX5_leastOfAll 127 = .ok (.goto (-53), 3) := by decide +kernel
theorem dX5_leastOfAll_130 : decode cX5_leastOfAll 130 = .ok (.iinc 3 1, 3) := by decide +kernel
theorem dX5_leastOfAll_133 : decode cX5_leastOfAll 133 = .ok (.goto (-122), 3) := by decide +kernel
theorem dX5_leastOfAll_136 : decode cX5_leastOfAll 136 = .ok (.ldc 117, 2) := by decide +kernel
theorem dX5_leastOfAll_138 : decode cX5_leastOfAll 138 = .ok (.istore_n 3, 1) := by decide +kernel
theorem dX5_leastOfAll_139 : decode cX5_leastOfAll 139 = .ok (.iconst 0, 1) := by decide +kernel
theorem dX5_leastOfAll_140 : decode cX5_leastOfAll 140 = .ok (.istore 4, 2) := by decide +kernel
theorem dX5_leastOfAll_142 : decode cX5_leastOfAll 142 = .ok (.iload 4, 2) := by decide +kernel
theorem dX5_leastOfAll_144 : decode cX5_leastOfAll 144 = .ok (.aload_n 0, 1) := by decide +kernel
theorem dX5_leastOfAll_145 : decode cX5_leastOfAll 145 = .ok (.getfield 46, 3) := by decide +kernel
theorem dX5_leastOfAll_148 : decode cX5_leastOfAll 148 = .ok (.aload_n 0, 1) := by decide +kernel
theorem dX5_leastOfAll_149 : decode cX5_leastOfAll 149 = .ok (.getfield 60, 3) := by decide +kernel
theorem dX5_leastOfAll_152 : decode cX5_leastOfAll 152 = .ok (.iconst 1, 1) := by decide +kernel
theorem dX5_leastOfAll_153 : decode cX5_leastOfAll 153 = .ok (.isub, 1) := by decide +kernel
theorem dX5_leastOfAll_154 : decode cX5_leastOfAll 154 = .ok (.invokevirtual 114, 3) := by decide +kernel
theorem dX5_leastOfAll_157 : decode cX5_leastOfAll 157 = .ok (.if_icmp .ge 21, 3) := by decide +kernel
theorem dX5_leastOfAll_160 : decode cX5_leastOfAll 160 = .ok (.iload_n 3, 1) := by decide +kernel
theorem dX5_leastOfAll_161 : decode cX5_leastOfAll 161 = .ok (.aload_n 0, 1) := by decide +kernel
theorem dX5_leastOfAll_162 : decode cX5_leastOfAll 162 = .ok (.getfield 40, 3) := by decide +kernel
theorem dX5_leastOfAll_165 : decode cX5_leastOfAll 165 = .ok (.iload 4, 2) := by decide +kernel
theorem dX5_leastOfAll_167 : decode cX5_leastOfAll 167 = .ok (.iaload, 1) := by decide +kernel
theorem dX5_leastOfAll_168 : decode cX5_leastOfAll 168 = .ok (.invokestatic 130, 3) := by decide +kernel
theorem dX5_leastOfAll_171 : decode cX5_leastOfAll 171 = .ok (.istore_n 3, 1) := by decide +kernel
theorem dX5_leastOfAll_172 : decode cX5_leastOfAll 172 = .ok (.iinc 4 1, 3) := by decide +kernel
theorem dX5_leastOfAll_175 : decode cX5_leastOfAll 175 = .ok (.goto (-33), 3) := by decide +kernel
theorem dX5_leastOfAll_178 : decode cX5_leastOfAll 178 = .ok (.iload_n 3, 1) := by decide +kernel
theorem dX5_leastOfAll_179 : decode cX5_leastOfAll 179 = .ok (.ireturn, 1) := by decide +kernel
theorem dX5_advance_0 : decode cX5_advance 0 = .ok (.iconst 0, 1) := by decide +kernel
theorem dX5_advance_1 : decode cX5_advance 1 = .ok (.istore_n 3, 1) := by decide +kernel
theorem dX5_advance_2 : decode cX5_advance 2 = .ok (.iload_n 3, 1) := by decide +kernel
theorem dX5_advance_3 : decode cX5_advance 3 = .ok (.aload_n 0, 1) := by decide +kernel
theorem dX5_advance_4 : decode cX5_advance 4 = .ok (.getfield 46, 3) := by decide +kernel
theorem dX5_advance_7 : decode cX5_advance 7 = .ok (.iload_n 1, 1) := by decide +kernel
theorem dX5_advance_8 : decode cX5_advance 8 = .ok (.invokevirtual 114, 3) := by decide +kernel
theorem dX5_advance_11 : decode cX5_advance 11 = .ok (.if_icmp .ge 99, 3) := by decide +kernel
theorem dX5_advance_14 : decode cX5_advance 14 = .ok (.aload_n 0, 1) := by decide +kernel
theorem dX5_advance_15 : decode cX5_advance 15 = .ok (.getfield 46, 3) := by decide +kernel
theorem dX5_advance_18 : decode cX5_advance 18 = .ok (.iload_n 1, 1) := by decide +kernel
theorem dX5_advance_19 : decode cX5_advance 19 = .ok (.iload_n 3, 1) := by decide +kernel
theorem dX5_advance_20 : decode cX5_advance 20 = .ok (.invokevirtual 82, 3) := by decide +kernel
theorem dX5_advance_23 : decode cX5_advance 23 = .ok (.istore 4, 2) := by decide +kernel
theorem dX5_advance_25 : decode cX5_advance 25 = .ok (.ldc 117, 2) := by decide +kernel
theorem dX5_advance_27 : decode cX5_advance 27 = .ok (.istore 5, 2) := by decide +kernel
theorem dX5_advance_29 : decode cX5_advance 29 = .ok (.iconst 0, 1) := by decide +kernel
theorem dX5_advance_30 : decode cX5_advance 30 = .ok (.istore 6, 2) := by decide +kernel
theorem dX5_advance_32 : decode cX5_advance 32 = .ok (.iload 6, 2) := by decide +kernel
theorem dX5_advance_34 : decode cX5_advance 34 = .ok (.aload_n 0, 1) := by decide +kernel
theorem dX5_advance_35 : decode cX5_advance 35 = .ok (.getfield 46, 3) := by decide +kernel
theorem dX5_advance_38 : decode cX5_advance 38 = .ok (.iload_n 1, 1) := by decide +kernel
theorem dX5_advance_39 : decode cX5_advance 39 = .ok (.iconst 1, 1) := by decide +kernel
theorem dX5_advance_40 : decode cX5_advance 40 = .ok (.isub, 1) := by decide +kernel
theorem dX5_advance_41 : decode cX5_advance 41 = .ok (.invokevirtual 114, 3) := by decide +kernel
theorem dX5_advance_44 : decode cX5_advance 44 = .ok (.if_icmp .ge 42, 3) := by decide +kernel
theorem dX5_advance_47 : decode cX5_advance 47 = .ok (.iload 5, 2) := by decide +kernel
theorem dX5_advance_49 : decode cX5_advance 49 = .ok (.aload_n 0, 1) := by decide +kernel
theorem dX5_advance_50 : decode cX5_advance 50 = .ok (.getfield 40, 3) := by decide +kernel
theorem dX5_advance_53 : decode cX5_advance 53 = .ok (.iload 6, 2) := by decide +kernel
theorem dX5_advance_55 : decode cX5_advance 55 = .ok (.iaload, 1) := by decide +kernel
theorem dX5_advance_56 : decode cX5_advance 56 = .ok (.aload_n 2, 1) := by decide +kernel
theorem dX5_advance_57 : decode cX5_advance 57 = .ok (.aload_n 0, 1) := by decide +kernel
theorem dX5_advance_58 : decode cX5_advance 58 = .ok (.getfield 46, 3) := by decide +kernel
theorem dX5_advance_61 : decode cX5_advance 61 = .ok (.iload_n 1, 1) := by decide +kernel
theorem dX5_advance_62 : decode cX5_advance 62 = .ok (.iconst 1, 1) := by decide +kernel
theorem dX5_advance_63 : decode cX5_advance 63 = .ok (.isub, 1) := by decide +kernel
theorem dX5_advance_64 : decode cX5_advance 64 = .ok (.iload 6, 2) := by decide +kernel
theorem dX5_advance_66 : decode cX5_advance 66 = .ok (.invokevirtual 82, 3) := by decide +kernel
theorem dX5_advance_69 : decode cX5_advance 69 = .ok (.iload 4, 2) := by decide +kernel
theorem dX5_advance_71 : decode cX5_advance 71 = .ok (.invokevirtual 135, 3) := by decide +kernel
theorem dX5_advance_74 : decode cX5_advance 74 = .ok (.iadd, 1) := by decide +kernel
theorem dX5_advance_75 : decode cX5_advance 75 = .ok (.invokestatic 130, 3) := by decide +kernel
theorem dX5_advance_78 : decode cX5_advance 78 = .ok (.istore 5, 2) := by decide +kernel
theorem dX5_advance_80 : decode cX5_advance 80 = .ok (.iinc 6 1, 3) := by decide +kernel
theorem dX5_advance_83 : decode cX5_advance 83 = .ok (.goto (-51), 3) := by decide +kernel
theorem dX5_advance_86 : decode cX5_advance 86 = .ok (.aload_n 0, 1) := by decide +kernel
theorem dX5_advance_87 : decode cX5_advance 87 = .ok (.getfield 43, 3) := by decide +kernel
theorem dX5_advance_90 : decode cX5_advance 90 = .ok (.iload_n 3, 1) := by decide +kernel
theorem dX5_advance_91 : decode cX5_advance 91 = .ok (.iload 5, 2) := by decide +kernel
theorem dX5_advance_93 : decode cX5_advance 93 = .ok (.aload_n 0, 1) := by decide +kernel
theorem dX5_advance_94 : decode cX5_advance 94 = .ok (.getfield 46, 3) := by decide +kernel
theorem dX5_advance_97 : decode cX5_advance 97 = .ok (.iload_n 1, 1) := by decide +kernel
theorem dX5_advance_98 : decode cX5_advance 98 = .ok (.iload_n 3, 1) := by decide +kernel
theorem dX5_advance_99 : decode cX5_advance 99 = .ok (.invokevirtual 111, 3) := by decide +kernel
theorem dX5_advance_102 : decode cX5_advance 102 = .ok (.iadd, 1) := by decide +kernel
theorem dX5_advance_103 : decode cX5_advance 103 = .ok (.iastore, 1) := by decide +kernel
theorem dX5_advance_104 : decode cX5_advance 104 = .ok (.iinc 3 1, 3) := by decide +kernel
theorem dX5_advance_107 : decode cX5_advance 107 = .ok (.goto (-105), 3) := by decide +kernel
theorem dX5_advance_110 : decode cX5_advance 110 = .ok (.iconst 0, 1) := by decide +kernel
theorem dX5_advance_111 : decode cX5_advance 111 = .ok (.istore_n 3, 1) := by decide +kernel
theorem dX5_advance_112 : decode cX5_advance 112 = .ok (.iload_n 3, 1) := by decide +kernel
theorem dX5_advance_113 : decode cX5_advance 113 = .ok (.aload_n 0, 1) := by decide +kernel
theorem dX5_advance_114 : decode cX5_advance 114 = .ok (.getfield 46, 3) := by decide +kernel
theorem dX5_advance_117 : decode cX5_advance 117 = .ok (.iload_n 1, 1) := by decide +kernel
theorem dX5_advance_118 : decode cX5_advance 118 = .ok (.invokevirtual 114, 3) := by decide +kernel
theorem dX5_advance_121 : decode cX5_advance 121 = .ok (.if_icmp .ge 21, 3) := by decide +kernel
theorem dX5_advance_124 : decode cX5_advance 124 = .ok (.aload_n 0, 1) := by decide +kernel
theorem dX5_advance_125 : decode cX5_advance 125 = .ok (.getfield 40, 3) := by decide +kernel
theorem dX5_advance_128 : decode cX5_advance 128 = .ok (.iload_n 3, 1) := by decide +kernel
theorem dX5_advance_129 : decode cX5_advance 129 = .ok (.aload_n 0, 1) := by decide +kernel
theorem dX5_advance_130 : decode cX5_advance 130 = .ok (.getfield 43, 3) := by decide +kernel
theorem dX5_advance_133 : decode cX5_advance 133 = .ok (.iload_n 3, 1) := by decide +kernel
theorem dX5_advance_134 : decode cX5_advance 134 = .ok (.iaload, 1) := by decide +kernel
theorem dX5_advance_135 : decode cX5_advance 135 = .ok (.iastore, 1) := by decide +kernel
theorem dX5_advance_136 : decode cX5_advance 136 = .ok (.iinc 3 1, 3) := by decide +kernel
theorem dX5_advance_139 : decode cX5_advance 139 = .ok (.goto (-27), 3) := by decide +kernel
theorem dX5_advance_142 : decode cX5_advance 142 = .ok (.return_, 1) := by decide +kernel
theorem dX6_init_0 : decode cX6_init 0 = .ok (.aload_n 0, 1) := by decide +kernel
theorem dX6_init_1 : decode cX6_init 1 = .ok (.invokespecial 3, 3) := by decide +kernel
theorem dX6_init_4 : decode cX6_init 4 = .ok (.aload_n 0, 1) := by decide +kernel
theorem dX6_init_5 : decode cX6_init 5 = .ok (.new 9, 3) := by decide +kernel
theorem dX6_init_8 : decode cX6_init 8 = .ok (.dup, 1) := by decide +kernel
theorem dX6_init_9 : decode cX6_init 9 = .ok (.invokespecial 11, 3) := by decide +kernel
theorem dX6_init_12 : decode cX6_init 12 = .ok (.putfield 12, 3) := by decide +kernel
theorem dX6_init_15 : decode cX6_init 15 = .ok (.aload_n 0, 1) := by decide +kernel
theorem dX6_init_16 : decode cX6_init 16 = .ok (.sipush 4848, 3) := by decide +kernel
theorem dX6_init_19 : decode cX6_init 19 = .ok (.newarray .int, 2) := by decide +kernel
theorem dX6_init_21 : decode cX6_init 21 = .ok (.putfield 18, 3) := by decide +kernel
theorem dX6_init_24 : decode cX6_init 24 = .ok (.aload_n 0, 1) := by decide +kernel
theorem dX6_init_25 : decode cX6_init 25 = .ok (.sipush 4848, 3) := by decide +kernel
theorem dX6_init_28 : decode cX6_init 28 = .ok (.newarray .int, 2) := by decide +kernel
theorem dX6_init_30 : decode cX6_init 30 = .ok (.putfield 22, 3) := by decide +kernel
theorem dX6_init_33 : decode cX6_init 33 = .ok (.aload_n 0, 1) := by decide +kernel
theorem dX6_init_34 : decode cX6_init 34 = .ok (.sipush 606, 3) := by decide +kernel
theorem dX6_init_37 : decode cX6_init 37 = .ok (.newarray .int, 2) := by decide +kernel
theorem dX6_init_39 : decode cX6_init 39 = .ok (.putfield 25, 3) := by decide +kernel
theorem dX6_init_42 : decode cX6_init 42 = .ok (.aload_n 0, 1) := by decide +kernel
theorem dX6_init_43 : decode cX6_init 43 = .ok (.bipush 6, 2) := by decide +kernel
theorem dX6_init_45 : decode cX6_init 45 = .ok (.newarray .int, 2) := by decide +kernel
theorem dX6_init_47 : decode cX6_init 47 = .ok (.putfield 28, 3) := by decide +kernel
theorem dX6_init_50 : decode cX6_init 50 = .ok (.aload_n 0, 1) := by decide +kernel
theorem dX6_init_51 : decode cX6_init 51 = .ok (.bipush 6, 2) := by decide +kernel
theorem dX6_init_53 : decode cX6_init 53 = .ok (.newarray .int, 2) := by decide +kernel
theorem dX6_init_55 : decode cX6_init 55 = .ok (.putfield 31, 3) := by decide +kernel
theorem dX6_init_58 : decode cX6_init 58 = .ok (.aload_n 0, 1) := by decide +kernel
theorem dX6_init_59 : decode cX6_init 59 = .ok (.aload_n 1, 1) := by decide +kernel
theorem dX6_init_60 : decode cX6_init 60 = .ok (.putfield 34, 3) := by decide +kernel
theorem dX6_init_63 : decode cX6_init 63 = .ok (.aload_n 0, 1) := by decide +kernel
theorem dX6_init_64 : decode cX6_init 64 = .ok (.aload_n 2, 1) := by decide +kernel
theorem dX6_init_65 : decode cX6_init 65 = .ok (.putfield 38, 3) := by decide +kernel
theorem dX6_init_68 : decode cX6_init 68 = .ok (.return_, 1) := by decide +kernel
theorem dX6_find_0 : decode cX6_find 0 = .ok (.aload_n 0, 1) := by decide +kernel
theorem dX6_find_1 : decode cX6_find 1 = .ok (.getfield 12, 3) := by decide +kernel
theorem dX6_find_4 : decode cX6_find 4 = .ok (.aload_n 0, 1) := by decide +kernel
theorem dX6_find_5 : decode cX6_find 5 = .ok (.getfield 38, 3) := by decide +kernel
theorem dX6_find_8 : decode cX6_find 8 = .ok (.invokevirtual 42, 3) := by decide +kernel
theorem dX6_find_11 : decode cX6_find 11 = .ok (.aload_n 0, 1) := by decide +kernel
theorem dX6_find_12 : decode cX6_find 12 = .ok (.getfield 34, 3) := by decide +kernel
theorem dX6_find_15 : decode cX6_find 15 = .ok (.invokevirtual 46, 3) := by decide +kernel
theorem dX6_find_18 : decode cX6_find 18 = .ok (.iconst 1, 1) := by decide +kernel
theorem dX6_find_19 : decode cX6_find 19 = .ok (.isub, 1) := by decide +kernel
theorem dX6_find_20 : decode cX6_find 20 = .ok (.istore_n 1, 1) := by decide +kernel
theorem dX6_find_21 : decode cX6_find 21 = .ok (.iload_n 1, 1) := by decide +kernel
theorem dX6_find_22 : decode cX6_find 22 = .ok (.ifCond .lt 35, 3) := by decide +kernel
theorem dX6_find_25 : decode cX6_find 25 = .ok (.iconst 0, 1) := by decide +kernel
theorem dX6_find_26 : decode cX6_find 26 = .ok (.istore_n 2, 1) := by decide +kernel
theorem dX6_find_27 : decode cX6_find 27 = .ok (.iload_n 2, 1) := by decide +kernel
theorem dX6_find_28 : decode cX6_find 28 = .ok (.aload_n 0, 1) := by decide +kernel
theorem dX6_find_29 : decode cX6_find 29 = .ok (.getfield 34, 3) := by decide +kernel
theorem dX6_find_32 : decode cX6_find 32 = .ok (.iload_n 1, 1) := by decide +kernel
theorem dX6_find_33 : decode cX6_find 33 = .ok (.invokevirtual 52, 3) := by decide +kernel
theorem dX6_find_36 : decode cX6_find 36 = .ok (.if_icmp .ge 15, 3) := by decide +kernel
theorem dX6_find_39 : decode cX6_find 39 = .ok (.aload_n 0, 1) := by decide +kernel
theorem dX6_find_40 : decode cX6_find 40 = .ok (.iload_n 1, 1) := by decide +kernel
theorem dX6_find_41 : decode cX6_find 41 = .ok (.iload_n 2, 1) := by decide +kernel
theorem dX6_find_42 : decode cX6_find 42 = .ok (.invokevirtual 56, 3) := by decide +kernel
theorem dX6_find_45 : decode cX6_find 45 = .ok (.iinc 2 1, 3) := by decide +kernel
theorem dX6_find_48 : decode cX6_find 48 = .ok (.goto (-21), 3) := by decide +kernel
theorem dX6_find_51 : decode cX6_find 51 = .ok (.iinc 1 (-1), 3) := by decide +kernel
theorem dX6_find_54 : decode cX6_find 54 = .ok (.goto (-33), 3) := by decide +kernel
theorem dX6_find_57 : decode cX6_find 57 = .ok (.aload_n 0, 1) := by decide +kernel
theorem dX6_find_58 : decode cX6_find 58 = .ok (.iconst (-1), 1) := by decide +kernel
theorem dX6_find_59 : decode cX6_find 59 = .ok (.iconst 0, 1) := by decide +kernel
theorem dX6_find_60 : decode cX6_find 60 = .ok (.invokevirtual 56, 3) := by decide +kernel
theorem dX6_find_63 : decode cX6_find 63 = .ok (.return_, 1) := by decide +kernel
theorem dX6_priceOf_0 : decode cX6_priceOf 0 = .ok (.iload_n 1, 1) := by decide +kernel
theorem dX6_priceOf_1 : decode cX6_priceOf 1 = .ok (.ifCond .lt 19, 3) := by decide +kernel
theorem dX6_priceOf_4 : decode cX6_priceOf 4 = .ok (.iload_n 1, 1) := by decide +kernel
theorem dX6_priceOf_5 : decode cX6_priceOf 5 = .ok (.aload_n 0, 1) := by decide +kernel
theorem dX6_priceOf_6 : decode cX6_priceOf 6 = .ok (.getfield 25, 3) := by decide +kernel
theorem dX6_priceOf_9 : decode cX6_priceOf 9 = .ok (.iconst 0, 1) := by decide +kernel
theorem dX6_priceOf_10 : decode cX6_priceOf 10 = .ok (.iaload, 1) := by decide +kernel
theorem dX6_priceOf_11 : decode cX6_priceOf 11 = .ok (.if_icmp .ge 9, 3) := by decide +kernel
theorem dX6_priceOf_14 : decode cX6_priceOf 14 = .ok (.iload_n 1, 1) := by decide +kernel
theorem dX6_priceOf_15 : decode cX6_priceOf 15 = .ok (.bipush 8, 2) := by decide +kernel
theorem dX6_priceOf_17 : decode cX6_priceOf 17 = .ok (.if_icmp .lt 7, 3) := by decide +kernel
theorem dX6_priceOf_20 : decode cX6_priceOf 20 = .ok (.iconst (-1), 1) := by decide +kernel
theorem dX6_priceOf_21 : decode cX6_priceOf 21 = .ok (.goto 9, 3) := by decide +kernel
theorem dX6_priceOf_24 : decode cX6_priceOf 24 = .ok (.aload_n 0, 1) := by decide +kernel
theorem dX6_priceOf_25 : decode cX6_priceOf 25 = .ok (.getfield 18, 3) := by decide +kernel
theorem dX6_priceOf_28 : decode cX6_priceOf 28 = .ok (.iload_n 1, 1) := by decide +kernel
theorem dX6_priceOf_29 : decode cX6_priceOf 29 = .ok (.iaload, 1) := by decide +kernel
theorem dX6_priceOf_30 : decode cX6_priceOf 30 = .ok (.ireturn, 1) := by decide +kernel
theorem dX6_chosenIn_0 : decode cX6_chosenIn 0 = .ok (.iload_n 1, 1) := by decide +kernel
theorem dX6_chosenIn_1 : decode cX6_chosenIn 1 = .ok (.ifCond .lt 34, 3) := by decide +kernel
theorem dX6_chosenIn_4 : decode cX6_chosenIn 4 = .ok (.iload_n 1, 1) := by decide +kernel
theorem dX6_chosenIn_5 : decode cX6_chosenIn 5 = .ok (.aload_n 0, 1) := by decide +kernel
theorem dX6_chosenIn_6 : decode cX6_chosenIn 6 = .ok (.getfield 25, 3) := by decide +kernel
theorem dX6_chosenIn_9 : decode cX6_chosenIn 9 = .ok (.iconst 0, 1) := by decide +kernel
theorem dX6_chosenIn_10 : decode cX6_chosenIn 10 = .ok (.iaload, 1) := by decide +kernel
theorem dX6_chosenIn_11 : decode cX6_chosenIn 11 = .ok (.if_icmp .ge 24, 3) := by decide +kernel
theorem dX6_chosenIn_14 : decode cX6_chosenIn 14 = .ok (.iload_n 1, 1) := by decide +kernel
theorem dX6_chosenIn_15 : decode cX6_chosenIn 15 = .ok (.bipush 8, 2) := by decide +kernel
theorem dX6_chosenIn_17 : decode cX6_chosenIn 17 = .ok (.if_icmp .ge 18, 3) := by decide +kernel
theorem dX6_chosenIn_20 : decode cX6_chosenIn 20 = .ok (.iload_n 2, 1) := by decide +kernel
theorem dX6_chosenIn_21 : decode cX6_chosenIn 21 = .ok (.ifCond .lt 14, 3) := by decide +kernel
theorem dX6_chosenIn_24 : decode cX6_chosenIn 24 = .ok (.iload_n 2, 1) := by decide +kernel
theorem dX6_chosenIn_25 : decode cX6_chosenIn 25 = .ok (.aload_n 0, 1) := by decide +kernel
theorem dX6_chosenIn_26 : decode cX6_chosenIn 26 = .ok (.getfield 34, 3) := by decide +kernel
theorem dX6_chosenIn_29 : decode cX6_chosenIn 29 = .ok (.invokevirtual 46, 3) := by decide +kernel
theorem dX6_chosenIn_32 : decode cX6_chosenIn 32 = .ok (.if_icmp .lt 5, 3) := by decide +kernel
theorem dX6_chosenIn_35 : decode cX6_chosenIn 35 = .ok (.iconst (-1), 1) := by decide +kernel
theorem dX6_chosenIn_36 : decode cX6_chosenIn 36 = .ok (.ireturn, 1) := by decide +kernel
theorem dX6_chosenIn_37 : decode cX6_chosenIn 37 = .ok (.aload_n 0, 1) := by decide +kernel
theorem dX6_chosenIn_38 : decode cX6_chosenIn 38 = .ok (.getfield 22, 3) := by decide +kernel
theorem dX6_chosenIn_41 : decode cX6_chosenIn 41 = .ok (.iload_n 1, 1) := by decide +kernel
theorem dX6_chosenIn_42 : decode cX6_chosenIn 42 = .ok (.iaload, 1) := by decide +kernel
theorem dX6_chosenIn_43 : decode cX6_chosenIn 43 = .ok (.istore_n 3, 1) := by decide +kernel
theorem dX6_chosenIn_44 : decode cX6_chosenIn 44 = .ok (.iconst 0, 1) := by decide +kernel
theorem dX6_chosenIn_45 : decode cX6_chosenIn 45 = .ok (.istore 4, 2) := by decide +kernel
theorem dX6_chosenIn_47 : decode cX6_chosenIn 47 = .ok (.iload 4, 2) := by decide +kernel
theorem dX6_chosenIn_49 : decode cX6_chosenIn 49 = .ok (.iload_n 2, 1) := by decide +kernel
theorem dX6_chosenIn_50 : decode cX6_chosenIn 50 = .ok (.if_icmp .ge 51, 3) := by decide +kernel
theorem dX6_chosenIn_53 : decode cX6_chosenIn 53 = .ok (.iload_n 3, 1) := by decide +kernel
theorem dX6_chosenIn_54 : decode cX6_chosenIn 54 = .ok (.ifCond .lt 19, 3) := by decide +kernel
theorem dX6_chosenIn_57 : decode cX6_chosenIn 57 = .ok (.aload_n 0, 1) := by decide +kernel
theorem dX6_chosenIn_58 : decode cX6_chosenIn 58 = .ok (.getfield 34, 3) := by decide +kernel
theorem dX6_chosenIn_61 : decode cX6_chosenIn 61 = .ok (.iload 4, 2) := by decide +kernel
theorem dX6_chosenIn_63 : decode cX6_chosenIn 63 = .ok (.iload_n 3, 1) := by decide +kernel
theorem dX6_chosenIn_64 : decode cX6_chosenIn 64 = .ok (.bipush 8, 2) := by decide +kernel
theorem dX6_chosenIn_66 : decode cX6_chosenIn 66 = .ok (.idiv, 1) := by decide +kernel
theorem dX6_chosenIn_67 : decode cX6_chosenIn 67 = .ok (.invokevirtual 60, 3) := by decide +kernel
theorem dX6_chosenIn_70 : decode cX6_chosenIn 70 = .ok (.ifCond .ne 5, 3) := by decide +kernel
theorem dX6_chosenIn_73 : decode cX6_chosenIn 73 = .ok (.iconst (-1), 1) := by decide +kernel
theorem dX6_chosenIn_74 : decode cX6_chosenIn 74 = .ok (.ireturn, 1) := by decide +kernel
theorem dX6_chosenIn_75 : decode cX6_chosenIn 75 = .ok (.aload_n 0, 1) := by decide +kernel
theorem dX6_chosenIn_76 : decode cX6_chosenIn 76 = .ok (.getfield 22, 3) := by decide +kernel
theorem dX6_chosenIn_79 : decode cX6_chosenIn 79 = .ok (.iload 4, 2) := by decide +kernel
theorem dX6_chosenIn_81 : decode cX6_chosenIn 81 = .ok (.iload_n 3, 1) := by decide +kernel
theorem dX6_chosenIn_82 : decode cX6_chosenIn 82 = .ok (.bipush 8, 2) := by decide +kernel
theorem dX6_chosenIn_84 : decode cX6_chosenIn 84 = .ok (.idiv, 1) := by decide +kernel
theorem dX6_chosenIn_85 : decode cX6_chosenIn 85 = .ok (.invokestatic 64, 3) := by decide +kernel
theorem dX6_chosenIn_88 : decode cX6_chosenIn 88 = .ok (.iload_n 3, 1) := by decide +kernel
theorem dX6_chosenIn_89 : decode cX6_chosenIn 89 = .ok (.bipush 8, 2) := by decide +kernel
theorem dX6_chosenIn_91 : decode cX6_chosenIn 91 = .ok (.irem, 1) := by decide +kernel
theorem dX6_chosenIn_92 : decode cX6_chosenIn 92 = .ok (.iadd, 1) := by decide +kernel
theorem dX6_chosenIn_93 : decode cX6_chosenIn 93 = .ok (.iaload, 1) := by decide +kernel
theorem dX6_chosenIn_94 : decode cX6_chosenIn 94 = .ok (.istore_n 3, 1) := by decide +kernel
theorem dX6_chosenIn_95 : decode cX6_chosenIn 95 = .ok (.iinc 4 1, 3) := by decide +kernel
theorem dX6_chosenIn_98 : decode cX6_chosenIn 98 = .ok (.goto (-51), 3) := by decide +kernel
theorem dX6_chosenIn_101 : decode cX6_chosenIn 101 = .ok (.iload_n 3, 1) := by decide +kernel
theorem dX6_chosenIn_102 : decode cX6_chosenIn 102 = .ok (.bipush 8, 2) := by decide +kernel
theorem dX6_chosenIn_104 : decode cX6_chosenIn 104 = .ok (.idiv, 1) := by decide +kernel
theorem dX6_chosenIn_105 : decode cX6_chosenIn 105 = .ok (.ireturn, 1) := by decide +kernel
theorem dX6_place_0 : decode cX6_place 0 = .ok (.iload_n 0, 1) := by decide +kernel
theorem dX6_place_1 : decode cX6_place 1 = .ok (.iconst 1, 1) := by decide +kernel
theorem dX6_place_2 : decode cX6_place 2 = .ok (.iadd, 1) := by decide +kernel
theorem dX6_place_3 : decode cX6_place 3 = .ok (.iload_n 1, 1) := by decide +kernel
theorem dX6_place_4 : decode cX6_place 4 = .ok (.invokestatic 68, 3) := by decide +kernel
theorem dX6_place_7 : decode cX6_place 7 = .ok (.bipush 8, 2) := by decide +kernel
theorem dX6_place_9 : decode cX6_place 9 = .ok (.imul, 1) := by decide +kernel
theorem dX6_place_10 : decode cX6_place 10 = .ok (.ireturn, 1) := by decide +kernel
theorem dX6_findWays_0 : decode cX6_findWays 0 = .ok (.aload_n 0, 1) := by decide +kernel
theorem dX6_findWays_1 : decode cX6_findWays 1 = .ok (.getfield 34, 3) := by decide +kernel
theorem dX6_findWays_4 : decode cX6_findWays 4 = .ok (.iload_n 1, 1) := by decide +kernel
theorem dX6_findWays_5 : decode cX6_findWays 5 = .ok (.iload_n 2, 1) := by decide +kernel
theorem dX6_findWays_6 : decode cX6_findWays 6 = .ok (.invokevirtual 71, 3) := by decide +kernel
theorem dX6_findWays_9 : decode cX6_findWays 9 = .ok (.istore_n 3, 1) := by decide +kernel
theorem dX6_findWays_10 : decode cX6_findWays 10 = .ok (.iload_n 1, 1) := by decide +kernel
theorem dX6_findWays_11 : decode cX6_findWays 11 = .ok (.iload_n 2, 1) := by decide +kernel
theorem dX6_findWays_12 : decode cX6_findWays 12 = .ok (.invokestatic 64, 3) := by decide +kernel
theorem dX6_findWays_15 : decode cX6_findWays 15 = .ok (.istore 4, 2) := by decide +kernel
theorem dX6_findWays_17 : decode cX6_findWays 17 = .ok (.iload_n 1, 1) := by decide +kernel
theorem dX6_findWays_18 : decode cX6_findWays 18 = .ok (.iconst 1, 1) := by decide +kernel
theorem dX6_findWays_19 : decode cX6_findWays 19 = .ok (.iadd, 1) := by decide +kernel
theorem dX6_findWays_20 : decode cX6_findWays 20 = .ok (.aload_n 0, 1) := by decide +kernel
theorem dX6_findWays_21 : decode cX6_findWays 21 = .ok (.getfield 34, 3) := by decide +kernel
theorem dX6_findWays_24 : decode cX6_findWays 24 = .ok (.invokevirtual 46, 3) := by decide +kernel
theorem dX6_findWays_27 : decode cX6_findWays 27 = .ok (.if_icmp .lt 25, 3) := by decide +kernel
theorem dX6_findWays_30 : decode cX6_findWays 30 = .ok (.aload_n 0, 1) := by decide +kernel
theorem dX6_findWays_31 : decode cX6_findWays 31 = .ok (.getfield 18, 3) := by decide +kernel
theorem dX6_findWays_34 : decode cX6_findWays 34 = .ok (.iload 4, 2) := by decide +kernel
theorem dX6_findWays_36 : decode cX6_findWays 36 = .ok (.iload_n 3, 1) := by decide +kernel
theorem dX6_findWays_37 : decode cX6_findWays 37 = .ok (.iastore, 1) := by decide +kernel
theorem dX6_findWays_38 : decode cX6_findWays 38 = .ok (.aload_n 0, 1) := by decide +kernel
theorem dX6_findWays_39 : decode cX6_findWays 39 = .ok (.getfield 25, 3) := by decide +kernel
theorem dX6_findWays_42 : decode cX6_findWays 42 = .ok (.iload_n 1, 1) := by decide +kernel
theorem dX6_findWays_43 : decode cX6_findWays 43 = .ok (.iconst 1, 1) := by decide +kernel
theorem dX6_findWays_44 : decode cX6_findWays 44 = .ok (.iadd, 1) := by decide +kernel
theorem dX6_findWays_45 : decode cX6_findWays 45 = .ok (.iload_n 2, 1) := by decide +kernel
theorem dX6_findWays_46 : decode cX6_findWays 46 = .ok (.invokestatic 68, 3) := by decide +kernel
theorem dX6_findWays_49 : decode cX6_findWays 49 = .ok (.iconst 1, 1) := by decide +kernel
theorem dX6_findWays_50 : decode cX6_findWays 50 = .ok (.iastore, 1) := by decide +kernel
theorem dX6_findWays_51 : decode cX6_findWays 51 = .ok (.return_, 1) := by decide +kernel
theorem dX6_findWays_52 : decode cX6_findWays 52 = .ok (.iconst 0, 1) := by decide +kernel
theorem dX6_findWays_53 : decode cX6_findWays 53 = .ok (.istore 5, 2) := by decide +kernel
theorem dX6_findWays_55 : decode cX6_findWays 55 = .ok (.iload 5, 2) := by decide +kernel
theorem dX6_findWays_57 : decode cX6_findWays 57 = .ok (.aload_n 0, 1) := by decide +kernel
theorem dX6_findWays_58 : decode cX6_findWays 58 = .ok (.getfield 34, 3) := by decide +kernel
theorem dX6_findWays_61 : decode cX6_findWays 61 = .ok (.iload_n 1, 1) := by decide +kernel
theorem dX6_findWays_62 : decode cX6_findWays 62 = .ok (.iconst 1, 1) := by decide +kernel
theorem dX6_findWays_63 : decode cX6_findWays 63 = .ok (.iadd, 1) := by decide +kernel
theorem dX6_findWays_64 : decode cX6_findWays 64 = .ok (.invokevirtual 52, 3) := by decide +kernel
theorem dX6_findWays_67 : decode cX6_findWays 67 = .ok (.if_icmp .ge 60, 3) := by decide +kernel
theorem dX6_findWays_70 : decode cX6_findWays 70 = .ok (.aload_n 0, 1) := by decide +kernel
theorem dX6_findWays_71 : decode cX6_findWays 71 = .ok (.getfield 28, 3) := by decide +kernel
theorem dX6_findWays_74 : decode cX6_findWays 74 = .ok (.iload 5, 2) := by decide +kernel
theorem dX6_findWays_76 : decode cX6_findWays 76 = .ok (.iconst 0, 1) := by decide +kernel
theorem dX6_findWays_77 : decode cX6_findWays 77 = .ok (.iastore, 1) := by decide +kernel
theorem dX6_findWays_78 : decode cX6_findWays 78 = .ok (.aload_n 0, 1) := by decide +kernel
theorem dX6_findWays_79 : decode cX6_findWays 79 = .ok (.getfield 31, 3) := by decide +kernel
theorem dX6_findWays_82 : decode cX6_findWays 82 = .ok (.iload 5, 2) := by decide +kernel
theorem dX6_findWays_84 : decode cX6_findWays 84 = .ok (.iload_n 1, 1) := by decide +kernel
theorem dX6_findWays_85 : decode cX6_findWays 85 = .ok (.ifCond .ge 7, 3) := by decide +kernel
theorem dX6_findWays_88 : decode cX6_findWays 88 = .ok (.iconst 0, 1) := by decide +kernel
theorem dX6_findWays_89 : decode cX6_findWays 89 = .ok (.goto 31, 3) := by decide +kernel
theorem dX6_findWays_92 : decode cX6_findWays 92 = .ok (.aload_n 0, 1) := by decide +kernel
theorem dX6_findWays_93 : decode cX6_findWays 93 = .ok (.getfield 12, 3) := by decide +kernel
theorem dX6_findWays_96 : decode cX6_findWays 96 = .ok (.aload_n 0, 1) := by decide +kernel
theorem dX6_findWays_97 : decode cX6_findWays 97 = .ok (.getfield 34, 3) := by decide +kernel
theorem dX6_findWays_100 : decode cX6_findWays 100 = .ok (.iload_n 1, 1) := by decide +kernel
theorem dX6_findWays_101 : decode cX6_findWays 101 = .ok (.iload_n 2, 1) := by decide +kernel
theorem dX6_findWays_102 : decode cX6_findWays 102 = .ok (.invokevirtual 74, 3) := by decide +kernel
theorem dX6_findWays_105 : decode cX6_findWays 105 = .ok (.aload_n 0, 1) := by decide +kernel
theorem dX6_findWays_106 : decode cX6_findWays 106 = .ok (.getfield 34, 3) := by decide +kernel
theorem dX6_findWays_109 : decode cX6_findWays 109 = .ok (.iload_n 1, 1) := by decide +kernel
theorem dX6_findWays_110 : decode cX6_findWays 110 = .ok (.iconst 1, 1) := by decide +kernel
theorem dX6_findWays_111 : decode cX6_findWays 111 = .ok (.iadd, 1) := by decide +kernel
theorem dX6_findWays_112 : decode cX6_findWays 112 = .ok (.iload 5, 2) := by decide +kernel
theorem dX6_findWays_114 : decode cX6_findWays 114 = .ok (.invokevirtual 74, 3) := by decide +kernel
theorem dX6_findWays_117 : decode cX6_findWays 117 = .ok (.invokevirtual 77, 3) := by decide +kernel
theorem dX6_findWays_120 : decode cX6_findWays 120 = .ok (.iastore, 1) := by decide +kernel
theorem dX6_findWays_121 : decode cX6_findWays 121 = .ok (.iinc 5 1, 3) := by decide +kernel
theorem dX6_findWays_124 : decode cX6_findWays 124 = .ok (.goto (-69), 3) := by decide +kernel
theorem dX6_findWays_127 : decode cX6_findWays 127 = .ok (.iconst 0, 1) := by decide +kernel
theorem dX6_findWays_128 : decode cX6_findWays 128 = .ok (.istore 5, 2) := by decide +kernel
theorem dX6_findWays_130 : decode cX6_findWays 130 = .ok (.aload_n 0, 1) := by decide +kernel
theorem dX6_findWays_131 : decode cX6_findWays 131 = .ok (.iload_n 1, 1) := by decide +kernel
theorem dX6_findWays_132 : decode cX6_findWays 132 = .ok (.iconst 1, 1) := by decide +kernel
theorem dX6_findWays_133 : decode cX6_findWays 133 = .ok (.iadd, 1) := by decide +kernel
theorem dX6_findWays_134 : decode cX6_findWays 134 = .ok (.invokevirtual 80, 3) := by decide +kernel
theorem dX6_findWays_137 : decode cX6_findWays 137 = .ok (.istore 6, 2) := by decide +kernel
theorem dX6_findWays_139 : decode cX6_findWays 139 = .ok (.iload 5, 2) := by decide +kernel
theorem dX6_findWays_141 : decode cX6_findWays 141 = .ok (.bipush 8, 2) := by decide +kernel
theorem dX6_findWays_143 : decode cX6_findWays 143 = .ok (.if_icmp .ge 99, 3) := by decide +kernel
theorem dX6_findWays_146 : decode cX6_findWays 146 = .ok (.iload 6, 2) := by decide +kernel
theorem dX6_findWays_148 : decode cX6_findWays 148 = .ok (.iconst (-1), 1) := by decide +kernel
theorem dX6_findWays_149 : decode cX6_findWays 149 = .ok (.if_icmp .eq 93, 3) := by decide +kernel
theorem dX6_findWays_152 : decode cX6_findWays 152 = .ok (.aload_n 0, 1) := by decide +kernel
theorem dX6_findWays_153 : decode cX6_findWays 153 = .ok (.getfield 18, 3) := by decide +kernel
theorem dX6_findWays_156 : decode cX6_findWays 156 = .ok (.iload 4, 2) := by decide +kernel
theorem dX6_findWays_158 : decode cX6_findWays 158 = .ok (.iload 5, 2) := by decide +kernel
theorem dX6_findWays_160 : decode cX6_findWays 160 = .ok (.iadd, 1) := by decide +kernel
theorem dX6_findWays_161 : decode cX6_findWays 161 = .ok (.iload_n 3, 1) := by decide +kernel
theorem dX6_findWays_162 : decode cX6_findWays 162 = .ok (.aload_n 0, 1) := by decide +kernel
theorem dX6_findWays_163 : decode cX6_findWays 163 = .ok (.getfield 31, 3) := by decide +kernel
theorem dX6_findWays_166 : decode cX6_findWays 166 = .ok (.iload 6, 2) := by decide +kernel
theorem dX6_findWays_168 : decode cX6_findWays 168 = .ok (.iaload, 1) := by decide +kernel
theorem dX6_findWays_169 : decode cX6_findWays 169 = .ok (.iadd, 1) := by decide +kernel
theorem dX6_findWays_170 : decode cX6_findWays 170 = .ok (.aload_n 0, 1) := by decide +kernel
theorem dX6_findWays_171 : decode cX6_findWays 171 = .ok (.getfield 18, 3) := by decide +kernel
theorem dX6_findWays_174 : decode cX6_findWays 174 = .ok (.iload_n 1, 1) := by decide +kernel
theorem dX6_findWays_175 : decode cX6_findWays 175 = .ok (.iconst 1, 1) := by decide +kernel
theorem dX6_findWays_176 : decode cX6_findWays 176 = .ok (.iadd, 1) := by decide +kernel
theorem dX6_findWays_177 : decode cX6_findWays 177 = .ok (.iload 6, 2) := by decide +kernel
theorem dX6_findWays_179 : decode cX6_findWays 179 = .ok (.invokestatic 64, 3) := by decide +kernel
theorem dX6_findWays_182 : decode cX6_findWays 182 = .ok (.aload_n 0, 1) := by decide +kernel
theorem dX6_findWays_183 : decode cX6_findWays 183 = .ok (.getfield 28, 3) := by decide +kernel
theorem dX6_findWays_186 : decode cX6_findWays 186 = .ok (.iload 6, 2) := by decide +kernel
theorem dX6_findWays_188 : decode cX6_findWays 188 = .ok (.iaload, 1) := by decide +kernel
theorem dX6_findWays_189 : decode cX6_findWays 189 = .ok (.iadd, 1) := by decide +kernel
theorem dX6_findWays_190 : decode cX6_findWays 190 = .ok (.iaload, 1) := by decide +kernel
theorem dX6_findWays_191 : decode cX6_findWays 191 = .ok (.iadd, 1) := by decide +kernel
theorem dX6_findWays_192 : decode cX6_findWays 192 = .ok (.iastore, 1) := by decide +kernel
theorem dX6_findWays_193 : decode cX6_findWays 193 = .ok (.aload_n 0, 1) := by decide +kernel
theorem dX6_findWays_194 : decode cX6_findWays 194 = .ok (.getfield 22, 3) := by decide +kernel
theorem dX6_findWays_197 : decode cX6_findWays 197 = .ok (.iload 4, 2) := by decide +kernel
theorem dX6_findWays_199 : decode cX6_findWays 199 = .ok (.iload 5, 2) := by decide +kernel
theorem dX6_findWays_201 : decode cX6_findWays 201 = .ok (.iadd, 1) := by decide +kernel
theorem dX6_findWays_202 : decode cX6_findWays 202 = .ok (.iload 6, 2) := by decide +kernel
theorem dX6_findWays_204 : decode cX6_findWays 204 = .ok (.bipush 8, 2) := by decide +kernel
theorem dX6_findWays_206 : decode cX6_findWays 206 = .ok (.imul, 1) := by decide +kernel
theorem dX6_findWays_207 : decode cX6_findWays 207 = .ok (.aload_n 0, 1) := by decide +kernel
theorem dX6_findWays_208 : decode cX6_findWays 208 = .ok (.getfield 28, 3) := by decide +kernel
theorem dX6_findWays_211 : decode cX6_findWays 211 = .ok (.iload 6, 2) := by decide +kernel
theorem dX6_findWays_213 : decode cX6_findWays 213 = .ok (.iaload, 1) := by decide +kernel
theorem dX6_findWays_214 : decode cX6_findWays 214 = .ok (.iadd, 1) := by decide +kernel
theorem dX6_findWays_215 : decode cX6_findWays 215 = .ok (.iastore, 1) := by decide +kernel
theorem dX6_findWays_216 : decode cX6_findWays 216 = .ok (.aload_n 0, 1) := by decide +kernel
theorem dX6_findWays_217 : decode cX6_findWays 217 = .ok (.getfield 28, 3) := by decide +kernel
theorem dX6_findWays_220 : decode cX6_findWays 220 = .ok (.iload 6, 2) := by decide +kernel
theorem dX6_findWays_222 : decode cX6_findWays 222 = .ok (.dup2, 1) := by decide +kernel
theorem dX6_findWays_223 : decode cX6_findWays 223 = .ok (.iaload, 1) := by decide +kernel
theorem dX6_findWays_224 : decode cX6_findWays 224 = .ok (.iconst 1, 1) := by decide +kernel
theorem dX6_findWays_225 : decode cX6_findWays 225 = .ok (.iadd, 1) := by decide +kernel
theorem dX6_findWays_226 : decode cX6_findWays 226 = .ok (.iastore, 1) := by decide +kernel
theorem dX6_findWays_227 : decode cX6_findWays 227 = .ok (.iinc 5 1, 3) := by decide +kernel
theorem dX6_findWays_230 : decode cX6_findWays 230 = .ok (.aload_n 0, 1) := by decide +kernel
theorem dX6_findWays_231 : decode cX6_findWays 231 = .ok (.iload_n 1, 1) := by decide +kernel
theorem dX6_findWays_232 : decode cX6_findWays 232 = .ok (.iconst 1, 1) := by decide +kernel
theorem dX6_findWays_233 : decode cX6_findWays 233 = .ok (.iadd, 1) := by decide +kernel
theorem dX6_findWays_234 : decode cX6_findWays 234 = .ok (.invokevirtual 80, 3) := by decide +kernel
theorem dX6_findWays_237 : decode cX6_findWays 237 = .ok (.istore 6, 2) := by decide +kernel
theorem dX6_findWays_239 : decode cX6_findWays 239 = .ok (.goto (-100), 3) := by decide +kernel
theorem dX6_findWays_242 : decode cX6_findWays 242 = .ok (.aload_n 0, 1) := by decide +kernel
theorem dX6_findWays_243 : decode cX6_findWays 243 = .ok (.getfield 25, 3) := by decide +kernel
theorem dX6_findWays_246 : decode cX6_findWays 246 = .ok (.iload_n 1, 1) := by decide +kernel
theorem dX6_findWays_247 : decode cX6_findWays 247 = .ok (.iconst 1, 1) := by decide +kernel
theorem dX6_findWays_248 : decode cX6_findWays 248 = .ok (.iadd, 1) := by decide +kernel
theorem dX6_findWays_249 : decode cX6_findWays 249 = .ok (.iload_n 2, 1) := by decide +kernel
theorem dX6_findWays_250 : decode cX6_findWays 250 = .ok (.invokestatic 68, 3) := by decide +kernel
theorem dX6_findWays_253 : decode cX6_findWays 253 = .ok (.iload 5, 2) := by decide +kernel
theorem dX6_findWays_255 : decode cX6_findWays 255 = .ok (.iastore, 1) := by decide +kernel
theorem dX6_findWays_256 : decode cX6_findWays 256 = .ok (.return_, 1) := by decide +kernel
theorem dX6_cheapestNext_0 : decode cX6_cheapestNext 0 = .ok (.iconst (-1), 1) := by decide +kernel
theorem dX6_cheapestNext_1 : decode cX6_cheapestNext 1 = .ok (.istore_n 2, 1) := by decide +kernel
theorem dX6_cheapestNext_2 : decode cX6_cheapestNext 2 = .ok (.iconst 0, 1) := by decide +kernel
theorem dX6_cheapestNext_3 : decode cX6_cheapestNext 3 = .ok (.istore_n 3, 1) := by decide +kernel
theorem dX6_cheapestNext_4 : decode cX6_cheapestNext 4 = .ok (.iconst 0, 1) := by decide +kernel
theorem dX6_cheapestNext_5 : decode cX6_cheapestNext 5 = .ok (.istore 4, 2) := by decide +kernel
theorem dX6_cheapestNext_7 : decode cX6_cheapestNext 7 = .ok (.iload 4, 2) := by decide +kernel
theorem dX6_cheapestNext_9 : decode cX6_cheapestNext 9 = .ok (.aload_n 0, 1) := by decide +kernel
theorem dX6_cheapestNext_10 : decode cX6_cheapestNext 10 = .ok (.getfield 34, 3) := by decide +kernel
theorem dX6_cheapestNext_13 : decode cX6_cheapestNext 13 = .ok (.iload_n 1, 1) := by decide +kernel
theorem dX6_cheapestNext_14 : decode cX6_cheapestNext 14 = .ok (.invokevirtual 52, 3) := by decide +kernel
theorem dX6_cheapestNext_17 : decode cX6_cheapestNext 17 = .ok (.if_icmp .ge 90, 3) := by decide +kernel
theorem dX6_cheapestNext_20 : decode cX6_cheapestNext 20 = .ok (.aload_n 0, 1) := by decide +kernel
theorem dX6_cheapestNext_21 : decode cX6_cheapestNext 21 = .ok (.getfield 28, 3) := by decide +kernel
theorem dX6_cheapestNext_24 : decode cX6_cheapestNext 24 = .ok (.iload 4, 2) := by decide +kernel
theorem dX6_cheapestNext_26 : decode cX6_cheapestNext 26 = .ok (.iaload, 1) := by decide +kernel
theorem dX6_cheapestNext_27 : decode cX6_cheapestNext 27 = .ok (.aload_n 0, 1) := by decide +kernel
theorem dX6_cheapestNext_28 : decode cX6_cheapestNext 28 = .ok (.getfield 25, 3) := by decide +kernel
theorem dX6_cheapestNext_31 : decode cX6_cheapestNext 31 = .ok (.iload_n 1, 1) := by decide +kernel
theorem dX6_cheapestNext_32 : decode cX6_cheapestNext 32 = .ok (.iconst 1, 1) := by decide +kernel
theorem dX6_cheapestNext_33 : decode cX6_cheapestNext 33 = .ok (.iadd, 1) := by decide +kernel
theorem dX6_cheapestNext_34 : decode cX6_cheapestNext 34 = .ok (.iload 4, 2) := by decide +kernel
theorem dX6_cheapestNext_36 : decode cX6_cheapestNext 36 = .ok (.invokestatic 68, 3) := by decide +kernel
theorem dX6_cheapestNext_39 : decode cX6_cheapestNext 39 = .ok (.iaload, 1) := by decide +kernel
theorem dX6_cheapestNext_40 : decode cX6_cheapestNext 40 = .ok (.if_icmp .ge 61, 3) := by decide +kernel
theorem dX6_cheapestNext_43 : decode cX6_cheapestNext 43 = .ok (.aload_n 0, 1) := by decide +kernel
theorem dX6_cheapestNext_44 : decode cX6_cheapestNext 44 = .ok (.getfield 28, 3) := by decide +kernel
theorem dX6_cheapestNext_47 : decode cX6_cheapestNext 47 = .ok (.iload 4, 2) := by decide +kernel
theorem dX6_cheapestNext_49 : decode cX6_cheapestNext 49 = .ok (.iaload, 1) := by decide +kernel
theorem dX6_cheapestNext_50 : decode cX6_cheapestNext 50 = .ok (.bipush 8, 2) := by decide +kernel
theorem dX6_cheapestNext_52 : decode cX6_cheapestNext 52 = .ok (.if_icmp .ge 49, 3) := by decide +kernel
theorem dX6_cheapestNext_55 : decode cX6_cheapestNext 55 = .ok (.aload_n 0, 1) := by decide +kernel
theorem dX6_cheapestNext_56 : decode cX6_cheapestNext 56 = .ok (.getfield 31, 3) := by decide +kernel
theorem dX6_cheapestNext_59 : decode cX6_cheapestNext 59 = .ok (.iload 4, 2) := by decide +kernel
theorem dX6_cheapestNext_61 : decode cX6_cheapestNext 61 = .ok (.iaload, 1) := by decide +kernel
theorem dX6_cheapestNext_62 : decode cX6_cheapestNext 62 = .ok (.aload_n 0, 1) := by decide +kernel
theorem dX6_cheapestNext_63 : decode cX6_cheapestNext 63 = .ok (.getfield 18, 3) := by decide +kernel
theorem dX6_cheapestNext_66 : decode cX6_cheapestNext 66 = .ok (.iload_n 1, 1) := by decide +kernel
theorem dX6_cheapestNext_67 : decode cX6_cheapestNext 67 = .ok (.iload 4, 2) := by decide +kernel
theorem dX6_cheapestNext_69 : decode cX6_cheapestNext 69 = .ok (.invokestatic 64, 3) := by decide +kernel
theorem dX6_cheapestNext_72 : decode cX6_cheapestNext 72 = .ok (.aload_n 0, 1) := by decide +kernel
theorem dX6_cheapestNext_73 : decode cX6_cheapestNext 73 = .ok (.getfield 28, 3) := by decide +kernel
theorem dX6_cheapestNext_76 : decode cX6_cheapestNext 76 = .ok (.iload 4, 2) := by decide +kernel
theorem dX6_cheapestNext_78 : decode cX6_cheapestNext 78 = .ok (.iaload, 1) := by decide +kernel
theorem dX6_cheapestNext_79 : decode cX6_cheapestNext 79 = .ok (.iadd, 1) := by decide +kernel
theorem dX6_cheapestNext_80 : decode cX6_cheapestNext 80 = .ok (.iaload, 1) := by decide +kernel
theorem dX6_cheapestNext_81 : decode cX6_cheapestNext 81 = .ok (.iadd, 1) := by decide +kernel
theorem dX6_cheapestNext_82 : decode cX6_cheapestNext 82 = .ok (.istore 5, 2) := by decide +kernel
theorem dX6_cheapestNext_84 : decode cX6_cheapestNext 84 = .ok (.iload_n 2, 1) := by decide +kernel
theorem dX6_cheapestNext_85 : decode cX6_cheapestNext 85 = .ok (.iconst (-1), 1) := by decide +kernel
theorem dX6_cheapestNext_86 : decode cX6_cheapestNext 86 = .ok (.if_icmp .eq 9, 3) := by decide +kernel
theorem dX6_cheapestNext_89 : decode cX6_cheapestNext 89 = .ok (.iload 5, 2) := by decide +kernel
theorem dX6_cheapestNext_91 : decode cX6_cheapestNext 91 = .ok (.iload_n 3, 1) := by decide +kernel
theorem dX6_cheapestNext_92 : decode cX6_cheapestNext 92 = .ok (.if_icmp .ge 9, 3) := by decide +kernel
theorem dX6_cheapestNext_95 : decode cX6_cheapestNext 95 = .ok (.iload 4, 2) := by decide +kernel
theorem dX6_cheapestNext_97 : decode cX6_cheapestNext 97 = .ok (.istore_n 2, 1) := by decide +kernel
theorem dX6_cheapestNext_98 : decode cX6_cheapestNext 98 = .ok (.iload 5, 2) := by decide +kernel
theorem dX6_cheapestNext_100 : decode cX6_cheapestNext 100 = .ok (.istore_n 3, 1) := by decide +kernel
theorem dX6_cheapestNext_101 : decode cX6_cheapestNext 101 = .ok (.iinc 4 1, 3) := by decide +kernel
theorem dX6_cheapestNext_104 : decode cX6_cheapestNext 104 = .ok (.goto (-97), 3) := by decide +kernel
theorem dX6_cheapestNext_107 : decode cX6_cheapestNext 107 = .ok (.iload_n 2, 1) := by decide +kernel
theorem dX6_cheapestNext_108 : decode cX6_cheapestNext 108 = .ok (.ireturn, 1) := by decide +kernel
theorem dX7_init_0 : decode cX7_init 0 = .ok (.aload_n 0, 1) := by decide +kernel
theorem dX7_init_1 : decode cX7_init 1 = .ok (.invokespecial 3, 3) := by decide +kernel
theorem dX7_init_4 : decode cX7_init 4 = .ok (.aload_n 0, 1) := by decide +kernel
theorem dX7_init_5 : decode cX7_init 5 = .ok (.sipush 800, 3) := by decide +kernel
theorem dX7_init_8 : decode cX7_init 8 = .ok (.newarray .int, 2) := by decide +kernel
theorem dX7_init_10 : decode cX7_init 10 = .ok (.putfield 9, 3) := by decide +kernel
theorem dX7_init_13 : decode cX7_init 13 = .ok (.aload_n 0, 1) := by decide +kernel
theorem dX7_init_14 : decode cX7_init 14 = .ok (.sipush 400, 3) := by decide +kernel
theorem dX7_init_17 : decode cX7_init 17 = .ok (.newarray .int, 2) := by decide +kernel
theorem dX7_init_19 : decode cX7_init 19 = .ok (.putfield 15, 3) := by decide +kernel
theorem dX7_init_22 : decode cX7_init 22 = .ok (.return_, 1) := by decide +kernel
theorem dX7_size_0 : decode cX7_size 0 = .ok (.aload_n 0, 1) := by decide +kernel
theorem dX7_size_1 : decode cX7_size 1 = .ok (.getfield 18, 3) := by decide +kernel
theorem dX7_size_4 : decode cX7_size 4 = .ok (.ireturn, 1) := by decide +kernel
theorem dX7_has_0 : decode cX7_has 0 = .ok (.iload_n 1, 1) := by decide +kernel
theorem dX7_has_1 : decode cX7_has 1 = .ok (.ifCond .lt 15, 3) := by decide +kernel
theorem dX7_has_4 : decode cX7_has 4 = .ok (.iload_n 1, 1) := by decide +kernel
theorem dX7_has_5 : decode cX7_has 5 = .ok (.aload_n 0, 1) := by decide +kernel
theorem dX7_has_6 : decode cX7_has 6 = .ok (.getfield 18, 3) := by decide +kernel
theorem dX7_has_9 : decode cX7_has 9 = .ok (.if_icmp .ge 7, 3) := by decide +kernel
theorem dX7_has_12 : decode cX7_has 12 = .ok (.iconst 1, 1) := by decide +kernel
theorem dX7_has_13 : decode cX7_has 13 = .ok (.goto 4, 3) := by decide +kernel
theorem dX7_has_16 : decode cX7_has 16 = .ok (.iconst 0, 1) := by decide +kernel
theorem dX7_has_17 : decode cX7_has 17 = .ok (.ireturn, 1) := by decide +kernel
theorem dX7_hasRoom_0 : decode cX7_hasRoom 0 = .ok (.aload_n 0, 1) := by decide +kernel
theorem dX7_hasRoom_1 : decode cX7_hasRoom 1 = .ok (.getfield 18, 3) := by decide +kernel
theorem dX7_hasRoom_4 : decode cX7_hasRoom 4 = .ok (.iload_n 1, 1) := by decide +kernel
theorem dX7_hasRoom_5 : decode cX7_hasRoom 5 = .ok (.iadd, 1) := by decide +kernel
theorem dX7_hasRoom_6 : decode cX7_hasRoom 6 = .ok (.sipush 800, 3) := by decide +kernel
theorem dX7_hasRoom_9 : decode cX7_hasRoom 9 = .ok (.if_icmp .gt 7, 3) := by decide +kernel
theorem dX7_hasRoom_12 : decode cX7_hasRoom 12 = .ok (.iconst 1, 1) := by decide +kernel
theorem dX7_hasRoom_13 : decode cX7_hasRoom 13 = .ok (.goto 4, 3) := by decide +kernel
theorem dX7_hasRoom_16 : decode cX7_hasRoom 16 = .ok (.iconst 0, 1) := by decide +kernel
theorem dX7_hasRoom_17 : decode cX7_hasRoom 17 = .ok (.ireturn, 1) := by decide +kernel
theorem dX7_at_0 : decode cX7_at 0 = .ok (.iload_n 1, 1) := by decide +kernel
theorem dX7_at_1 : decode cX7_at 1 = .ok (.ifCond .lt 11, 3) := by decide +kernel
theorem dX7_at_4 : decode cX7_at 4 = .ok (.iload_n 1, 1) := by decide +kernel
theorem dX7_at_5 : decode cX7_at 5 = .ok (.aload_n 0, 1) := by decide +kernel
theorem dX7_at_6 : decode cX7_at 6 = .ok (.getfield 18, 3) := by decide +kernel
theorem dX7_at_9 : decode cX7_at 9 = .ok (.if_icmp .lt 7, 3) := by decide +kernel
theorem dX7_at_12 : decode cX7_at 12 = .ok (.iconst 0, 1) := by decide +kernel
theorem dX7_at_13 : decode cX7_at 13 = .ok (.goto 9, 3) := by decide +kernel
theorem dX7_at_16 : decode cX7_at 16 = .ok (.aload_n 0, 1) := by decide +kernel
theorem dX7_at_17 : decode cX7_at 17 = .ok (.getfield 9, 3) := by decide +kernel
theorem dX7_at_20 : decode cX7_at 20 = .ok (.iload_n 1, 1) := by decide +kernel
theorem dX7_at_21 : decode cX7_at 21 = .ok (.iaload, 1) := by decide +kernel
theorem dX7_at_22 : decode cX7_at 22 = .ok (.ireturn, 1) := by decide +kernel
theorem dX7_put_0 : decode cX7_put 0 = .ok (.aload_n 0, 1) := by decide +kernel
theorem dX7_put_1 : decode cX7_put 1 = .ok (.iload_n 1, 1) := by decide +kernel
theorem dX7_put_2 : decode cX7_put 2 = .ok (.invokevirtual 22, 3) := by decide +kernel
theorem dX7_put_5 : decode cX7_put 5 = .ok (.ifCond .eq 10, 3) := by decide +kernel
theorem dX7_put_8 : decode cX7_put 8 = .ok (.aload_n 0, 1) := by decide +kernel
theorem dX7_put_9 : decode cX7_put 9 = .ok (.getfield 9, 3) := by decide +kernel
theorem dX7_put_12 : decode cX7_put 12 = .ok (.iload_n 1, 1) := by decide +kernel
theorem dX7_put_13 : decode cX7_put 13 = .ok (.iload_n 2, 1) := by decide +kernel
theorem dX7_put_14 : decode cX7_put 14 = .ok (.iastore, 1) := by decide +kernel
theorem dX7_put_15 : decode cX7_put 15 = .ok (.return_, 1) := by decide +kernel
theorem dX7_append_0 : decode cX7_append 0 = .ok (.aload_n 0, 1) := by decide +kernel
theorem dX7_append_1 : decode cX7_append 1 = .ok (.getfield 18, 3) := by decide +kernel
theorem dX7_append_4 : decode cX7_append 4 = .ok (.sipush 800, 3) := by decide +kernel
theorem dX7_append_7 : decode cX7_append 7 = .ok (.if_icmp .ge 23, 3) := by decide +kernel
theorem dX7_append_10 : decode cX7_append 10 = .ok (.aload_n 0, 1) := by decide +kernel
theorem dX7_append_11 : decode cX7_append 11 = .ok (.getfield 9, 3) := by decide +kernel
theorem dX7_append_14 : decode cX7_append 14 = .ok (.aload_n 0, 1) := by decide +kernel
theorem dX7_append_15 : decode cX7_append 15 = .ok (.getfield 18, 3) := by decide +kernel
theorem dX7_append_18 : decode cX7_append 18 = .ok (.iload_n 1, 1) := by decide +kernel
theorem dX7_append_19 : decode cX7_append 19 = .ok (.iastore, 1) := by decide +kernel
theorem dX7_append_20 : decode cX7_append 20 = .ok (.aload_n 0, 1) := by decide +kernel
theorem dX7_append_21 : decode cX7_append 21 = .ok (.dup, 1) := by decide +kernel
theorem dX7_append_22 : decode cX7_append 22 = .ok (.getfield 18, 3) := by decide +kernel
theorem dX7_append_25 : decode cX7_append 25 = .ok (.iconst 1, 1) := by decide +kernel
theorem dX7_append_26 : decode cX7_append 26 = .ok (.iadd, 1) := by decide +kernel
theorem dX7_append_27 : decode cX7_append 27 = .ok (.putfield 18, 3) := by decide +kernel
theorem dX7_append_30 : decode cX7_append 30 = .ok (.return_, 1) := by decide +kernel
theorem dX7_drop_0 : decode cX7_drop 0 = .ok (.aload_n 0, 1) := by decide +kernel
theorem dX7_drop_1 : decode cX7_drop 1 = .ok (.iconst 0, 1) := by decide +kernel
theorem dX7_drop_2 : decode cX7_drop 2 = .ok (.aload_n 0, 1) := by decide +kernel
theorem dX7_drop_3 : decode cX7_drop 3 = .ok (.getfield 18, 3) := by decide +kernel
theorem dX7_drop_6 : decode cX7_drop 6 = .ok (.iload_n 1, 1) := by decide +kernel
theorem dX7_drop_7 : decode cX7_drop 7 = .ok (.isub, 1) := by decide +kernel
theorem dX7_drop_8 : decode cX7_drop 8 = .ok (.invokestatic 26, 3) := by decide +kernel
theorem dX7_drop_11 : decode cX7_drop 11 = .ok (.putfield 18, 3) := by decide +kernel
theorem dX7_drop_14 : decode cX7_drop 14 = .ok (.return_, 1) := by decide +kernel
theorem dX7_offItself_0 : decode cX7_offItself 0 = .ok (.iload_n 1, 1) := by decide +kernel
theorem dX7_offItself_1 : decode cX7_offItself 1 = .ok (.ifCond .lt 19, 3) := by decide +kernel
theorem dX7_offItself_4 : decode cX7_offItself 4 = .ok (.iload_n 3, 1) := by decide +kernel
theorem dX7_offItself_5 : decode cX7_offItself 5 = .ok (.ifCond .lt 15, 3) := by decide +kernel
theorem dX7_offItself_8 : decode cX7_offItself 8 = .ok (.iload_n 1, 1) := by decide +kernel
theorem dX7_offItself_9 : decode cX7_offItself 9 = .ok (.iload_n 2, 1) := by decide +kernel
theorem dX7_offItself_10 : decode cX7_offItself 10 = .ok (.iadd, 1) := by decide +kernel
theorem dX7_offItself_11 : decode cX7_offItself 11 = .ok (.iload_n 3, 1) := by decide +kernel
theorem dX7_offItself_12 : decode cX7_offItself 12 = .ok (.iadd, 1) := by decide +kernel
theorem dX7_offItself_13 : decode cX7_offItself 13 = .ok (.aload_n 0, 1) := by decide +kernel
theorem dX7_offItself_14 : decode cX7_offItself 14 = .ok (.getfield 18, 3) := by decide +kernel
theorem dX7_offItself_17 : decode cX7_offItself 17 = .ok (.if_icmp .le 5, 3) := by decide +kernel
theorem dX7_offItself_20 : decode cX7_offItself 20 = .ok (.iconst 0, 1) := by decide +kernel
theorem dX7_offItself_21 : decode cX7_offItself 21 = .ok (.ireturn, 1) := by decide +kernel
theorem dX7_offItself_22 : decode cX7_offItself 22 = .ok (.iconst 0, 1) := by decide +kernel
theorem dX7_offItself_23 : decode cX7_offItself 23 = .ok (.istore 4, 2) := by decide +kernel
theorem dX7_offItself_25 : decode cX7_offItself 25 = .ok (.iload_n 1, 1) := by decide +kernel
theorem dX7_offItself_26 : decode cX7_offItself 26 = .ok (.istore 5, 2) := by decide +kernel
theorem dX7_offItself_28 : decode cX7_offItself 28 = .ok (.iload 5, 2) := by decide +kernel
theorem dX7_offItself_30 : decode cX7_offItself 30 = .ok (.iload_n 1, 1) := by decide +kernel
theorem dX7_offItself_31 : decode cX7_offItself 31 = .ok (.iload_n 2, 1) := by decide +kernel
theorem dX7_offItself_32 : decode cX7_offItself 32 = .ok (.iadd, 1) := by decide +kernel
theorem dX7_offItself_33 : decode cX7_offItself 33 = .ok (.if_icmp .ge 46, 3) := by decide +kernel
theorem dX7_offItself_36 : decode cX7_offItself 36 = .ok (.aload_n 0, 1) := by decide +kernel
theorem dX7_offItself_37 : decode cX7_offItself 37 = .ok (.getfield 9, 3) := by decide +kernel
theorem dX7_offItself_40 : decode cX7_offItself 40 = .ok (.iload 5, 2) := by decide +kernel
theorem dX7_offItself_42 : decode cX7_offItself 42 = .ok (.iaload, 1) := by decide +kernel
theorem dX7_offItself_43 : decode cX7_offItself 43 = .ok (.aload_n 0, 1) := by decide +kernel
theorem dX7_offItself_44 : decode cX7_offItself 44 = .ok (.getfield 9, 3) := by decide +kernel
theorem dX7_offItself_47 : decode cX7_offItself 47 = .ok (.iload 5, 2) := by decide +kernel
theorem dX7_offItself_49 : decode cX7_offItself 49 = .ok (.iload_n 3, 1) := by decide +kernel
theorem dX7_offItself_50 : decode cX7_offItself 50 = .ok (.iadd, 1) := by decide +kernel
theorem dX7_offItself_51 : decode cX7_offItself 51 = .ok (.iaload, 1) := by decide +kernel
theorem dX7_offItself_52 : decode cX7_offItself 52 = .ok (.isub, 1) := by decide +kernel
theorem dX7_offItself_53 : decode cX7_offItself 53 = .ok (.istore 6, 2) := by decide +kernel
theorem dX7_offItself_55 : decode cX7_offItself 55 = .ok (.iload 4, 2) := by decide +kernel
theorem dX7_offItself_57 : decode cX7_offItself 57 = .ok (.iload 6, 2) := by decide +kernel
theorem dX7_offItself_59 : decode cX7_offItself 59 = .ok (.ifCond .ge 9, 3) := by decide +kernel
theorem dX7_offItself_62 : decode cX7_offItself 62 = .ok (.iload 6, 2) := by decide +kernel
theorem dX7_offItself_64 : decode cX7_offItself 64 = .ok (.ineg, 1) := by decide +kernel
theorem dX7_offItself_65 : decode cX7_offItself 65 = .ok (.goto 5, 3) := by decide +kernel
theorem dX7_offItself_68 : decode cX7_offItself 68 = .ok (.iload 6, 2) := by decide +kernel
theorem dX7_offItself_70 : decode cX7_offItself 70 = .ok (.iadd, 1) := by decide +kernel
theorem dX7_offItself_71 : decode cX7_offItself 71 = .ok (.istore 4, 2) := by decide +kernel
theorem dX7_offItself_73 : decode cX7_offItself 73 = .ok (.iinc 5 1, 3) := by decide +kernel
theorem dX7_offItself_76 : decode cX7_offItself 76 = .ok (.goto (-48), 3) := by decide +kernel
theorem dX7_offItself_79 : decode cX7_offItself 79 = .ok (.iload 4, 2) := by decide +kernel
theorem dX7_offItself_81 : decode cX7_offItself 81 = .ok (.ireturn, 1) := by decide +kernel
theorem dX7_loudness_0 : decode cX7_loudness 0 = .ok (.iconst 0, 1) := by decide +kernel
theorem dX7_loudness_1 : decode cX7_loudness 1 = .ok (.istore_n 3, 1) := by decide +kernel
theorem dX7_loudness_2 : decode cX7_loudness 2 = .ok (.iload_n 1, 1) := by decide +kernel
theorem dX7_loudness_3 : decode cX7_loudness 3 = .ok (.istore 4, 2) := by decide +kernel
theorem dX7_loudness_5 : decode cX7_loudness 5 = .ok (.iload 4, 2) := by decide +kernel
theorem dX7_loudness_7 : decode cX7_loudness 7 = .ok (.iload_n 1, 1) := by decide +kernel
theorem dX7_loudness_8 : decode cX7_loudness 8 = .ok (.iload_n 2, 1) := by decide +kernel
theorem dX7_loudness_9 : decode cX7_loudness 9 = .ok (.iadd, 1) := by decide +kernel
theorem dX7_loudness_10 : decode cX7_loudness 10 = .ok (.if_icmp .ge 21, 3) := by decide +kernel
theorem dX7_loudness_13 : decode cX7_loudness 13 = .ok (.iload_n 3, 1) := by decide +kernel
theorem dX7_loudness_14 : decode cX7_loudness 14 = .ok (.aload_n 0, 1) := by decide +kernel
theorem dX7_loudness_15 : decode cX7_loudness 15 = .ok (.iload 4, 2) := by decide +kernel
theorem dX7_loudness_17 : decode cX7_loudness 17 = .ok (.invokevirtual 32, 3) := by decide +kernel
theorem dX7_loudness_20 : decode cX7_loudness 20 = .ok (.invokestatic 36, 3) := by decide +kernel
theorem dX7_loudness_23 : decode cX7_loudness 23 = .ok (.iadd, 1) := by decide +kernel
theorem dX7_loudness_24 : decode cX7_loudness 24 = .ok (.istore_n 3, 1) := by decide +kernel
theorem dX7_loudness_25 : decode cX7_loudness 25 = .ok (.iinc 4 1, 3) := by decide +kernel
theorem dX7_loudness_28 : decode cX7_loudness 28 = .ok (.goto (-23), 3) := by decide +kernel
theorem dX7_loudness_31 : decode cX7_loudness 31 = .ok (.iload_n 3, 1) := by decide +kernel
theorem dX7_loudness_32 : decode cX7_loudness 32 = .ok (.ireturn, 1) := by decide +kernel
theorem dX7_tapeSize_0 : decode cX7_tapeSize 0 = .ok (.aload_n 0, 1) := by decide +kernel
theorem dX7_tapeSize_1 : decode cX7_tapeSize 1 = .ok (.getfield 39, 3) := by decide +kernel
theorem dX7_tapeSize_4 : decode cX7_tapeSize 4 = .ok (.ireturn, 1) := by decide +kernel
theorem dX7_tapeNumber_0 : decode cX7_tapeNumber 0 = .ok (.bipush 24, 2) := by decide +kernel
theorem dX7_tapeNumber_2 : decode cX7_tapeNumber 2 = .ok (.istore_n 2, 1) := by decide +kernel
theorem dX7_tapeNumber_3 : decode cX7_tapeNumber 3 = .ok (.iload_n 2, 1) := by decide +kernel
theorem dX7_tapeNumber_4 : decode cX7_tapeNumber 4 = .ok (.ifCond .lt 42, 3) := by decide +kernel
theorem dX7_tapeNumber_7 : decode cX7_tapeNumber 7 = .ok (.aload_n 0, 1) := by decide +kernel
theorem dX7_tapeNumber_8 : decode cX7_tapeNumber 8 = .ok (.getfield 39, 3) := by decide +kernel
theorem dX7_tapeNumber_11 : decode cX7_tapeNumber 11 = .ok (.sipush 400, 3) := by decide +kernel
theorem dX7_tapeNumber_14 : decode cX7_tapeNumber 14 = .ok (.if_icmp .ge 32, 3) := by decide +kernel
theorem dX7_tapeNumber_17 : decode cX7_tapeNumber 17 = .ok (.aload_n 0, 1) := by decide +kernel
theorem dX7_tapeNumber_18 : decode cX7_tapeNumber 18 = .ok (.getfield 15, 3) := by decide +kernel
theorem dX7_tapeNumber_21 : decode cX7_tapeNumber 21 = .ok (.aload_n 0, 1) := by decide +kernel
theorem dX7_tapeNumber_22 : decode cX7_tapeNumber 22 = .ok (.getfield 39, 3) := by decide +kernel
theorem dX7_tapeNumber_25 : decode cX7_tapeNumber 25 = .ok (.iload_n 1, 1) := by decide +kernel
theorem dX7_tapeNumber_26 : decode cX7_tapeNumber 26 = .ok (.iload_n 2, 1) := by decide +kernel
theorem dX7_tapeNumber_27 : decode cX7_tapeNumber 27 = .ok (.ishr, 1) := by decide +kernel
theorem dX7_tapeNumber_28 : decode cX7_tapeNumber 28 = .ok (.i2b, 1) := by decide +kernel
theorem dX7_tapeNumber_29 : decode cX7_tapeNumber 29 = .ok (.iastore, 1) := by decide +kernel
theorem dX7_tapeNumber_30 : decode cX7_tapeNumber 30 = .ok (.aload_n 0, 1) := by decide +kernel
theorem dX7_tapeNumber_31 : decode cX7_tapeNumber 31 = .ok (.dup, 1) := by decide +kernel
theorem dX7_tapeNumber_32 : decode cX7_tapeNumber 32 = .ok (.getfield 39, 3) := by decide +kernel
theorem dX7_tapeNumber_35 : decode cX7_tapeNumber 35 = .ok (.iconst 1, 1) := by decide +kernel
theorem dX7_tapeNumber_36 : decode cX7_tapeNumber 36 = .ok (.iadd, 1) := by decide +kernel
theorem dX7_tapeNumber_37 : decode cX7_tapeNumber 37 = .ok (.putfield 39, 3) := by decide +kernel
theorem dX7_tapeNumber_40 : decode cX7_tapeNumber 40 = .ok (.iinc 2 (-8), 3) := by decide +kernel
theorem dX7_tapeNumber_43 : decode cX7_tapeNumber 43 = .ok (.goto (-40), 3) := by decide +kernel
theorem dX7_tapeNumber_46 : decode cX7_tapeNumber 46 = .ok (.return_, 1) := by decide +kernel
theorem dX7_appendFromTape_0 : decode cX7_appendFromTape 0 = .ok (.iconst 0, 1) := by decide +kernel
theorem dX7_appendFromTape_1 : decode cX7_appendFromTape 1 = .ok (.istore_n 2, 1) := by decide +kernel
theorem dX7_appendFromTape_2 : decode cX7_appendFromTape 2 = .ok (.iload_n 2, 1) := by decide +kernel
theorem dX7_appendFromTape_3 : decode cX7_appendFromTape 3 = .ok (.iload_n 1, 1) := by decide +kernel
theorem dX7_appendFromTape_4 : decode cX7_appendFromTape 4 = .ok (.if_icmp .ge 27, 3) := by decide +kernel
theorem dX7_appendFromTape_7 : decode cX7_appendFromTape 7 = .ok (.iload_n 2, 1) := by decide +kernel
theorem dX7_appendFromTape_8 : decode cX7_appendFromTape 8 = .ok (.aload_n 0, 1) := by decide +kernel
theorem dX7_appendFromTape_9 : decode cX7_appendFromTape 9 = .ok (.getfield 39, 3) := by decide +kernel
theorem dX7_appendFromTape_12 : decode cX7_appendFromTape 12 = .ok (.if_icmp .ge 19, 3) := by decide +kernel
theorem dX7_appendFromTape_15 : decode cX7_appendFromTape 15 = .ok (.aload_n 0, 1) := by decide +kernel
theorem dX7_appendFromTape_16 : decode cX7_appendFromTape 16 = .ok (.aload_n 0, 1) := by decide +kernel
theorem dX7_appendFromTape_17 : decode cX7_appendFromTape 17 = .ok (.getfield 15, 3) := by decide +kernel
theorem dX7_appendFromTape_20 : decode cX7_appendFromTape 20 = .ok (.iload_n 2, 1) := by decide +kernel
theorem dX7_appendFromTape_21 : decode cX7_appendFromTape 21 = .ok (.iaload, 1) := by decide +kernel
theorem dX7_appendFromTape_22 : decode cX7_appendFromTape 22 = .ok (.invokevirtual 42, 3) := by decide +kernel
theorem dX7_appendFromTape_25 : decode cX7_appendFromTape 25 = .ok (.iinc 2 1, 3) := by decide +kernel
theorem dX7_appendFromTape_28 : decode cX7_appendFromTape 28 = .ok (.goto (-26), 3) := by decide +kernel
theorem dX7_appendFromTape_31 : decode cX7_appendFromTape 31 = .ok (.aload_n 0, 1) := by decide +kernel
theorem dX7_appendFromTape_32 : decode cX7_appendFromTape 32 = .ok (.iconst 0, 1) := by decide +kernel
theorem dX7_appendFromTape_33 : decode cX7_appendFromTape 33 = .ok (.putfield 39, 3) := by decide +kernel
theorem dX7_appendFromTape_36 : decode cX7_appendFromTape 36 = .ok (.return_, 1) := by decide +kernel
theorem dX8_init_0 : decode cX8_init 0 = .ok (.aload_n 0, 1) := by decide +kernel
theorem dX8_init_1 : decode cX8_init 1 = .ok (.invokespecial 3, 3) := by decide +kernel
theorem dX8_init_4 : decode cX8_init 4 = .ok (.aload_n 0, 1) := by decide +kernel
theorem dX8_init_5 : decode cX8_init 5 = .ok (.bipush 100, 2) := by decide +kernel
theorem dX8_init_7 : decode cX8_init 7 = .ok (.newarray .int, 2) := by decide +kernel
theorem dX8_init_9 : decode cX8_init 9 = .ok (.putfield 9, 3) := by decide +kernel
theorem dX8_init_12 : decode cX8_init 12 = .ok (.aload_n 0, 1) := by decide +kernel
theorem dX8_init_13 : decode cX8_init 13 = .ok (.bipush 100, 2) := by decide +kernel
theorem dX8_init_15 : decode cX8_init 15 = .ok (.newarray .int, 2) := by decide +kernel
theorem dX8_init_17 : decode cX8_init 17 = .ok (.putfield 15, 3) := by decide +kernel
theorem dX8_init_20 : decode cX8_init 20 = .ok (.aload_n 0, 1) := by decide +kernel
theorem dX8_init_21 : decode cX8_init 21 = .ok (.bipush 100, 2) := by decide +kernel
theorem dX8_init_23 : decode cX8_init 23 = .ok (.newarray .int, 2) := by decide +kernel
theorem dX8_init_25 : decode cX8_init 25 = .ok (.putfield 18, 3) := by decide +kernel
theorem dX8_init_28 : decode cX8_init 28 = .ok (.aload_n 0, 1) := by decide +kernel
theorem dX8_init_29 : decode cX8_init 29 = .ok (.aload_n 1, 1) := by decide +kernel
theorem dX8_init_30 : decode cX8_init 30 = .ok (.putfield 21, 3) := by decide +kernel
theorem dX8_init_33 : decode cX8_init 33 = .ok (.aload_n 0, 1) := by decide +kernel
theorem dX8_init_34 : decode cX8_init 34 = .ok (.aload_n 2, 1) := by decide +kernel
theorem dX8_init_35 : decode cX8_init 35 = .ok (.putfield 25, 3) := by decide +kernel
theorem dX8_init_38 : decode cX8_init 38 = .ok (.aload_n 0, 1) := by decide +kernel
theorem dX8_init_39 : decode cX8_init 39 = .ok (.aload_n 3, 1) := by decide +kernel
theorem dX8_init_40 : decode cX8_init 40 = .ok (.putfield 29, 3) := by decide +kernel
theorem dX8_init_43 : decode cX8_init 43 = .ok (.return_, 1) := by decide +kernel
theorem dX8_find_0 : decode cX8_find 0 = .ok (.aload_n 0, 1) := by decide +kernel
theorem dX8_find_1 : decode cX8_find 1 = .ok (.iconst 0, 1) := by decide +kernel
theorem dX8_find_2 : decode cX8_find 2 = .ok (.putfield 33, 3) := by decide +kernel
theorem dX8_find_5 : decode cX8_find 5 = .ok (.iconst 0, 1) := by decide +kernel
theorem dX8_find_6 : decode cX8_find 6 = .ok (.istore_n 1, 1) := by decide +kernel
theorem dX8_find_7 : decode cX8_find 7 = .ok (.iload_n 1, 1) := by decide +kernel
theorem dX8_find_8 : decode cX8_find 8 = .ok (.aload_n 0, 1) := by decide +kernel
theorem dX8_find_9 : decode cX8_find 9 = .ok (.getfield 21, 3) := by decide +kernel
theorem dX8_find_12 : decode cX8_find 12 = .ok (.invokevirtual 37, 3) := by decide +kernel
theorem dX8_find_15 : decode cX8_find 15 = .ok (.if_icmp .ge 107, 3) := by decide +kernel
theorem dX8_find_18 : decode cX8_find 18 = .ok (.iload_n 1, 1) := by decide +kernel
theorem dX8_find_19 : decode cX8_find 19 = .ok (.ifCond .eq 40, 3) := by decide +kernel
theorem dX8_find_22 : decode cX8_find 22 = .ok (.aload_n 0, 1) := by decide +kernel
theorem dX8_find_23 : decode cX8_find 23 = .ok (.getfield 21, 3) := by decide +kernel
theorem dX8_find_26 : decode cX8_find 26 = .ok (.iload_n 1, 1) := by decide +kernel
theorem dX8_find_27 : decode cX8_find 27 = .ok (.invokevirtual 42, 3) := by decide +kernel
theorem dX8_find_30 : decode cX8_find 30 = .ok (.ifCond .ne 7, 3) := by decide +kernel
theorem dX8_find_33 : decode cX8_find 33 = .ok (.iconst 1, 1) := by decide +kernel
theorem dX8_find_34 : decode cX8_find 34 = .ok (.goto 4, 3) := by decide +kernel
theorem dX8_find_37 : decode cX8_find 37 = .ok (.iconst 0, 1) := by decide +kernel
theorem dX8_find_38 : decode cX8_find 38 = .ok (.aload_n 0, 1) := by decide +kernel
theorem dX8_find_39 : decode cX8_find 39 = .ok (.getfield 21, 3) := by decide +kernel
theorem dX8_find_42 : decode cX8_find 42 = .ok (.iload_n 1, 1) := by decide +kernel
theorem dX8_find_43 : decode cX8_find 43 = .ok (.iconst 1, 1) := by decide +kernel
theorem dX8_find_44 : decode cX8_find 44 = .ok (.isub, 1) := by decide +kernel
theorem dX8_find_45 : decode cX8_find 45 = .ok (.invokevirtual 42, 3) := by decide +kernel
theorem dX8_find_48 : decode cX8_find 48 = .ok (.ifCond .ne 7, 3) := by decide +kernel
theorem dX8_find_51 : decode cX8_find 51 = .ok (.iconst 1, 1) := by decide +kernel
theorem dX8_find_52 : decode cX8_find 52 = .ok (.goto 4, 3) := by decide +kernel
theorem dX8_find_55 : decode cX8_find 55 = .ok (.iconst 0, 1) := by decide +kernel
theorem dX8_find_56 : decode cX8_find 56 = .ok (.if_icmp .eq 33, 3) := by decide +kernel
theorem dX8_find_59 : decode cX8_find 59 = .ok (.aload_n 0, 1) := by decide +kernel
theorem dX8_find_60 : decode cX8_find 60 = .ok (.getfield 9, 3) := by decide +kernel
theorem dX8_find_63 : decode cX8_find 63 = .ok (.aload_n 0, 1) := by decide +kernel
theorem dX8_find_64 : decode cX8_find 64 = .ok (.getfield 33, 3) := by decide +kernel
theorem dX8_find_67 : decode cX8_find 67 = .ok (.iload_n 1, 1) := by decide +kernel
theorem dX8_find_68 : decode cX8_find 68 = .ok (.iastore, 1) := by decide +kernel
theorem dX8_find_69 : decode cX8_find 69 = .ok (.aload_n 0, 1) := by decide +kernel
theorem dX8_find_70 : decode cX8_find 70 = .ok (.getfield 15, 3) := by decide +kernel
theorem dX8_find_73 : decode cX8_find 73 = .ok (.aload_n 0, 1) := by decide +kernel
theorem dX8_find_74 : decode cX8_find 74 = .ok (.getfield 33, 3) := by decide +kernel
theorem dX8_find_77 : decode cX8_find 77 = .ok (.iconst 0, 1) := by decide +kernel
theorem dX8_find_78 : decode cX8_find 78 = .ok (.iastore, 1) := by decide +kernel
theorem dX8_find_79 : decode cX8_find 79 = .ok (.aload_n 0, 1) := by decide +kernel
theorem dX8_find_80 : decode cX8_find 80 = .ok (.dup, 1) := by decide +kernel
theorem dX8_find_81 : decode cX8_find 81 = .ok (.getfield 33, 3) := by decide +kernel
theorem dX8_find_84 : decode cX8_find 84 = .ok (.iconst 1, 1) := by decide +kernel
theorem dX8_find_85 : decode cX8_find 85 = .ok (.iadd, 1) := by decide +kernel
theorem dX8_find_86 : decode cX8_find 86 = .ok (.putfield 33, 3) := by decide +kernel
theorem dX8_find_89 : decode cX8_find 89 = .ok (.aload_n 0, 1) := by decide +kernel
theorem dX8_find_90 : decode cX8_find 90 = .ok (.getfield 15, 3) := by decide +kernel
theorem dX8_find_93 : decode cX8_find 93 = .ok (.aload_n 0, 1) := by decide +kernel
theorem dX8_find_94 : decode cX8_find 94 = .ok (.getfield 33, 3) := by decide +kernel
theorem dX8_find_97 : decode cX8_find 97 = .ok (.iconst 1, 1) := by decide +kernel
theorem dX8_find_98 : decode cX8_find 98 = .ok (.isub, 1) := by decide +kernel
theorem dX8_find_99 : decode cX8_find 99 = .ok (.dup2, 1) := by decide +kernel
theorem dX8_find_100 : decode cX8_find 100 = .ok (.iaload, 1) := by decide +kernel
theorem dX8_find_101 : decode cX8_find 101 = .ok (.iconst 1, 1) := by decide +kernel
theorem dX8_find_102 : decode cX8_find 102 = .ok (.iadd, 1) := by decide +kernel
theorem dX8_find_103 : decode cX8_find 103 = .ok (.iastore, 1) := by decide +kernel
theorem dX8_find_104 : decode cX8_find 104 = .ok (.aload_n 0, 1) := by decide +kernel
theorem dX8_find_105 : decode cX8_find 105 = .ok (.getfield 18, 3) := by decide +kernel
theorem dX8_find_108 : decode cX8_find 108 = .ok (.iload_n 1, 1) := by decide +kernel
theorem dX8_find_109 : decode cX8_find 109 = .ok (.aload_n 0, 1) := by decide +kernel
theorem dX8_find_110 : decode cX8_find 110 = .ok (.getfield 33, 3) := by decide +kernel
theorem dX8_find_113 : decode cX8_find 113 = .ok (.iconst 1, 1) := by decide +kernel
theorem dX8_find_114 : decode cX8_find 114 = .ok (.isub, 1) := by decide +kernel
theorem dX8_find_115 : decode cX8_find 115 = .ok (.iastore, 1) := by decide +kernel
theorem dX8_find_116 : decode cX8_find 116 = .ok (.iinc 1 1, 3) := by decide +kernel
theorem dX8_find_119 : decode cX8_find 119 = .ok (.goto (-112), 3) := by decide +kernel
theorem dX8_find_122 : decode cX8_find 122 = .ok (.return_, 1) := by decide +kernel
theorem dX8_size_0 : decode cX8_size 0 = .ok (.aload_n 0, 1) := by decide +kernel
theorem dX8_size_1 : decode cX8_size 1 = .ok (.getfield 33, 3) := by decide +kernel
theorem dX8_size_4 : decode cX8_size 4 = .ok (.ireturn, 1) := by decide +kernel
theorem dX8_has_0 : decode cX8_has 0 = .ok (.iload_n 1, 1) := by decide +kernel
theorem dX8_has_1 : decode cX8_has 1 = .ok (.ifCond .lt 15, 3) := by decide +kernel
theorem dX8_has_4 : decode cX8_has 4 = .ok (.iload_n 1, 1) := by decide +kernel
theorem dX8_has_5 : decode cX8_has 5 = .ok (.aload_n 0, 1) := by decide +kernel
theorem dX8_has_6 : decode cX8_has 6 = .ok (.getfield 33, 3) := by decide +kernel
theorem dX8_has_9 : decode cX8_has 9 = .ok (.if_icmp .ge 7, 3) := by decide +kernel
theorem dX8_has_12 : decode cX8_has 12 = .ok (.iconst 1, 1) := by decide +kernel
theorem dX8_has_13 : decode cX8_has 13 = .ok (.goto 4, 3) := by decide +kernel
theorem dX8_has_16 : decode cX8_has 16 = .ok (.iconst 0, 1) := by decide +kernel
theorem dX8_has_17 : decode cX8_has 17 = .ok (.ireturn, 1) := by decide +kernel
theorem dX8_firstFrame_0 : decode cX8_firstFrame 0 = .ok (.aload_n 0, 1) := by decide +kernel
theorem dX8_firstFrame_1 : decode cX8_firstFrame 1 = .ok (.iload_n 1, 1) := by decide +kernel
theorem dX8_firstFrame_2 : decode cX8_firstFrame 2 = .ok (.invokevirtual 46, 3) := by decide +kernel
theorem dX8_firstFrame_5 : decode cX8_firstFrame 5 = .ok (.ifCond .eq 12, 3) := by decide +kernel
theorem dX8_firstFrame_8 : decode cX8_firstFrame 8 = .ok (.aload_n 0, 1) := by decide +kernel
theorem dX8_firstFrame_9 : decode cX8_firstFrame 9 = .ok (.getfield 9, 3) := by decide +kernel
theorem dX8_firstFrame_12 : decode cX8_firstFrame 12 = .ok (.iload_n 1, 1) := by decide +kernel
theorem dX8_firstFrame_13 : decode cX8_firstFrame 13 = .ok (.iaload, 1) := by decide +kernel
theorem dX8_firstFrame_14 : decode cX8_firstFrame 14 = .ok (.goto 4, 3) := by decide +kernel
theorem dX8_firstFrame_17 : decode cX8_firstFrame 17 = .ok (.iconst (-1), 1) := by decide +kernel
theorem dX8_firstFrame_18 : decode cX8_firstFrame 18 = .ok (.ireturn, 1) := by decide +kernel
theorem dX8_length_0 : decode cX8_length 0 = .ok (.aload_n 0, 1) := by decide +kernel
theorem dX8_length_1 : decode cX8_length 1 = .ok (.iload_n 1, 1) := by decide +kernel
theorem dX8_length_2 : decode cX8_length 2 = .ok (.invokevirtual 46, 3) := by decide +kernel
theorem dX8_length_5 : decode cX8_length 5 = .ok (.ifCond .eq 12, 3) := by decide +kernel
theorem dX8_length_8 : decode cX8_length 8 = .ok (.aload_n 0, 1) := by decide +kernel
theorem dX8_length_9 : decode cX8_length 9 = .ok (.getfield 15, 3) := by decide +kernel
theorem dX8_length_12 : decode cX8_length 12 = .ok (.iload_n 1, 1) := by decide +kernel
theorem dX8_length_13 : decode cX8_length 13 = .ok (.iaload, 1) := by decide +kernel
theorem dX8_length_14 : decode cX8_length 14 = .ok (.goto 4, 3) := by decide +kernel
theorem dX8_length_17 : decode cX8_length 17 = .ok (.iconst 0, 1) := by decide +kernel
theorem dX8_length_18 : decode cX8_length 18 = .ok (.ireturn, 1) := by decide +kernel
theorem dX8_isVoiced_0 : decode cX8_isVoiced 0 = .ok (.aload_n 0, 1) := by decide +kernel
theorem dX8_isVoiced_1 : decode cX8_isVoiced 1 = .ok (.iload_n 1, 1) := by decide +kernel
theorem dX8_isVoiced_2 : decode cX8_isVoiced 2 = .ok (.invokevirtual 46, 3) := by decide +kernel
theorem dX8_isVoiced_5 : decode cX8_isVoiced 5 = .ok (.ifCond .eq 23, 3) := by decide +kernel
theorem dX8_isVoiced_8 : decode cX8_isVoiced 8 = .ok (.aload_n 0, 1) := by decide +kernel
theorem dX8_isVoiced_9 : decode cX8_isVoiced 9 = .ok (.getfield 21, 3) := by decide +kernel
theorem dX8_isVoiced_12 : decode cX8_isVoiced 12 = .ok (.aload_n 0, 1) := by decide +kernel
theorem dX8_isVoiced_13 : decode cX8_isVoiced 13 = .ok (.getfield 9, 3) := by decide +kernel
theorem dX8_isVoiced_16 : decode cX8_isVoiced 16 = .ok (.iload_n 1, 1) := by decide +kernel
theorem dX8_isVoiced_17 : decode cX8_isVoiced 17 = .ok (.iaload, 1) := by decide +kernel
theorem dX8_isVoiced_18 : decode cX8_isVoiced 18 = .ok (.invokevirtual 42, 3) := by decide +kernel
theorem dX8_isVoiced_21 : decode cX8_isVoiced 21 = .ok (.ifCond .eq 7, 3) := by decide +kernel
theorem dX8_isVoiced_24 : decode cX8_isVoiced 24 = .ok (.iconst 1, 1) := by decide +kernel
theorem dX8_isVoiced_25 : decode cX8_isVoiced 25 = .ok (.goto 4, 3) := by decide +kernel
theorem dX8_isVoiced_28 : decode cX8_isVoiced 28 = .ok (.iconst 0, 1) := by decide +kernel
theorem dX8_isVoiced_29 : decode cX8_isVoiced 29 = .ok (.ireturn, 1) := by decide +kernel
theorem dX8_from_0 : decode cX8_from 0 = .ok (.aload_n 0, 1) := by decide +kernel
theorem dX8_from_1 : decode cX8_from 1 = .ok (.iload_n 1, 1) := by decide +kernel
theorem dX8_from_2 : decode cX8_from 2 = .ok (.invokevirtual 46, 3) := by decide +kernel
theorem dX8_from_5 : decode cX8_from 5 = .ok (.ifCond .eq 21, 3) := by decide +kernel
theorem dX8_from_8 : decode cX8_from 8 = .ok (.aload_n 0, 1) := by decide +kernel
theorem dX8_from_9 : decode cX8_from 9 = .ok (.getfield 9, 3) := by decide +kernel
theorem dX8_from_12 : decode cX8_from 12 = .ok (.iload_n 1, 1) := by decide +kernel
theorem dX8_from_13 : decode cX8_from 13 = .ok (.iaload, 1) := by decide +kernel
theorem dX8_from_14 : decode cX8_from 14 = .ok (.aload_n 0, 1) := by decide +kernel
theorem dX8_from_15 : decode cX8_from 15 = .ok (.getfield 29, 3) := by decide +kernel
theorem dX8_from_18 : decode cX8_from 18 = .ok (.iconst 2, 1) := by decide +kernel
theorem dX8_from_19 : decode cX8_from 19 = .ok (.invokevirtual 52, 3) := by decide +kernel
theorem dX8_from_22 : decode cX8_from 22 = .ok (.imul, 1) := by decide +kernel
theorem dX8_from_23 : decode cX8_from 23 = .ok (.goto 4, 3) := by decide +kernel
theorem dX8_from_26 : decode cX8_from 26 = .ok (.iconst 0, 1) := by decide +kernel
theorem dX8_from_27 : decode cX8_from 27 = .ok (.ireturn, 1) := by decide +kernel
theorem dX8_to_0 : decode cX8_to 0 = .ok (.aload_n 0, 1) := by decide +kernel
theorem dX8_to_1 : decode cX8_to 1 = .ok (.iload_n 1, 1) := by decide +kernel
theorem dX8_to_2 : decode cX8_to 2 = .ok (.invokevirtual 46, 3) := by decide +kernel
theorem dX8_to_5 : decode cX8_to 5 = .ok (.ifCond .eq 38, 3) := by decide +kernel
theorem dX8_to_8 : decode cX8_to 8 = .ok (.aload_n 0, 1) := by decide +kernel
theorem dX8_to_9 : decode cX8_to 9 = .ok (.getfield 25, 3) := by decide +kernel
theorem dX8_to_12 : decode cX8_to 12 = .ok (.invokevirtual 55, 3) := by decide +kernel
theorem dX8_to_15 : decode cX8_to 15 = .ok (.aload_n 0, 1) := by decide +kernel
theorem dX8_to_16 : decode cX8_to 16 = .ok (.getfield 9, 3) := by decide +kernel
theorem dX8_to_19 : decode cX8_to 19 = .ok (.iload_n 1, 1) := by decide +kernel
theorem dX8_to_20 : decode cX8_to 20 = .ok (.iaload, 1) := by decide +kernel
theorem dX8_to_21 : decode cX8_to 21 = .ok (.aload_n 0, 1) := by decide +kernel
theorem dX8_to_22 : decode cX8_to 22 = .ok (.getfield 15, 3) := by decide +kernel
theorem dX8_to_25 : decode cX8_to 25 = .ok (.iload_n 1, 1) := by decide +kernel
theorem dX8_to_26 : decode cX8_to 26 = .ok (.iaload, 1) := by decide +kernel
theorem dX8_to_27 : decode cX8_to 27 = .ok (.iadd, 1) := by decide +kernel
theorem dX8_to_28 : decode cX8_to 28 = .ok (.aload_n 0, 1) := by decide +kernel
theorem dX8_to_29 : decode cX8_to 29 = .ok (.getfield 29, 3) := by decide +kernel
theorem dX8_to_32 : decode cX8_to 32 = .ok (.iconst 2, 1) := by decide +kernel
theorem dX8_to_33 : decode cX8_to 33 = .ok (.invokevirtual 52, 3) := by decide +kernel
theorem dX8_to_36 : decode cX8_to 36 = .ok (.imul, 1) := by decide +kernel
theorem dX8_to_37 : decode cX8_to 37 = .ok (.invokestatic 58, 3) := by decide +kernel
theorem dX8_to_40 : decode cX8_to 40 = .ok (.goto 4, 3) := by decide +kernel
theorem dX8_to_43 : decode cX8_to 43 = .ok (.iconst 0, 1) := by decide +kernel
theorem dX8_to_44 : decode cX8_to 44 = .ok (.ireturn, 1) := by decide +kernel
theorem dX8_lagAtSample_0 : decode cX8_lagAtSample 0 = .ok (.aload_n 0, 1) := by decide +kernel
theorem dX8_lagAtSample_1 : decode cX8_lagAtSample 1 = .ok (.getfield 21, 3) := by decide +kernel
theorem dX8_lagAtSample_4 : decode cX8_lagAtSample 4 = .ok (.iload_n 1, 1) := by decide +kernel
theorem dX8_lagAtSample_5 : decode cX8_lagAtSample 5 = .ok (.aload_n 0, 1) := by decide +kernel
theorem dX8_lagAtSample_6 : decode cX8_lagAtSample 6 = .ok (.getfield 29, 3) := by decide +kernel
theorem dX8_lagAtSample_9 : decode cX8_lagAtSample 9 = .ok (.iconst 2, 1) := by decide +kernel
theorem dX8_lagAtSample_10 : decode cX8_lagAtSample 10 = .ok (.invokevirtual 52, 3) := by decide +kernel
theorem dX8_lagAtSample_13 : decode cX8_lagAtSample 13 = .ok (.invokestatic 64, 3) := by decide +kernel
theorem dX8_lagAtSample_16 : decode cX8_lagAtSample 16 = .ok (.invokevirtual 42, 3) := by decide +kernel
theorem dX8_lagAtSample_19 : decode cX8_lagAtSample 19 = .ok (.ireturn, 1) := by decide +kernel
theorem dX8_ofSample_0 : decode cX8_ofSample 0 = .ok (.iload_n 1, 1) := by decide +kernel
theorem dX8_ofSample_1 : decode cX8_ofSample 1 = .ok (.aload_n 0, 1) := by decide +kernel
theorem dX8_ofSample_2 : decode cX8_ofSample 2 = .ok (.getfield 29, 3) := by decide +kernel
theorem dX8_ofSample_5 : decode cX8_ofSample 5 = .ok (.iconst 2, 1) := by decide +kernel
theorem dX8_ofSample_6 : decode cX8_ofSample 6 = .ok (.invokevirtual 52, 3) := by decide +kernel
theorem dX8_ofSample_9 : decode cX8_ofSample 9 = .ok (.invokestatic 64, 3) := by decide +kernel
theorem dX8_ofSample_12 : decode cX8_ofSample 12 = .ok (.istore_n 2, 1) := by decide +kernel
theorem dX8_ofSample_13 : decode cX8_ofSample 13 = .ok (.iload_n 2, 1) := by decide +kernel
theorem dX8_ofSample_14 : decode cX8_ofSample 14 = .ok (.ifCond .lt 14, 3) := by decide +kernel
theorem dX8_ofSample_17 : decode cX8_ofSample 17 = .ok (.iload_n 2, 1) := by decide +kernel
theorem dX8_ofSample_18 : decode cX8_ofSample 18 = .ok (.aload_n 0, 1) := by decide +kernel
theorem dX8_ofSample_19 : decode cX8_ofSample 19 = .ok (.getfield 21, 3) := by decide +kernel
theorem dX8_ofSample_22 : decode cX8_ofSample 22 = .ok (.invokevirtual 37, 3) := by decide +kernel
theorem dX8_ofSample_25 : decode cX8_ofSample 25 = .ok (.if_icmp .lt 7, 3) := by decide +kernel
theorem dX8_ofSample_28 : decode cX8_ofSample 28 = .ok (.iconst (-1), 1) := by decide +kernel
theorem dX8_ofSample_29 : decode cX8_ofSample 29 = .ok (.goto 9, 3) := by decide +kernel
theorem dX8_ofSample_32 : decode cX8_ofSample 32 = .ok (.aload_n 0, 1) := by decide +kernel
theorem dX8_ofSample_33 : decode cX8_ofSample 33 = .ok (.getfield 18, 3) := by decide +kernel
theorem dX8_ofSample_36 : decode cX8_ofSample 36 = .ok (.iload_n 2, 1) := by decide +kernel
theorem dX8_ofSample_37 : decode cX8_ofSample 37 = .ok (.iaload, 1) := by decide +kernel
theorem dX8_ofSample_38 : decode cX8_ofSample 38 = .ok (.ireturn, 1) := by decide +kernel
theorem dX9_init_0 : decode cX9_init 0 = .ok (.aload_n 0, 1) := by decide +kernel
theorem dX9_init_1 : decode cX9_init 1 = .ok (.invokespecial 3, 3) := by decide +kernel
theorem dX9_init_4 : decode cX9_init 4 = .ok (.return_, 1) := by decide +kernel
theorem dX9_set_0 : decode cX9_set 0 = .ok (.aload_n 0, 1) := by decide +kernel
theorem dX9_set_1 : decode cX9_set 1 = .ok (.iload_n 1, 1) := by decide +kernel
theorem dX9_set_2 : decode cX9_set 2 = .ok (.putfield 9, 3) := by decide +kernel
theorem dX9_set_5 : decode cX9_set 5 = .ok (.aload_n 0, 1) := by decide +kernel
theorem dX9_set_6 : decode cX9_set 6 = .ok (.iload_n 2, 1) := by decide +kernel
theorem dX9_set_7 : decode cX9_set 7 = .ok (.putfield 15, 3) := by decide +kernel
theorem dX9_set_10 : decode cX9_set 10 = .ok (.aload_n 0, 1) := by decide +kernel
theorem dX9_set_11 : decode cX9_set 11 = .ok (.iload_n 3, 1) := by decide +kernel
theorem dX9_set_12 : decode cX9_set 12 = .ok (.putfield 18, 3) := by decide +kernel
theorem dX9_set_15 : decode cX9_set 15 = .ok (.return_, 1) := by decide +kernel
theorem dX9_setBy_0 : decode cX9_setBy 0 = .ok (.aload_n 0, 1) := by decide +kernel
theorem dX9_setBy_1 : decode cX9_setBy 1 = .ok (.aload_n 1, 1) := by decide +kernel
theorem dX9_setBy_2 : decode cX9_setBy 2 = .ok (.bipush 10, 2) := by decide +kernel
theorem dX9_setBy_4 : decode cX9_setBy 4 = .ok (.invokevirtual 23, 3) := by decide +kernel
theorem dX9_setBy_7 : decode cX9_setBy 7 = .ok (.aload_n 1, 1) := by decide +kernel
theorem dX9_setBy_8 : decode cX9_setBy 8 = .ok (.bipush 11, 2) := by decide +kernel
theorem dX9_setBy_10 : decode cX9_setBy 10 = .ok (.invokevirtual 23, 3) := by decide +kernel
theorem dX9_setBy_13 : decode cX9_setBy 13 = .ok (.aload_n 1, 1) := by decide +kernel
theorem dX9_setBy_14 : decode cX9_setBy 14 = .ok (.bipush 12, 2) := by decide +kernel
theorem dX9_setBy_16 : decode cX9_setBy 16 = .ok (.invokevirtual 23, 3) := by decide +kernel
theorem dX9_setBy_19 : decode cX9_setBy 19 = .ok (.invokevirtual 27, 3) := by decide +kernel
theorem dX9_setBy_22 : decode cX9_setBy 22 = .ok (.return_, 1) := by decide +kernel
theorem dX9_price_0 : decode cX9_price 0 = .ok (.iload_n 1, 1) := by decide +kernel
theorem dX9_price_1 : decode cX9_price 1 = .ok (.ifCond .eq 7, 3) := by decide +kernel
theorem dX9_price_4 : decode cX9_price 4 = .ok (.iload_n 2, 1) := by decide +kernel
theorem dX9_price_5 : decode cX9_price 5 = .ok (.ifCond .ne 17, 3) := by decide +kernel
theorem dX9_price_8 : decode cX9_price 8 = .ok (.iload_n 1, 1) := by decide +kernel
theorem dX9_price_9 : decode cX9_price 9 = .ok (.iload_n 2, 1) := by decide +kernel
theorem dX9_price_10 : decode cX9_price 10 = .ok (.if_icmp .ne 7, 3) := by decide +kernel
theorem dX9_price_13 : decode cX9_price 13 = .ok (.iconst 0, 1) := by decide +kernel
theorem dX9_price_14 : decode cX9_price 14 = .ok (.goto 7, 3) := by decide +kernel
theorem dX9_price_17 : decode cX9_price 17 = .ok (.aload_n 0, 1) := by decide +kernel
theorem dX9_price_18 : decode cX9_price 18 = .ok (.getfield 18, 3) := by decide +kernel
theorem dX9_price_21 : decode cX9_price 21 = .ok (.ireturn, 1) := by decide +kernel
theorem dX9_price_22 : decode cX9_price 22 = .ok (.iload_n 1, 1) := by decide +kernel
theorem dX9_price_23 : decode cX9_price 23 = .ok (.iload_n 2, 1) := by decide +kernel
theorem dX9_price_24 : decode cX9_price 24 = .ok (.if_icmp .le 7, 3) := by decide +kernel
theorem dX9_price_27 : decode cX9_price 27 = .ok (.iload_n 1, 1) := by decide +kernel
theorem dX9_price_28 : decode cX9_price 28 = .ok (.goto 4, 3) := by decide +kernel
theorem dX9_price_31 : decode cX9_price 31 = .ok (.iload_n 2, 1) := by decide +kernel
theorem dX9_price_32 : decode cX9_price 32 = .ok (.istore_n 3, 1) := by decide +kernel
theorem dX9_price_33 : decode cX9_price 33 = .ok (.iload_n 1, 1) := by decide +kernel
theorem dX9_price_34 : decode cX9_price 34 = .ok (.iload_n 2, 1) := by decide +kernel
theorem dX9_price_35 : decode cX9_price 35 = .ok (.if_icmp .le 7, 3) := by decide +kernel
theorem dX9_price_38 : decode cX9_price 38 = .ok (.iload_n 2, 1) := by decide +kernel
theorem dX9_price_39 : decode cX9_price 39 = .ok (.goto 4, 3) := by decide +kernel
theorem dX9_price_42 : decode cX9_price 42 = .ok (.iload_n 1, 1) := by decide +kernel
theorem dX9_price_43 : decode cX9_price 43 = .ok (.istore 4, 2) := by decide +kernel
theorem dX9_price_45 : decode cX9_price 45 = .ok (.aload_n 0, 1) := by decide +kernel
theorem dX9_price_46 : decode cX9_price 46 = .ok (.getfield 9, 3) := by decide +kernel
theorem dX9_price_49 : decode cX9_price 49 = .ok (.iload_n 3, 1) := by decide +kernel
theorem dX9_price_50 : decode cX9_price 50 = .ok (.iload 4, 2) := by decide +kernel
theorem dX9_price_52 : decode cX9_price 52 = .ok (.isub, 1) := by decide +kernel
theorem dX9_price_53 : decode cX9_price 53 = .ok (.imul, 1) := by decide +kernel
theorem dX9_price_54 : decode cX9_price 54 = .ok (.iload_n 3, 1) := by decide +kernel
theorem dX9_price_55 : decode cX9_price 55 = .ok (.iconst 2, 1) := by decide +kernel
theorem dX9_price_56 : decode cX9_price 56 = .ok (.iload 4, 2) := by decide +kernel
theorem dX9_price_58 : decode cX9_price 58 = .ok (.imul, 1) := by decide +kernel
theorem dX9_price_59 : decode cX9_price 59 = .ok (.iconst 1, 1) := by decide +kernel
theorem dX9_price_60 : decode cX9_price 60 = .ok (.isub, 1) := by decide +kernel
theorem dX9_price_61 : decode cX9_price 61 = .ok (.if_icmp .lt 10, 3) := by decide +kernel
theorem dX9_price_64 : decode cX9_price 64 = .ok (.aload_n 0, 1) := by decide +kernel
theorem dX9_price_65 : decode cX9_price 65 = .ok (.getfield 15, 3) := by decide +kernel
theorem dX9_price_68 : decode cX9_price 68 = .ok (.goto 4, 3) := by decide +kernel
theorem dX9_price_71 : decode cX9_price 71 = .ok (.iconst 0, 1) := by decide +kernel
theorem dX9_price_72 : decode cX9_price 72 = .ok (.iadd, 1) := by decide +kernel
theorem dX9_price_73 : decode cX9_price 73 = .ok (.ireturn, 1) := by decide +kernel
theorem dX10_init_0 : decode cX10_init 0 = .ok (.aload_n 0, 1) := by decide +kernel
theorem dX10_init_1 : decode cX10_init 1 = .ok (.invokespecial 3, 3) := by decide +kernel
theorem dX10_init_4 : decode cX10_init 4 = .ok (.aload_n 0, 1) := by decide +kernel
theorem dX10_init_5 : decode cX10_init 5 = .ok (.bipush 12, 2) := by decide +kernel
theorem dX10_init_7 : decode cX10_init 7 = .ok (.newarray .int, 2) := by decide +kernel
theorem dX10_init_9 : decode cX10_init 9 = .ok (.putfield 9, 3) := by decide +kernel
theorem dX10_init_12 : decode cX10_init 12 = .ok (.aload_n 0, 1) := by decide +kernel
theorem dX10_init_13 : decode cX10_init 13 = .ok (.bipush 12, 2) := by decide +kernel
theorem dX10_init_15 : decode cX10_init 15 = .ok (.newarray .int, 2) := by decide +kernel
theorem dX10_init_17 : decode cX10_init 17 = .ok (.putfield 15, 3) := by decide +kernel
theorem dX10_init_20 : decode cX10_init 20 = .ok (.aload_n 0, 1) := by decide +kernel
theorem dX10_init_21 : decode cX10_init 21 = .ok (.sipush 1313, 3) := by decide +kernel
theorem dX10_init_24 : decode cX10_init 24 = .ok (.newarray .int, 2) := by decide +kernel
theorem dX10_init_26 : decode cX10_init 26 = .ok (.putfield 18, 3) := by decide +kernel
theorem dX10_init_29 : decode cX10_init 29 = .ok (.aload_n 0, 1) := by decide +kernel
theorem dX10_init_30 : decode cX10_init 30 = .ok (.aload_n 1, 1) := by decide +kernel
theorem dX10_init_31 : decode cX10_init 31 = .ok (.putfield 21, 3) := by decide +kernel
theorem dX10_init_34 : decode cX10_init 34 = .ok (.aload_n 0, 1) := by decide +kernel
theorem dX10_init_35 : decode cX10_init 35 = .ok (.aload_n 2, 1) := by decide +kernel
theorem dX10_init_36 : decode cX10_init 36 = .ok (.putfield 25, 3) := by decide +kernel
theorem dX10_init_39 : decode cX10_init 39 = .ok (.return_, 1) := by decide +kernel
theorem dX10_size_0 : decode cX10_size 0 = .ok (.aload_n 0, 1) := by decide +kernel
theorem dX10_size_1 : decode cX10_size 1 = .ok (.getfield 29, 3) := by decide +kernel
theorem dX10_size_4 : decode cX10_size 4 = .ok (.ireturn, 1) := by decide +kernel
theorem dX10_hasRoom_0 : decode cX10_hasRoom 0 = .ok (.aload_n 0, 1) := by decide +kernel
theorem dX10_hasRoom_1 : decode cX10_hasRoom 1 = .ok (.getfield 29, 3) := by decide +kernel
theorem dX10_hasRoom_4 : decode cX10_hasRoom 4 = .ok (.bipush 12, 2) := by decide +kernel
theorem dX10_hasRoom_6 : decode cX10_hasRoom 6 = .ok (.if_icmp .ge 7, 3) := by decide +kernel
theorem dX10_hasRoom_9 : decode cX10_hasRoom 9 = .ok (.iconst 1, 1) := by decide +kernel
theorem dX10_hasRoom_10 : decode cX10_hasRoom 10 = .ok (.goto 4, 3) := by decide +kernel
theorem dX10_hasRoom_13 : decode cX10_hasRoom 13 = .ok (.iconst 0, 1) := by decide +kernel
theorem dX10_hasRoom_14 : decode cX10_hasRoom 14 = .ok (.ireturn, 1) := by decide +kernel
theorem dX10_add_0 : decode cX10_add 0 = .ok (.aload_n 0, 1) := by decide +kernel
theorem dX10_add_1 : decode cX10_add 1 = .ok (.invokevirtual 33, 3) := by decide +kernel
theorem dX10_add_4 : decode cX10_add 4 = .ok (.ifCond .eq 23, 3) := by decide +kernel
theorem dX10_add_7 : decode cX10_add 7 = .ok (.aload_n 0, 1) := by decide +kernel
theorem dX10_add_8 : decode cX10_add 8 = .ok (.getfield 9, 3) := by decide +kernel
theorem dX10_add_11 : decode cX10_add 11 = .ok (.aload_n 0, 1) := by decide +kernel
theorem dX10_add_12 : decode cX10_add 12 = .ok (.getfield 29, 3) := by decide +kernel
theorem dX10_add_15 : decode cX10_add 15 = .ok (.iload_n 1, 1) := by decide +kernel
theorem dX10_add_16 : decode cX10_add 16 = .ok (.iastore, 1) := by decide +kernel
theorem dX10_add_17 : decode cX10_add 17 = .ok (.aload_n 0, 1) := by decide +kernel
theorem dX10_add_18 : decode cX10_add 18 = .ok (.dup, 1) := by decide +kernel
theorem dX10_add_19 : decode cX10_add 19 = .ok (.getfield 29, 3) := by decide +kernel
theorem dX10_add_22 : decode cX10_add 22 = .ok (.iconst 1, 1) := by decide +kernel
theorem dX10_add_23 : decode cX10_add 23 = .ok (.iadd, 1) := by decide +kernel
theorem dX10_add_24 : decode cX10_add 24 = .ok (.putfield 29, 3) := by decide +kernel
theorem dX10_add_27 : decode cX10_add 27 = .ok (.return_, 1) := by decide +kernel
theorem dX10_clear_0 : decode cX10_clear 0 = .ok (.aload_n 0, 1) := by decide +kernel
theorem dX10_clear_1 : decode cX10_clear 1 = .ok (.iconst 0, 1) := by decide +kernel
theorem dX10_clear_2 : decode cX10_clear 2 = .ok (.putfield 29, 3) := by decide +kernel
theorem dX10_clear_5 : decode cX10_clear 5 = .ok (.return_, 1) := by decide +kernel
theorem dX10_price_0 : decode cX10_price 0 = .ok (.aload_n 0, 1) := by decide +kernel
theorem dX10_price_1 : decode cX10_price 1 = .ok (.getfield 18, 3) := by decide +kernel
theorem dX10_price_4 : decode cX10_price 4 = .ok (.iconst 0, 1) := by decide +kernel
theorem dX10_price_5 : decode cX10_price 5 = .ok (.iaload, 1) := by decide +kernel
theorem dX10_price_6 : decode cX10_price 6 = .ok (.ireturn, 1) := by decide +kernel
theorem dX10_pairs_0 : decode cX10_pairs 0 = .ok (.iconst 0, 1) := by decide +kernel
theorem dX10_pairs_1 : decode cX10_pairs 1 = .ok (.istore_n 1, 1) := by decide +kernel
theorem dX10_pairs_2 : decode cX10_pairs 2 = .ok (.iconst 0, 1) := by decide +kernel
theorem dX10_pairs_3 : decode cX10_pairs 3 = .ok (.istore_n 2, 1) := by decide +kernel
theorem dX10_pairs_4 : decode cX10_pairs 4 = .ok (.iload_n 2, 1) := by decide +kernel
theorem dX10_pairs_5 : decode cX10_pairs 5 = .ok (.aload_n 0, 1) := by decide +kernel
theorem dX10_pairs_6 : decode cX10_pairs 6 = .ok (.getfield 29, 3) := by decide +kernel
theorem dX10_pairs_9 : decode cX10_pairs 9 = .ok (.if_icmp .ge 27, 3) := by decide +kernel
theorem dX10_pairs_12 : decode cX10_pairs 12 = .ok (.iload_n 1, 1) := by decide +kernel
theorem dX10_pairs_13 : decode cX10_pairs 13 = .ok (.aload_n 0, 1) := by decide +kernel
theorem dX10_pairs_14 : decode cX10_pairs 14 = .ok (.getfield 15, 3) := by decide +kernel
theorem dX10_pairs_17 : decode cX10_pairs 17 = .ok (.iload_n 2, 1) := by decide +kernel
theorem dX10_pairs_18 : decode cX10_pairs 18 = .ok (.iaload, 1) := by decide +kernel
theorem dX10_pairs_19 : decode cX10_pairs 19 = .ok (.iconst (-1), 1) := by decide +kernel
theorem dX10_pairs_20 : decode cX10_pairs 20 = .ok (.if_icmp .ne 7, 3) := by decide +kernel
theorem dX10_pairs_23 : decode cX10_pairs 23 = .ok (.iconst 0, 1) := by decide +kernel
theorem dX10_pairs_24 : decode cX10_pairs 24 = .ok (.goto 4, 3) := by decide +kernel
theorem dX10_pairs_27 : decode cX10_pairs 27 = .ok (.iconst 1, 1) := by decide +kernel
theorem dX10_pairs_28 : decode cX10_pairs 28 = .ok (.iadd, 1) := by decide +kernel
theorem dX10_pairs_29 : decode cX10_pairs 29 = .ok (.istore_n 1, 1) := by decide +kernel
theorem dX10_pairs_30 : decode cX10_pairs 30 = .ok (.iinc 2 1, 3) := by decide +kernel
theorem dX10_pairs_33 : decode cX10_pairs 33 = .ok (.goto (-29), 3) := by decide +kernel
theorem dX10_pairs_36 : decode cX10_pairs 36 = .ok (.iload_n 1, 1) := by decide +kernel
theorem dX10_pairs_37 : decode cX10_pairs 37 = .ok (.ireturn, 1) := by decide +kernel
theorem dX10_pairOf_0 : decode cX10_pairOf 0 = .ok (.iload_n 1, 1) := by decide +kernel
theorem dX10_pairOf_1 : decode cX10_pairOf 1 = .ok (.ifCond .lt 11, 3) := by decide +kernel
theorem dX10_pairOf_4 : decode cX10_pairOf 4 = .ok (.iload_n 1, 1) := by decide +kernel
theorem dX10_pairOf_5 : decode cX10_pairOf 5 = .ok (.aload_n 0, 1) := by decide +kernel
theorem dX10_pairOf_6 : decode cX10_pairOf 6 = .ok (.getfield 29, 3) := by decide +kernel
theorem dX10_pairOf_9 : decode cX10_pairOf 9 = .ok (.if_icmp .lt 7, 3) := by decide +kernel
theorem dX10_pairOf_12 : decode cX10_pairOf 12 = .ok (.iconst (-1), 1) := by decide +kernel
theorem dX10_pairOf_13 : decode cX10_pairOf 13 = .ok (.goto 9, 3) := by decide +kernel
theorem dX10_pairOf_16 : decode cX10_pairOf 16 = .ok (.aload_n 0, 1) := by decide +kernel
theorem dX10_pairOf_17 : decode cX10_pairOf 17 = .ok (.getfield 15, 3) := by decide +kernel
theorem dX10_pairOf_20 : decode cX10_pairOf 20 = .ok (.iload_n 1, 1) := by decide +kernel
theorem dX10_pairOf_21 : decode cX10_pairOf 21 = .ok (.iaload, 1) := by decide +kernel
theorem dX10_pairOf_22 : decode cX10_pairOf 22 = .ok (.ireturn, 1) := by decide +kernel
theorem dX10_findPairs_0 : decode cX10_findPairs 0 = .ok (.aload_n 0, 1) := by decide +kernel
theorem dX10_findPairs_1 : decode cX10_findPairs 1 = .ok (.invokevirtual 37, 3) := by decide +kernel
theorem dX10_findPairs_4 : decode cX10_findPairs 4 = .ok (.iconst 0, 1) := by decide +kernel
theorem dX10_findPairs_5 : decode cX10_findPairs 5 = .ok (.istore_n 1, 1) := by decide +kernel
theorem dX10_findPairs_6 : decode cX10_findPairs 6 = .ok (.iconst 0, 1) := by decide +kernel
theorem dX10_findPairs_7 : decode cX10_findPairs 7 = .ok (.istore_n 2, 1) := by decide +kernel
theorem dX10_findPairs_8 : decode cX10_findPairs 8 = .ok (.iload_n 2, 1) := by decide +kernel
theorem dX10_findPairs_9 : decode cX10_findPairs 9 = .ok (.aload_n 0, 1) := by decide +kernel
theorem dX10_findPairs_10 : decode cX10_findPairs 10 = .ok (.getfield 29, 3) := by decide +kernel
theorem dX10_findPairs_13 : decode cX10_findPairs 13 = .ok (.if_icmp .ge 44, 3) := by decide +kernel
theorem dX10_findPairs_16 : decode cX10_findPairs 16 = .ok (.aload_n 0, 1) := by decide +kernel
theorem dX10_findPairs_17 : decode cX10_findPairs 17 = .ok (.getfield 15, 3) := by decide +kernel
theorem dX10_findPairs_20 : decode cX10_findPairs 20 = .ok (.iload_n 2, 1) := by decide +kernel
theorem dX10_findPairs_21 : decode cX10_findPairs 21 = .ok (.aload_n 0, 1) := by decide +kernel
theorem dX10_findPairs_22 : decode cX10_findPairs 22 = .ok (.iload_n 2, 1) := by decide +kernel
theorem dX10_findPairs_23 : decode cX10_findPairs 23 = .ok (.iload_n 1, 1) := by decide +kernel
theorem dX10_findPairs_24 : decode cX10_findPairs 24 = .ok (.invokevirtual 40, 3) := by decide +kernel
theorem dX10_findPairs_27 : decode cX10_findPairs 27 = .ok (.iastore, 1) := by decide +kernel
theorem dX10_findPairs_28 : decode cX10_findPairs 28 = .ok (.aload_n 0, 1) := by decide +kernel
theorem dX10_findPairs_29 : decode cX10_findPairs 29 = .ok (.getfield 15, 3) := by decide +kernel
theorem dX10_findPairs_32 : decode cX10_findPairs 32 = .ok (.iload_n 2, 1) := by decide +kernel
theorem dX10_findPairs_33 : decode cX10_findPairs 33 = .ok (.iaload, 1) := by decide +kernel
theorem dX10_findPairs_34 : decode cX10_findPairs 34 = .ok (.iconst (-1), 1) := by decide +kernel
theorem dX10_findPairs_35 : decode cX10_findPairs 35 = .ok (.if_icmp .ne 7, 3) := by decide +kernel
theorem dX10_findPairs_38 : decode cX10_findPairs 38 = .ok (.iload_n 1, 1) := by decide +kernel
theorem dX10_findPairs_39 : decode cX10_findPairs 39 = .ok (.goto 11, 3) := by decide +kernel
theorem dX10_findPairs_42 : decode cX10_findPairs 42 = .ok (.aload_n 0, 1) := by decide +kernel
theorem dX10_findPairs_43 : decode cX10_findPairs 43 = .ok (.getfield 15, 3) := by decide +kernel
theorem dX10_findPairs_46 : decode cX10_findPairs 46 = .ok (.iload_n 2, 1) := by decide +kernel
theorem dX10_findPairs_47 : decode cX10_findPairs 47 = .ok (.iaload, 1) := by decide +kernel
theorem dX10_findPairs_48 : decode cX10_findPairs 48 = .ok (.iconst 1, 1) := by decide +kernel
theorem dX10_findPairs_49 : decode cX10_findPairs 49 = .ok (.iadd, 1) := by decide +kernel
theorem dX10_findPairs_50 : decode cX10_findPairs 50 = .ok (.istore_n 1, 1) := by decide +kernel
theorem dX10_findPairs_51 : decode cX10_findPairs 51 = .ok (.iinc 2 1, 3) := by decide +kernel
theorem dX10_findPairs_54 : decode cX10_findPairs 54 = .ok (.goto (-46), 3) := by decide +kernel
theorem dX10_findPairs_57 : decode cX10_findPairs 57 = .ok (.return_, 1) := by decide +kernel
theorem dX10_findLeast_0 : decode cX10_findLeast 0 = .ok (.aload_n 0, 1) := by decide +kernel
theorem dX10_findLeast_1 : decode cX10_findLeast 1 = .ok (.getfield 25, 3) := by decide +kernel
theorem dX10_findLeast_4 : decode cX10_findLeast 4 = .ok (.bipush 15, 2) := by decide +kernel
theorem dX10_findLeast_6 : decode cX10_findLeast 6 = .ok (.invokevirtual 46, 3) := by decide +kernel
theorem dX10_findLeast_9 : decode cX10_findLeast 9 = .ok (.istore_n 1, 1) := by decide +kernel
theorem dX10_findLeast_10 : decode cX10_findLeast 10 = .ok (.bipush 100, 2) := by decide +kernel
theorem dX10_findLeast_12 : decode cX10_findLeast 12 = .ok (.aload_n 0, 1) := by decide +kernel
theorem dX10_findLeast_13 : decode cX10_findLeast 13 = .ok (.getfield 21, 3) := by decide +kernel
theorem dX10_findLeast_16 : decode cX10_findLeast 16 = .ok (.invokevirtual 50, 3) := by decide +kernel
theorem dX10_findLeast_19 : decode cX10_findLeast 19 = .ok (.invokestatic 55, 3) := by decide +kernel
theorem dX10_findLeast_22 : decode cX10_findLeast 22 = .ok (.istore_n 2, 1) := by decide +kernel
theorem dX10_findLeast_23 : decode cX10_findLeast 23 = .ok (.aload_n 0, 1) := by decide +kernel
theorem dX10_findLeast_24 : decode cX10_findLeast 24 = .ok (.getfield 29, 3) := by decide +kernel
theorem dX10_findLeast_27 : decode cX10_findLeast 27 = .ok (.istore_n 3, 1) := by decide +kernel
theorem dX10_findLeast_28 : decode cX10_findLeast 28 = .ok (.iload_n 3, 1) := by decide +kernel
theorem dX10_findLeast_29 : decode cX10_findLeast 29 = .ok (.ifCond .lt 157, 3) := by decide +kernel
theorem dX10_findLeast_32 : decode cX10_findLeast 32 = .ok (.iload_n 2, 1) := by decide +kernel
theorem dX10_findLeast_33 : decode cX10_findLeast 33 = .ok (.istore 4, 2) := by decide +kernel
theorem dX10_findLeast_35 : decode cX10_findLeast 35 = .ok (.iload 4, 2) := by decide +kernel
theorem dX10_findLeast_37 : decode cX10_findLeast 37 = .ok (.ifCond .lt 143, 3) := by decide +kernel
theorem dX10_findLeast_40 : decode cX10_findLeast 40 = .ok (.iload_n 1, 1) := by decide +kernel
theorem dX10_findLeast_41 : decode cX10_findLeast 41 = .ok (.aload_n 0, 1) := by decide +kernel
theorem dX10_findLeast_42 : decode cX10_findLeast 42 = .ok (.getfield 29, 3) := by decide +kernel
theorem dX10_findLeast_45 : decode cX10_findLeast 45 = .ok (.iload_n 3, 1) := by decide +kernel
theorem dX10_findLeast_46 : decode cX10_findLeast 46 = .ok (.isub, 1) := by decide +kernel
theorem dX10_findLeast_47 : decode cX10_findLeast 47 = .ok (.iload_n 2, 1) := by decide +kernel
theorem dX10_findLeast_48 : decode cX10_findLeast 48 = .ok (.iadd, 1) := by decide +kernel
theorem dX10_findLeast_49 : decode cX10_findLeast 49 = .ok (.iload 4, 2) := by decide +kernel
theorem dX10_findLeast_51 : decode cX10_findLeast 51 = .ok (.isub, 1) := by decide +kernel
theorem dX10_findLeast_52 : decode cX10_findLeast 52 = .ok (.imul, 1) := by decide +kernel
theorem dX10_findLeast_53 : decode cX10_findLeast 53 = .ok (.istore 5, 2) := by decide +kernel
theorem dX10_findLeast_55 : decode cX10_findLeast 55 = .ok (.iload_n 3, 1) := by decide +kernel
theorem dX10_findLeast_56 : decode cX10_findLeast 56 = .ok (.aload_n 0, 1) := by decide +kernel
theorem dX10_findLeast_57 : decode cX10_findLeast 57 = .ok (.getfield 29, 3) := by decide +kernel
theorem dX10_findLeast_60 : decode cX10_findLeast 60 = .ok (.if_icmp .ge 26, 3) := by decide +kernel
theorem dX10_findLeast_63 : decode cX10_findLeast 63 = .ok (.iload 5, 2) := by decide +kernel
theorem dX10_findLeast_65 : decode cX10_findLeast 65 = .ok (.iload_n 1, 1) := by decide +kernel
theorem dX10_findLeast_66 : decode cX10_findLeast 66 = .ok (.aload_n 0, 1) := by decide +kernel
theorem dX10_findLeast_67 : decode cX10_findLeast 67 = .ok (.getfield 18, 3) := by decide +kernel
theorem dX10_findLeast_70 : decode cX10_findLeast 70 = .ok (.iload_n 3, 1) := by decide +kernel
theorem dX10_findLeast_71 : decode cX10_findLeast 71 = .ok (.iconst 1, 1) := by decide +kernel
theorem dX10_findLeast_72 : decode cX10_findLeast 72 = .ok (.iadd, 1) := by decide +kernel
theorem dX10_findLeast_73 : decode cX10_findLeast 73 = .ok (.bipush 101, 2) := by decide +kernel
theorem dX10_findLeast_75 : decode cX10_findLeast 75 = .ok (.imul, 1) := by decide +kernel
theorem dX10_findLeast_76 : decode cX10_findLeast 76 = .ok (.iload 4, 2) := by decide +kernel
theorem dX10_findLeast_78 : decode cX10_findLeast 78 = .ok (.iadd, 1) := by decide +kernel
theorem dX10_findLeast_79 : decode cX10_findLeast 79 = .ok (.iaload, 1) := by decide +kernel
theorem dX10_findLeast_80 : decode cX10_findLeast 80 = .ok (.iadd, 1) := by decide +kernel
theorem dX10_findLeast_81 : decode cX10_findLeast 81 = .ok (.invokestatic 55, 3) := by decide +kernel
theorem dX10_findLeast_84 : decode cX10_findLeast 84 = .ok (.istore 5, 2) := by decide +kernel
theorem dX10_findLeast_86 : decode cX10_findLeast 86 = .ok (.iload 4, 2) := by decide +kernel
theorem dX10_findLeast_88 : decode cX10_findLeast 88 = .ok (.iload_n 2, 1) := by decide +kernel
theorem dX10_findLeast_89 : decode cX10_findLeast 89 = .ok (.if_icmp .ge 26, 3) := by decide +kernel
theorem dX10_findLeast_92 : decode cX10_findLeast 92 = .ok (.iload 5, 2) := by decide +kernel
theorem dX10_findLeast_94 : decode cX10_findLeast 94 = .ok (.iload_n 1, 1) := by decide +kernel
theorem dX10_findLeast_95 : decode cX10_findLeast 95 = .ok (.aload_n 0, 1) := by decide +kernel
theorem dX10_findLeast_96 : decode cX10_findLeast 96 = .ok (.getfield 18, 3) := by decide +kernel
theorem dX10_findLeast_99 : decode cX10_findLeast 99 = .ok (.iload_n 3, 1) := by decide +kernel
theorem dX10_findLeast_100 : decode cX10_findLeast 100 = .ok (.bipush 101, 2) := by decide +kernel
theorem dX10_findLeast_102 : decode cX10_findLeast 102 = .ok (.imul, 1) := by decide +kernel
theorem dX10_findLeast_103 : decode cX10_findLeast 103 = .ok (.iload 4, 2) := by decide +kernel
theorem dX10_findLeast_105 : decode cX10_findLeast 105 = .ok (.iadd, 1) := by decide +kernel
theorem dX10_findLeast_106 : decode cX10_findLeast 106 = .ok (.iconst 1, 1) := by decide +kernel
theorem dX10_findLeast_107 : decode cX10_findLeast 107 = .ok (.iadd, 1) := by decide +kernel
theorem dX10_findLeast_108 : decode cX10_findLeast 108 = .ok (.iaload, 1) := by decide +kernel
theorem dX10_findLeast_109 : decode cX10_findLeast 109 = .ok (.iadd, 1) := by decide +kernel
theorem dX10_findLeast_110 : decode cX10_findLeast 110 = .ok (.invokestatic 55, 3) := by decide +kernel
theorem dX10_findLeast_113 : decode cX10_findLeast 113 = .ok (.istore 5, 2) := by decide +kernel
theorem dX10_findLeast_115 : decode cX10_findLeast 115 = .ok (.iload_n 3, 1) := by decide +kernel
theorem dX10_findLeast_116 : decode cX10_findLeast 116 = .ok (.aload_n 0, 1) := by decide +kernel
theorem dX10_findLeast_117 : decode cX10_findLeast 117 = .ok (.getfield 29, 3) := by decide +kernel
theorem dX10_findLeast_120 : decode cX10_findLeast 120 = .ok (.if_icmp .ge 40, 3) := by decide +kernel
theorem dX10_findLeast_123 : decode cX10_findLeast 123 = .ok (.iload 4, 2) := by decide +kernel
theorem dX10_findLeast_125 : decode cX10_findLeast 125 = .ok (.iload_n 2, 1) := by decide +kernel
theorem dX10_findLeast_126 : decode cX10_findLeast 126 = .ok (.if_icmp .ge 34, 3) := by decide +kernel
theorem dX10_findLeast_129 : decode cX10_findLeast 129 = .ok (.iload 5, 2) := by decide +kernel
theorem dX10_findLeast_131 : decode cX10_findLeast 131 = .ok (.aload_n 0, 1) := by decide +kernel
theorem dX10_findLeast_132 : decode cX10_findLeast 132 = .ok (.iload_n 3, 1) := by decide +kernel
theorem dX10_findLeast_133 : decode cX10_findLeast 133 = .ok (.iload 4, 2) := by decide +kernel
theorem dX10_findLeast_135 : decode cX10_findLeast 135 = .ok (.invokevirtual 60, 3) := by decide +kernel
theorem dX10_findLeast_138 : decode cX10_findLeast 138 = .ok (.aload_n 0, 1) := by decide +kernel
theorem dX10_findLeast_139 : decode cX10_findLeast 139 = .ok (.getfield 18, 3) := by decide +kernel
theorem dX10_findLeast_142 : decode cX10_findLeast 142 = .ok (.iload_n 3, 1) := by decide +kernel
theorem dX10_findLeast_143 : decode cX10_findLeast 143 = .ok (.iconst 1, 1) := by decide +kernel
theorem dX10_findLeast_144 : decode cX10_findLeast 144 = .ok (.iadd, 1) := by decide +kernel
theorem dX10_findLeast_145 : decode cX10_findLeast 145 = .ok (.bipush 101, 2) := by decide +kernel
theorem dX10_findLeast_147 : decode cX10_findLeast 147 = .ok (.imul, 1) := by decide +kernel
theorem dX10_findLeast_148 : decode cX10_findLeast 148 = .ok (.iload 4, 2) := by decide +kernel
theorem dX10_findLeast_150 : decode cX10_findLeast 150 = .ok (.iadd, 1) := by decide +kernel
theorem dX10_findLeast_151 : decode cX10_findLeast 151 = .ok (.iconst 1, 1) := by decide +kernel
theorem dX10_findLeast_152 : decode cX10_findLeast 152 = .ok (.iadd, 1) := by decide +kernel
theorem dX10_findLeast_153 : decode cX10_findLeast 153 = .ok (.iaload, 1) := by decide +kernel
theorem dX10_findLeast_154 : decode cX10_findLeast 154 = .ok (.iadd, 1) := by decide +kernel
theorem dX10_findLeast_155 : decode cX10_findLeast 155 = .ok (.invokestatic 55, 3) := by decide +kernel
theorem dX10_findLeast_158 : decode cX10_findLeast 158 = .ok (.istore 5, 2) := by decide +kernel
theorem dX10_findLeast_160 : decode cX10_findLeast 160 = .ok (.aload_n 0, 1) := by decide +kernel
theorem dX10_findLeast_161 : decode cX10_findLeast 161 = .ok (.getfield 18, 3) := by decide +kernel
theorem dX10_findLeast_164 : decode cX10_findLeast 164 = .ok (.iload_n 3, 1) := by decide +kernel
theorem dX10_findLeast_165 : decode cX10_findLeast 165 = .ok (.bipush 101, 2) := by decide +kernel
theorem dX10_findLeast_167 : decode cX10_findLeast 167 = .ok (.imul, 1) := by decide +kernel
theorem dX10_findLeast_168 : decode cX10_findLeast 168 = .ok (.iload 4, 2) := by decide +kernel
theorem dX10_findLeast_170 : decode cX10_findLeast 170 = .ok (.iadd, 1) := by decide +kernel
theorem dX10_findLeast_171 : decode cX10_findLeast 171 = .ok (.iload 5, 2) := by decide +kernel
theorem dX10_findLeast_173 : decode cX10_findLeast 173 = .ok (.iastore, 1) := by decide +kernel
theorem dX10_findLeast_174 : decode cX10_findLeast 174 = .ok (.iinc 4 (-1), 3) := by decide +kernel
theorem dX10_findLeast_177 : decode cX10_findLeast 177 = .ok (.goto (-142), 3) := by decide +kernel
theorem dX10_findLeast_180 : decode cX10_findLeast 180 = .ok (.iinc 3 (-1), 3) := by decide +kernel
theorem dX10_findLeast_183 : decode cX10_findLeast 183 = .ok (.goto (-155), 3) := by decide +kernel
theorem dX10_findLeast_186 : decode cX10_findLeast 186 = .ok (.return_, 1) := by decide +kernel
theorem dX10_firstPair_0 : decode cX10_firstPair 0 = .ok (.aload_n 0, 1) := by decide +kernel
theorem dX10_firstPair_1 : decode cX10_firstPair 1 = .ok (.getfield 25, 3) := by decide +kernel
theorem dX10_firstPair_4 : decode cX10_firstPair 4 = .ok (.bipush 15, 2) := by decide +kernel
theorem dX10_firstPair_6 : decode cX10_firstPair 6 = .ok (.invokevirtual 46, 3) := by decide +kernel
theorem dX10_firstPair_9 : decode cX10_firstPair 9 = .ok (.istore_n 3, 1) := by decide +kernel
theorem dX10_firstPair_10 : decode cX10_firstPair 10 = .ok (.bipush 100, 2) := by decide +kernel
theorem dX10_firstPair_12 : decode cX10_firstPair 12 = .ok (.aload_n 0, 1) := by decide +kernel
theorem dX10_firstPair_13 : decode cX10_firstPair 13 = .ok (.getfield 21, 3) := by decide +kernel
theorem dX10_firstPair_16 : decode cX10_firstPair 16 = .ok (.invokevirtual 50, 3) := by decide +kernel
theorem dX10_firstPair_19 : decode cX10_firstPair 19 = .ok (.invokestatic 55, 3) := by decide +kernel
theorem dX10_firstPair_22 : decode cX10_firstPair 22 = .ok (.istore 4, 2) := by decide +kernel
theorem dX10_firstPair_24 : decode cX10_firstPair 24 = .ok (.iload_n 2, 1) := by decide +kernel
theorem dX10_firstPair_25 : decode cX10_firstPair 25 = .ok (.istore 5, 2) := by decide +kernel
theorem dX10_firstPair_27 : decode cX10_firstPair 27 = .ok (.iload 5, 2) := by decide +kernel
theorem dX10_firstPair_29 : decode cX10_firstPair 29 = .ok (.iload 4, 2) := by decide +kernel
theorem dX10_firstPair_31 : decode cX10_firstPair 31 = .ok (.if_icmp .ge 61, 3) := by decide +kernel
theorem dX10_firstPair_34 : decode cX10_firstPair 34 = .ok (.iload_n 3, 1) := by decide +kernel
theorem dX10_firstPair_35 : decode cX10_firstPair 35 = .ok (.iload 5, 2) := by decide +kernel
theorem dX10_firstPair_37 : decode cX10_firstPair 37 = .ok (.iload_n 2, 1) := by decide +kernel
theorem dX10_firstPair_38 : decode cX10_firstPair 38 = .ok (.isub, 1) := by decide +kernel
theorem dX10_firstPair_39 : decode cX10_firstPair 39 = .ok (.imul, 1) := by decide +kernel
theorem dX10_firstPair_40 : decode cX10_firstPair 40 = .ok (.aload_n 0, 1) := by decide +kernel
theorem dX10_firstPair_41 : decode cX10_firstPair 41 = .ok (.iload_n 1, 1) := by decide +kernel
theorem dX10_firstPair_42 : decode cX10_firstPair 42 = .ok (.iload 5, 2) := by decide +kernel
theorem dX10_firstPair_44 : decode cX10_firstPair 44 = .ok (.invokevirtual 60, 3) := by decide +kernel
theorem dX10_firstPair_47 : decode cX10_firstPair 47 = .ok (.iadd, 1) := by decide +kernel
theorem dX10_firstPair_48 : decode cX10_firstPair 48 = .ok (.aload_n 0, 1) := by decide +kernel
theorem dX10_firstPair_49 : decode cX10_firstPair 49 = .ok (.getfield 18, 3) := by decide +kernel
theorem dX10_firstPair_52 : decode cX10_firstPair 52 = .ok (.iload_n 1, 1) := by decide +kernel
theorem dX10_firstPair_53 : decode cX10_firstPair 53 = .ok (.iconst 1, 1) := by decide +kernel
theorem dX10_firstPair_54 : decode cX10_firstPair 54 = .ok (.iadd, 1) := by decide +kernel
theorem dX10_firstPair_55 : decode cX10_firstPair 55 = .ok (.bipush 101, 2) := by decide +kernel
theorem dX10_firstPair_57 : decode cX10_firstPair 57 = .ok (.imul, 1) := by decide +kernel
theorem dX10_firstPair_58 : decode cX10_firstPair 58 = .ok (.iload 5, 2) := by decide +kernel
theorem dX10_firstPair_60 : decode cX10_firstPair 60 = .ok (.iadd, 1) := by decide +kernel
theorem dX10_firstPair_61 : decode cX10_firstPair 61 = .ok (.iconst 1, 1) := by decide +kernel
theorem dX10_firstPair_62 : decode cX10_firstPair 62 = .ok (.iadd, 1) := by decide +kernel
theorem dX10_firstPair_63 : decode cX10_firstPair 63 = .ok (.iaload, 1) := by decide +kernel
theorem dX10_firstPair_64 : decode cX10_firstPair 64 = .ok (.iadd, 1) := by decide +kernel
theorem dX10_firstPair_65 : decode cX10_firstPair 65 = .ok (.istore 6, 2) := by decide +kernel
theorem dX10_firstPair_67 : decode cX10_firstPair 67 = .ok (.iload 6, 2) := by decide +kernel
theorem dX10_firstPair_69 : decode cX10_firstPair 69 = .ok (.aload_n 0, 1) := by decide +kernel
theorem dX10_firstPair_70 : decode cX10_firstPair 70 = .ok (.getfield 18, 3) := by decide +kernel
theorem dX10_firstPair_73 : decode cX10_firstPair 73 = .ok (.iload_n 1, 1) := by decide +kernel
theorem dX10_firstPair_74 : decode cX10_firstPair 74 = .ok (.bipush 101, 2) := by decide +kernel
theorem dX10_firstPair_76 : decode cX10_firstPair 76 = .ok (.imul, 1) := by decide +kernel
theorem dX10_firstPair_77 : decode cX10_firstPair 77 = .ok (.iload_n 2, 1) := by decide +kernel
theorem dX10_firstPair_78 : decode cX10_firstPair 78 = .ok (.iadd, 1) := by decide +kernel
theorem dX10_firstPair_79 : decode cX10_firstPair 79 = .ok (.iaload, 1) := by decide +kernel
theorem dX10_firstPair_80 : decode cX10_firstPair 80 = .ok (.if_icmp .ne 6, 3) := by decide +kernel
theorem dX10_firstPair_83 : decode cX10_firstPair 83 = .ok (.iload 5, 2) := by decide +kernel
theorem dX10_firstPair_85 : decode cX10_firstPair 85 = .ok (.ireturn, 1) := by decide +kernel
theorem dX10_firstPair_86 : decode cX10_firstPair 86 = .ok (.iinc 5 1, 3) := by decide +kernel
theorem dX10_firstPair_89 : decode cX10_firstPair 89 = .ok (.goto (-62), 3) := by decide +kernel
theorem dX10_firstPair_92 : decode cX10_firstPair 92 = .ok (.iconst (-1), 1) := by decide +kernel
theorem dX10_firstPair_93 : decode cX10_firstPair 93 = .ok (.ireturn, 1) := by decide +kernel
theorem dX10_pairPrice_0 : decode cX10_pairPrice 0 = .ok (.bipush 10, 2) := by decide +kernel
theorem dX10_pairPrice_2 : decode cX10_pairPrice 2 = .ok (.aload_n 0, 1) := by decide +kernel
theorem dX10_pairPrice_3 : decode cX10_pairPrice 3 = .ok (.getfield 9, 3) := by decide +kernel
theorem dX10_pairPrice_6 : decode cX10_pairPrice 6 = .ok (.iload_n 1, 1) := by decide +kernel
theorem dX10_pairPrice_7 : decode cX10_pairPrice 7 = .ok (.iaload, 1) := by decide +kernel
theorem dX10_pairPrice_8 : decode cX10_pairPrice 8 = .ok (.aload_n 0, 1) := by decide +kernel
theorem dX10_pairPrice_9 : decode cX10_pairPrice 9 = .ok (.getfield 21, 3) := by decide +kernel
theorem dX10_pairPrice_12 : decode cX10_pairPrice 12 = .ok (.iload_n 2, 1) := by decide +kernel
theorem dX10_pairPrice_13 : decode cX10_pairPrice 13 = .ok (.invokevirtual 63, 3) := by decide +kernel
theorem dX10_pairPrice_16 : decode cX10_pairPrice 16 = .ok (.isub, 1) := by decide +kernel
theorem dX10_pairPrice_17 : decode cX10_pairPrice 17 = .ok (.invokestatic 66, 3) := by decide +kernel
theorem dX10_pairPrice_20 : decode cX10_pairPrice 20 = .ok (.imul, 1) := by decide +kernel
theorem dX10_pairPrice_21 : decode cX10_pairPrice 21 = .ok (.ireturn, 1) := by decide +kernel
theorem dX11_init_0 : decode cX11_init 0 = .ok (.aload_n 0, 1) := by decide +kernel
theorem dX11_init_1 : decode cX11_init 1 = .ok (.invokespecial 1, 3) := by decide +kernel
theorem dX11_init_4 : decode cX11_init 4 = .ok (.aload_n 0, 1) := by decide +kernel
theorem dX11_init_5 : decode cX11_init 5 = .ok (.new 7, 3) := by decide +kernel
theorem dX11_init_8 : decode cX11_init 8 = .ok (.dup, 1) := by decide +kernel
theorem dX11_init_9 : decode cX11_init 9 = .ok (.invokespecial 9, 3) := by decide +kernel
theorem dX11_init_12 : decode cX11_init 12 = .ok (.putfield 10, 3) := by decide +kernel
theorem dX11_init_15 : decode cX11_init 15 = .ok (.aload_n 0, 1) := by decide +kernel
theorem dX11_init_16 : decode cX11_init 16 = .ok (.new 16, 3) := by decide +kernel
theorem dX11_init_19 : decode cX11_init 19 = .ok (.dup, 1) := by decide +kernel
theorem dX11_init_20 : decode cX11_init 20 = .ok (.invokespecial 18, 3) := by decide +kernel
theorem dX11_init_23 : decode cX11_init 23 = .ok (.putfield 19, 3) := by decide +kernel
theorem dX11_init_26 : decode cX11_init 26 = .ok (.aload_n 0, 1) := by decide +kernel
theorem dX11_init_27 : decode cX11_init 27 = .ok (.new 23, 3) := by decide +kernel
theorem dX11_init_30 : decode cX11_init 30 = .ok (.dup, 1) := by decide +kernel
theorem dX11_init_31 : decode cX11_init 31 = .ok (.aload_n 0, 1) := by decide +kernel
theorem dX11_init_32 : decode cX11_init 32 = .ok (.getfield 10, 3) := by decide +kernel
theorem dX11_init_35 : decode cX11_init 35 = .ok (.aload_n 0, 1) := by decide +kernel
theorem dX11_init_36 : decode cX11_init 36 = .ok (.getfield 19, 3) := by decide +kernel
theorem dX11_init_39 : decode cX11_init 39 = .ok (.invokespecial 25, 3) := by decide +kernel
theorem dX11_init_42 : decode cX11_init 42 = .ok (.putfield 28, 3) := by decide +kernel
theorem dX11_init_45 : decode cX11_init 45 = .ok (.aload_n 0, 1) := by decide +kernel
theorem dX11_init_46 : decode cX11_init 46 = .ok (.new 32, 3) := by decide +kernel
theorem dX11_init_49 : decode cX11_init 49 = .ok (.dup, 1) := by decide +kernel
theorem dX11_init_50 : decode cX11_init 50 = .ok (.aload_n 0, 1) := by decide +kernel
theorem dX11_init_51 : decode cX11_init 51 = .ok (.getfield 28, 3) := by decide +kernel
theorem dX11_init_54 : decode cX11_init 54 = .ok (.aload_n 0, 1) := by decide +kernel
theorem dX11_init_55 : decode cX11_init 55 = .ok (.getfield 19, 3) := by decide +kernel
theorem dX11_init_58 : decode cX11_init 58 = .ok (.invokespecial 34, 3) := by decide +kernel
theorem dX11_init_61 : decode cX11_init 61 = .ok (.putfield 37, 3) := by decide +kernel
theorem dX11_init_64 : decode cX11_init 64 = .ok (.aload_n 0, 1) := by decide +kernel
theorem dX11_init_65 : decode cX11_init 65 = .ok (.new 41, 3) := by decide +kernel
theorem dX11_init_68 : decode cX11_init 68 = .ok (.dup, 1) := by decide +kernel
theorem dX11_init_69 : decode cX11_init 69 = .ok (.aload_n 0, 1) := by decide +kernel
theorem dX11_init_70 : decode cX11_init 70 = .ok (.getfield 37, 3) := by decide +kernel
theorem dX11_init_73 : decode cX11_init 73 = .ok (.aload_n 0, 1) := by decide +kernel
theorem dX11_init_74 : decode cX11_init 74 = .ok (.getfield 19, 3) := by decide +kernel
theorem dX11_init_77 : decode cX11_init 77 = .ok (.invokespecial 43, 3) := by decide +kernel
theorem dX11_init_80 : decode cX11_init 80 = .ok (.putfield 46, 3) := by decide +kernel
theorem dX11_init_83 : decode cX11_init 83 = .ok (.aload_n 0, 1) := by decide +kernel
theorem dX11_init_84 : decode cX11_init 84 = .ok (.new 50, 3) := by decide +kernel
theorem dX11_init_87 : decode cX11_init 87 = .ok (.dup, 1) := by decide +kernel
theorem dX11_init_88 : decode cX11_init 88 = .ok (.aload_n 0, 1) := by decide +kernel
theorem dX11_init_89 : decode cX11_init 89 = .ok (.getfield 37, 3) := by decide +kernel
theorem dX11_init_92 : decode cX11_init 92 = .ok (.aload_n 0, 1) := by decide +kernel
theorem dX11_init_93 : decode cX11_init 93 = .ok (.getfield 19, 3) := by decide +kernel
theorem dX11_init_96 : decode cX11_init 96 = .ok (.invokespecial 52, 3) := by decide +kernel
theorem dX11_init_99 : decode cX11_init 99 = .ok (.putfield 53, 3) := by decide +kernel
theorem dX11_init_102 : decode cX11_init 102 = .ok (.aload_n 0, 1) := by decide +kernel
theorem dX11_init_103 : decode cX11_init 103 = .ok (.new 57, 3) := by decide +kernel
theorem dX11_init_106 : decode cX11_init 106 = .ok (.dup, 1) := by decide +kernel
theorem dX11_init_107 : decode cX11_init 107 = .ok (.aload_n 0, 1) := by decide +kernel
theorem dX11_init_108 : decode cX11_init 108 = .ok (.getfield 46, 3) := by decide +kernel
theorem dX11_init_111 : decode cX11_init 111 = .ok (.aload_n 0, 1) := by decide +kernel
theorem dX11_init_112 : decode cX11_init 112 = .ok (.getfield 10, 3) := by decide +kernel
theorem dX11_init_115 : decode cX11_init 115 = .ok (.aload_n 0, 1) := by decide +kernel
theorem dX11_init_116 : decode cX11_init 116 = .ok (.getfield 19, 3) := by decide +kernel
theorem dX11_init_119 : decode cX11_init 119 = .ok (.invokespecial 59, 3) := by decide +kernel
theorem dX11_init_122 : decode cX11_init 122 = .ok (.putfield 62, 3) := by decide +kernel
theorem dX11_init_125 : decode cX11_init 125 = .ok (.aload_n 0, 1) := by decide +kernel
theorem dX11_init_126 : decode cX11_init 126 = .ok (.new 66, 3) := by decide +kernel
theorem dX11_init_129 : decode cX11_init 129 = .ok (.dup, 1) := by decide +kernel
theorem dX11_init_130 : decode cX11_init 130 = .ok (.aload_n 0, 1) := by decide +kernel
theorem dX11_init_131 : decode cX11_init 131 = .ok (.getfield 46, 3) := by decide +kernel
theorem dX11_init_134 : decode cX11_init 134 = .ok (.invokespecial 68, 3) := by decide +kernel
theorem dX11_init_137 : decode cX11_init 137 = .ok (.putfield 71, 3) := by decide +kernel
theorem dX11_init_140 : decode cX11_init 140 = .ok (.aload_n 0, 1) := by decide +kernel
theorem dX11_init_141 : decode cX11_init 141 = .ok (.new 75, 3) := by decide +kernel
theorem dX11_init_144 : decode cX11_init 144 = .ok (.dup, 1) := by decide +kernel
theorem dX11_init_145 : decode cX11_init 145 = .ok (.aload_n 0, 1) := by decide +kernel
theorem dX11_init_146 : decode cX11_init 146 = .ok (.getfield 62, 3) := by decide +kernel
theorem dX11_init_149 : decode cX11_init 149 = .ok (.aload_n 0, 1) := by decide +kernel
theorem dX11_init_150 : decode cX11_init 150 = .ok (.getfield 10, 3) := by decide +kernel
theorem dX11_init_153 : decode cX11_init 153 = .ok (.aload_n 0, 1) := by decide +kernel
theorem dX11_init_154 : decode cX11_init 154 = .ok (.getfield 19, 3) := by decide +kernel
theorem dX11_init_157 : decode cX11_init 157 = .ok (.invokespecial 77, 3) := by decide +kernel
theorem dX11_init_160 : decode cX11_init 160 = .ok (.putfield 80, 3) := by decide +kernel
theorem dX11_init_163 : decode cX11_init 163 = .ok (.aload_n 0, 1) := by decide +kernel
theorem dX11_init_164 : decode cX11_init 164 = .ok (.new 84, 3) := by decide +kernel
theorem dX11_init_167 : decode cX11_init 167 = .ok (.dup, 1) := by decide +kernel
theorem dX11_init_168 : decode cX11_init 168 = .ok (.aload_n 0, 1) := by decide +kernel
theorem dX11_init_169 : decode cX11_init 169 = .ok (.getfield 71, 3) := by decide +kernel
theorem dX11_init_172 : decode cX11_init 172 = .ok (.aload_n 0, 1) := by decide +kernel
theorem dX11_init_173 : decode cX11_init 173 = .ok (.getfield 19, 3) := by decide +kernel
theorem dX11_init_176 : decode cX11_init 176 = .ok (.invokespecial 86, 3) := by decide +kernel
theorem dX11_init_179 : decode cX11_init 179 = .ok (.putfield 89, 3) := by decide +kernel
theorem dX11_init_182 : decode cX11_init 182 = .ok (.return_, 1) := by decide +kernel
theorem dX11_feed_0 : decode cX11_feed 0 = .ok (.aload_n 0, 1) := by decide +kernel
theorem dX11_feed_1 : decode cX11_feed 1 = .ok (.getfield 10, 3) := by decide +kernel
theorem dX11_feed_4 : decode cX11_feed 4 = .ok (.invokevirtual 93, 3) := by decide +kernel
theorem dX11_feed_7 : decode cX11_feed 7 = .ok (.bipush 20, 2) := by decide +kernel
theorem dX11_feed_9 : decode cX11_feed 9 = .ok (.iadd, 1) := by decide +kernel
theorem dX11_feed_10 : decode cX11_feed 10 = .ok (.sipush 400, 3) := by decide +kernel
theorem dX11_feed_13 : decode cX11_feed 13 = .ok (.if_icmp .le 5, 3) := by decide +kernel
theorem dX11_feed_16 : decode cX11_feed 16 = .ok (.iconst (-1), 1) := by decide +kernel
theorem dX11_feed_17 : decode cX11_feed 17 = .ok (.ireturn, 1) := by decide +kernel
theorem dX11_feed_18 : decode cX11_feed 18 = .ok (.aload_n 0, 1) := by decide +kernel
theorem dX11_feed_19 : decode cX11_feed 19 = .ok (.getfield 10, 3) := by decide +kernel
theorem dX11_feed_22 : decode cX11_feed 22 = .ok (.iload_n 1, 1) := by decide +kernel
theorem dX11_feed_23 : decode cX11_feed 23 = .ok (.invokevirtual 97, 3) := by decide +kernel
theorem dX11_feed_26 : decode cX11_feed 26 = .ok (.aload_n 0, 1) := by decide +kernel
theorem dX11_feed_27 : decode cX11_feed 27 = .ok (.getfield 10, 3) := by decide +kernel
theorem dX11_feed_30 : decode cX11_feed 30 = .ok (.iload_n 2, 1) := by decide +kernel
theorem dX11_feed_31 : decode cX11_feed 31 = .ok (.invokevirtual 97, 3) := by decide +kernel
theorem dX11_feed_34 : decode cX11_feed 34 = .ok (.aload_n 0, 1) := by decide +kernel
theorem dX11_feed_35 : decode cX11_feed 35 = .ok (.getfield 10, 3) := by decide +kernel
theorem dX11_feed_38 : decode cX11_feed 38 = .ok (.iload_n 3, 1) := by decide +kernel
theorem dX11_feed_39 : decode cX11_feed 39 = .ok (.invokevirtual 97, 3) := by decide +kernel
theorem dX11_feed_42 : decode cX11_feed 42 = .ok (.aload_n 0, 1) := by decide +kernel
theorem dX11_feed_43 : decode cX11_feed 43 = .ok (.getfield 10, 3) := by decide +kernel
theorem dX11_feed_46 : decode cX11_feed 46 = .ok (.iload 4, 2) := by decide +kernel
theorem dX11_feed_48 : decode cX11_feed 48 = .ok (.invokevirtual 97, 3) := by decide +kernel
theorem dX11_feed_51 : decode cX11_feed 51 = .ok (.aload_n 0, 1) := by decide +kernel
theorem dX11_feed_52 : decode cX11_feed 52 = .ok (.getfield 10, 3) := by decide +kernel
theorem dX11_feed_55 : decode cX11_feed 55 = .ok (.iload 5, 2) := by decide +kernel
theorem dX11_feed_57 : decode cX11_feed 57 = .ok (.invokevirtual 97, 3) := by decide +kernel
theorem dX11_feed_60 : decode cX11_feed 60 = .ok (.aload_n 0, 1) := by decide +kernel
theorem dX11_feed_61 : decode cX11_feed 61 = .ok (.getfield 10, 3) := by decide +kernel
theorem dX11_feed_64 : decode cX11_feed 64 = .ok (.invokevirtual 93, 3) := by decide +kernel
theorem dX11_feed_67 : decode cX11_feed 67 = .ok (.ireturn, 1) := by decide +kernel
theorem dX11_samples_0 : decode cX11_samples 0 = .ok (.iload_n 1, 1) := by decide +kernel
theorem dX11_samples_1 : decode cX11_samples 1 = .ok (.ifCond .lt 25, 3) := by decide +kernel
theorem dX11_samples_4 : decode cX11_samples 4 = .ok (.iload_n 1, 1) := by decide +kernel
theorem dX11_samples_5 : decode cX11_samples 5 = .ok (.aload_n 0, 1) := by decide +kernel
theorem dX11_samples_6 : decode cX11_samples 6 = .ok (.getfield 10, 3) := by decide +kernel
theorem dX11_samples_9 : decode cX11_samples 9 = .ok (.invokevirtual 93, 3) := by decide +kernel
theorem dX11_samples_12 : decode cX11_samples 12 = .ok (.if_icmp .gt 14, 3) := by decide +kernel
theorem dX11_samples_15 : decode cX11_samples 15 = .ok (.aload_n 0, 1) := by decide +kernel
theorem dX11_samples_16 : decode cX11_samples 16 = .ok (.getfield 10, 3) := by decide +kernel
theorem dX11_samples_19 : decode cX11_samples 19 = .ok (.iload_n 1, 1) := by decide +kernel
theorem dX11_samples_20 : decode cX11_samples 20 = .ok (.invokevirtual 101, 3) := by decide +kernel
theorem dX11_samples_23 : decode cX11_samples 23 = .ok (.ifCond .ne 7, 3) := by decide +kernel
theorem dX11_samples_26 : decode cX11_samples 26 = .ok (.sipush (-1000), 3) := by decide +kernel
theorem dX11_samples_29 : decode cX11_samples 29 = .ok (.ireturn, 1) := by decide +kernel
theorem dX11_samples_30 : decode cX11_samples 30 = .ok (.aload_n 0, 1) := by decide +kernel
theorem dX11_samples_31 : decode cX11_samples 31 = .ok (.getfield 10, 3) := by decide +kernel
theorem dX11_samples_34 : decode cX11_samples 34 = .ok (.invokevirtual 105, 3) := by decide +kernel
theorem dX11_samples_37 : decode cX11_samples 37 = .ok (.istore_n 2, 1) := by decide +kernel
theorem dX11_samples_38 : decode cX11_samples 38 = .ok (.aload_n 0, 1) := by decide +kernel
theorem dX11_samples_39 : decode cX11_samples 39 = .ok (.getfield 10, 3) := by decide +kernel
theorem dX11_samples_42 : decode cX11_samples 42 = .ok (.iload_n 1, 1) := by decide +kernel
theorem dX11_samples_43 : decode cX11_samples 43 = .ok (.invokevirtual 108, 3) := by decide +kernel
theorem dX11_samples_46 : decode cX11_samples 46 = .ok (.aload_n 0, 1) := by decide +kernel
theorem dX11_samples_47 : decode cX11_samples 47 = .ok (.iload_n 2, 1) := by decide +kernel
theorem dX11_samples_48 : decode cX11_samples 48 = .ok (.aload_n 0, 1) := by decide +kernel
theorem dX11_samples_49 : decode cX11_samples 49 = .ok (.getfield 10, 3) := by decide +kernel
theorem dX11_samples_52 : decode cX11_samples 52 = .ok (.invokevirtual 105, 3) := by decide +kernel
theorem dX11_samples_55 : decode cX11_samples 55 = .ok (.invokevirtual 111, 3) := by decide +kernel
theorem dX11_samples_58 : decode cX11_samples 58 = .ok (.ireturn, 1) := by decide +kernel
theorem dX11_cycles_0 : decode cX11_cycles 0 = .ok (.iload_n 1, 1) := by decide +kernel
theorem dX11_cycles_1 : decode cX11_cycles 1 = .ok (.iconst 2, 1) := by decide +kernel
theorem dX11_cycles_2 : decode cX11_cycles 2 = .ok (.if_icmp .lt 40, 3) := by decide +kernel
theorem dX11_cycles_5 : decode cX11_cycles 5 = .ok (.iload_n 1, 1) := by decide +kernel
theorem dX11_cycles_6 : decode cX11_cycles 6 = .ok (.bipush 48, 2) := by decide +kernel
theorem dX11_cycles_8 : decode cX11_cycles 8 = .ok (.if_icmp .gt 34, 3) := by decide +kernel
theorem dX11_cycles_11 : decode cX11_cycles 11 = .ok (.iload_n 2, 1) := by decide +kernel
theorem dX11_cycles_12 : decode cX11_cycles 12 = .ok (.invokestatic 115, 3) := by decide +kernel
theorem dX11_cycles_15 : decode cX11_cycles 15 = .ok (.ifCond .eq 27, 3) := by decide +kernel
theorem dX11_cycles_18 : decode cX11_cycles 18 = .ok (.iload_n 3, 1) := by decide +kernel
theorem dX11_cycles_19 : decode cX11_cycles 19 = .ok (.iconst 1, 1) := by decide +kernel
theorem dX11_cycles_20 : decode cX11_cycles 20 = .ok (.if_icmp .lt 22, 3) := by decide +kernel
theorem dX11_cycles_23 : decode cX11_cycles 23 = .ok (.iload_n 3, 1) := by decide +kernel
theorem dX11_cycles_24 : decode cX11_cycles 24 = .ok (.bipush 50, 2) := by decide +kernel
theorem dX11_cycles_26 : decode cX11_cycles 26 = .ok (.if_icmp .gt 16, 3) := by decide +kernel
theorem dX11_cycles_29 : decode cX11_cycles 29 = .ok (.aload_n 0, 1) := by decide +kernel
theorem dX11_cycles_30 : decode cX11_cycles 30 = .ok (.getfield 10, 3) := by decide +kernel
theorem dX11_cycles_33 : decode cX11_cycles 33 = .ok (.iload_n 1, 1) := by decide +kernel
theorem dX11_cycles_34 : decode cX11_cycles 34 = .ok (.iload_n 3, 1) := by decide +kernel
theorem dX11_cycles_35 : decode cX11_cycles 35 = .ok (.imul, 1) := by decide +kernel
theorem dX11_cycles_36 : decode cX11_cycles 36 = .ok (.invokevirtual 101, 3) := by decide +kernel
theorem dX11_cycles_39 : decode cX11_cycles 39 = .ok (.ifCond .ne 7, 3) := by decide +kernel
theorem dX11_cycles_42 : decode cX11_cycles 42 = .ok (.sipush (-1000), 3) := by decide +kernel
theorem dX11_cycles_45 : decode cX11_cycles 45 = .ok (.ireturn, 1) := by decide +kernel
theorem dX11_cycles_46 : decode cX11_cycles 46 = .ok (.aload_n 0, 1) := by decide +kernel
theorem dX11_cycles_47 : decode cX11_cycles 47 = .ok (.getfield 10, 3) := by decide +kernel
theorem dX11_cycles_50 : decode cX11_cycles 50 = .ok (.invokevirtual 105, 3) := by decide +kernel
theorem dX11_cycles_53 : decode cX11_cycles 53 = .ok (.istore 4, 2) := by decide +kernel
theorem dX11_cycles_55 : decode cX11_cycles 55 = .ok (.iconst 0, 1) := by decide +kernel
theorem dX11_cycles_56 : decode cX11_cycles 56 = .ok (.istore 5, 2) := by decide +kernel
theorem dX11_cycles_58 : decode cX11_cycles 58 = .ok (.iload 5, 2) := by decide +kernel
theorem dX11_cycles_60 : decode cX11_cycles 60 = .ok (.iload_n 3, 1) := by decide +kernel
theorem dX11_cycles_61 : decode cX11_cycles 61 = .ok (.if_icmp .ge 43, 3) := by decide +kernel
theorem dX11_cycles_64 : decode cX11_cycles 64 = .ok (.iconst 0, 1) := by decide +kernel
theorem dX11_cycles_65 : decode cX11_cycles 65 = .ok (.istore 6, 2) := by decide +kernel
theorem dX11_cycles_67 : decode cX11_cycles 67 = .ok (.iload 6, 2) := by decide +kernel
theorem dX11_cycles_69 : decode cX11_cycles 69 = .ok (.iload_n 1, 1) := by decide +kernel
theorem dX11_cycles_70 : decode cX11_cycles 70 = .ok (.if_icmp .ge 28, 3) := by decide +kernel
theorem dX11_cycles_73 : decode cX11_cycles 73 = .ok (.aload_n 0, 1) := by decide +kernel
theorem dX11_cycles_74 : decode cX11_cycles 74 = .ok (.getfield 10, 3) := by decide +kernel
theorem dX11_cycles_77 : decode cX11_cycles 77 = .ok (.iload_n 2, 1) := by decide +kernel
theorem dX11_cycles_78 : decode cX11_cycles 78 = .ok (.iconst 2, 1) := by decide +kernel
theorem dX11_cycles_79 : decode cX11_cycles 79 = .ok (.iload_n 2, 1) := by decide +kernel
theorem dX11_cycles_80 : decode cX11_cycles 80 = .ok (.imul, 1) := by decide +kernel
theorem dX11_cycles_81 : decode cX11_cycles 81 = .ok (.iload 6, 2) := by decide +kernel
theorem dX11_cycles_83 : decode cX11_cycles 83 = .ok (.imul, 1) := by decide +kernel
theorem dX11_cycles_84 : decode cX11_cycles 84 = .ok (.iload_n 1, 1) := by decide +kernel
theorem dX11_cycles_85 : decode cX11_cycles 85 = .ok (.invokestatic 118, 3) := by decide +kernel
theorem dX11_cycles_88 : decode cX11_cycles 88 = .ok (.isub, 1) := by decide +kernel
theorem dX11_cycles_89 : decode cX11_cycles 89 = .ok (.invokevirtual 121, 3) := by decide +kernel
theorem dX11_cycles_92 : decode cX11_cycles 92 = .ok (.iinc 6 1, 3) := by decide +kernel
theorem dX11_cycles_95 : decode cX11_cycles 95 = .ok (.goto (-28), 3) := by decide +kernel
theorem dX11_cycles_98 : decode cX11_cycles 98 = .ok (.iinc 5 1, 3) := by decide +kernel
theorem dX11_cycles_101 : decode cX11_cycles 101 = .ok (.goto (-43), 3) := by decide +kernel
theorem dX11_cycles_104 : decode cX11_cycles 104 = .ok (.aload_n 0, 1) := by decide +kernel
theorem dX11_cycles_105 : decode cX11_cycles 105 = .ok (.iload 4, 2) := by decide +kernel
theorem dX11_cycles_107 : decode cX11_cycles 107 = .ok (.aload_n 0, 1) := by decide +kernel
theorem dX11_cycles_108 : decode cX11_cycles 108 = .ok (.getfield 10, 3) := by decide +kernel
theorem dX11_cycles_111 : decode cX11_cycles 111 = .ok (.invokevirtual 105, 3) := by decide +kernel
theorem dX11_cycles_114 : decode cX11_cycles 114 = .ok (.invokevirtual 111, 3) := by decide +kernel
theorem dX11_cycles_117 : decode cX11_cycles 117 = .ok (.ireturn, 1) := by decide +kernel
theorem dX11_noise_0 : decode cX11_noise 0 = .ok (.iload_n 2, 1) := by decide +kernel
theorem dX11_noise_1 : decode cX11_noise 1 = .ok (.iconst 1, 1) := by decide +kernel
theorem dX11_noise_2 : decode cX11_noise 2 = .ok (.if_icmp .lt 28, 3) := by decide +kernel
theorem dX11_noise_5 : decode cX11_noise 5 = .ok (.iload_n 2, 1) := by decide +kernel
theorem dX11_noise_6 : decode cX11_noise 6 = .ok (.sipush 400, 3) := by decide +kernel
theorem dX11_noise_9 : decode cX11_noise 9 = .ok (.if_icmp .gt 21, 3) := by decide +kernel
theorem dX11_noise_12 : decode cX11_noise 12 = .ok (.iload_n 3, 1) := by decide +kernel
theorem dX11_noise_13 : decode cX11_noise 13 = .ok (.invokestatic 115, 3) := by decide +kernel
theorem dX11_noise_16 : decode cX11_noise 16 = .ok (.ifCond .eq 14, 3) := by decide +kernel
theorem dX11_noise_19 : decode cX11_noise 19 = .ok (.aload_n 0, 1) := by decide +kernel
theorem dX11_noise_20 : decode cX11_noise 20 = .ok (.getfield 10, 3) := by decide +kernel
theorem dX11_noise_23 : decode cX11_noise 23 = .ok (.iload_n 2, 1) := by decide +kernel
theorem dX11_noise_24 : decode cX11_noise 24 = .ok (.invokevirtual 101, 3) := by decide +kernel
theorem dX11_noise_27 : decode cX11_noise 27 = .ok (.ifCond .ne 7, 3) := by decide +kernel
theorem dX11_noise_30 : decode cX11_noise 30 = .ok (.sipush (-1000), 3) := by decide +kernel
theorem dX11_noise_33 : decode cX11_noise 33 = .ok (.ireturn, 1) := by decide +kernel
theorem dX11_noise_34 : decode cX11_noise 34 = .ok (.aload_n 0, 1) := by decide +kernel
theorem dX11_noise_35 : decode cX11_noise 35 = .ok (.getfield 10, 3) := by decide +kernel
theorem dX11_noise_38 : decode cX11_noise 38 = .ok (.invokevirtual 105, 3) := by decide +kernel
theorem dX11_noise_41 : decode cX11_noise 41 = .ok (.istore 4, 2) := by decide +kernel
theorem dX11_noise_43 : decode cX11_noise 43 = .ok (.iload_n 1, 1) := by decide +kernel
theorem dX11_noise_44 : decode cX11_noise 44 = .ok (.istore 5, 2) := by decide +kernel
theorem dX11_noise_46 : decode cX11_noise 46 = .ok (.iconst 0, 1) := by decide +kernel
theorem dX11_noise_47 : decode cX11_noise 47 = .ok (.istore 6, 2) := by decide +kernel
theorem dX11_noise_49 : decode cX11_noise 49 = .ok (.iload 6, 2) := by decide +kernel
theorem dX11_noise_51 : decode cX11_noise 51 = .ok (.iload_n 2, 1) := by decide +kernel
theorem dX11_noise_52 : decode cX11_noise 52 = .ok (.if_icmp .ge 44, 3) := by decide +kernel
theorem dX11_noise_55 : decode cX11_noise 55 = .ok (.iload 5, 2) := by decide +kernel
theorem dX11_noise_57 : decode cX11_noise 57 = .ok (.ldc 124, 2) := by decide +kernel
theorem dX11_noise_59 : decode cX11_noise 59 = .ok (.imul, 1) := by decide +kernel
theorem dX11_noise_60 : decode cX11_noise 60 = .ok (.sipush 12345, 3) := by decide +kernel
theorem dX11_noise_63 : decode cX11_noise 63 = .ok (.iadd, 1) := by decide +kernel
theorem dX11_noise_64 : decode cX11_noise 64 = .ok (.istore 5, 2) := by decide +kernel
theorem dX11_noise_66 : decode cX11_noise 66 = .ok (.aload_n 0, 1) := by decide +kernel
theorem dX11_noise_67 : decode cX11_noise 67 = .ok (.getfield 10, 3) := by decide +kernel
theorem dX11_noise_70 : decode cX11_noise 70 = .ok (.iload 5, 2) := by decide +kernel
theorem dX11_noise_72 : decode cX11_noise 72 = .ok (.bipush 16, 2) := by decide +kernel
theorem dX11_noise_74 : decode cX11_noise 74 = .ok (.iushr, 1) := by decide +kernel
theorem dX11_noise_75 : decode cX11_noise 75 = .ok (.sipush 32767, 3) := by decide +kernel
theorem dX11_noise_78 : decode cX11_noise 78 = .ok (.iand, 1) := by decide +kernel
theorem dX11_noise_79 : decode cX11_noise 79 = .ok (.iconst 2, 1) := by decide +kernel
theorem dX11_noise_80 : decode cX11_noise 80 = .ok (.iload_n 3, 1) := by decide +kernel
theorem dX11_noise_81 : decode cX11_noise 81 = .ok (.imul, 1) := by decide +kernel
theorem dX11_noise_82 : decode cX11_noise 82 = .ok (.iconst 1, 1) := by decide +kernel
theorem dX11_noise_83 : decode cX11_noise 83 = .ok (.iadd, 1) := by decide +kernel
theorem dX11_noise_84 : decode cX11_noise 84 = .ok (.irem, 1) := by decide +kernel
theorem dX11_noise_85 : decode cX11_noise 85 = .ok (.iload_n 3, 1) := by decide +kernel
theorem dX11_noise_86 : decode cX11_noise 86 = .ok (.isub, 1) := by decide +kernel
theorem dX11_noise_87 : decode cX11_noise 87 = .ok (.invokevirtual 121, 3) := by decide +kernel
theorem dX11_noise_90 : decode cX11_noise 90 = .ok (.iinc 6 1, 3) := by decide +kernel
theorem dX11_noise_93 : decode cX11_noise 93 = .ok (.goto (-44), 3) := by decide +kernel
theorem dX11_noise_96 : decode cX11_noise 96 = .ok (.aload_n 0, 1) := by decide +kernel
theorem dX11_noise_97 : decode cX11_noise 97 = .ok (.iload 4, 2) := by decide +kernel
theorem dX11_noise_99 : decode cX11_noise 99 = .ok (.aload_n 0, 1) := by decide +kernel
theorem dX11_noise_100 : decode cX11_noise 100 = .ok (.getfield 10, 3) := by decide +kernel
theorem dX11_noise_103 : decode cX11_noise 103 = .ok (.invokevirtual 105, 3) := by decide +kernel
theorem dX11_noise_106 : decode cX11_noise 106 = .ok (.invokevirtual 111, 3) := by decide +kernel
theorem dX11_noise_109 : decode cX11_noise 109 = .ok (.ireturn, 1) := by decide +kernel
theorem dX11_poke_0 : decode cX11_poke 0 = .ok (.aload_n 0, 1) := by decide +kernel
theorem dX11_poke_1 : decode cX11_poke 1 = .ok (.getfield 10, 3) := by decide +kernel
theorem dX11_poke_4 : decode cX11_poke 4 = .ok (.iload_n 1, 1) := by decide +kernel
theorem dX11_poke_5 : decode cX11_poke 5 = .ok (.invokevirtual 125, 3) := by decide +kernel
theorem dX11_poke_8 : decode cX11_poke 8 = .ok (.ifCond .eq 15, 3) := by decide +kernel
theorem dX11_poke_11 : decode cX11_poke 11 = .ok (.iload_n 2, 1) := by decide +kernel
theorem dX11_poke_12 : decode cX11_poke 12 = .ok (.bipush (-128), 2) := by decide +kernel
theorem dX11_poke_14 : decode cX11_poke 14 = .ok (.if_icmp .lt 9, 3) := by decide +kernel
theorem dX11_poke_17 : decode cX11_poke 17 = .ok (.iload_n 2, 1) := by decide +kernel
theorem dX11_poke_18 : decode cX11_poke 18 = .ok (.bipush 127, 2) := by decide +kernel
theorem dX11_poke_20 : decode cX11_poke 20 = .ok (.if_icmp .le 7, 3) := by decide +kernel
theorem dX11_poke_23 : decode cX11_poke 23 = .ok (.sipush (-1000), 3) := by decide +kernel
theorem dX11_poke_26 : decode cX11_poke 26 = .ok (.ireturn, 1) := by decide +kernel
theorem dX11_poke_27 : decode cX11_poke 27 = .ok (.aload_n 0, 1) := by decide +kernel
theorem dX11_poke_28 : decode cX11_poke 28 = .ok (.getfield 10, 3) := by decide +kernel
theorem dX11_poke_31 : decode cX11_poke 31 = .ok (.iload_n 1, 1) := by decide +kernel
theorem dX11_poke_32 : decode cX11_poke 32 = .ok (.invokevirtual 128, 3) := by decide +kernel
theorem dX11_poke_35 : decode cX11_poke 35 = .ok (.istore_n 3, 1) := by decide +kernel
theorem dX11_poke_36 : decode cX11_poke 36 = .ok (.aload_n 0, 1) := by decide +kernel
theorem dX11_poke_37 : decode cX11_poke 37 = .ok (.getfield 10, 3) := by decide +kernel
theorem dX11_poke_40 : decode cX11_poke 40 = .ok (.iload_n 1, 1) := by decide +kernel
theorem dX11_poke_41 : decode cX11_poke 41 = .ok (.iload_n 2, 1) := by decide +kernel
theorem dX11_poke_42 : decode cX11_poke 42 = .ok (.invokevirtual 132, 3) := by decide +kernel
theorem dX11_poke_45 : decode cX11_poke 45 = .ok (.aload_n 0, 1) := by decide +kernel
theorem dX11_poke_46 : decode cX11_poke 46 = .ok (.iload_n 1, 1) := by decide +kernel
theorem dX11_poke_47 : decode cX11_poke 47 = .ok (.iload_n 1, 1) := by decide +kernel
theorem dX11_poke_48 : decode cX11_poke 48 = .ok (.iconst 1, 1) := by decide +kernel
theorem dX11_poke_49 : decode cX11_poke 49 = .ok (.iadd, 1) := by decide +kernel
theorem dX11_poke_50 : decode cX11_poke 50 = .ok (.invokevirtual 111, 3) := by decide +kernel
theorem dX11_poke_53 : decode cX11_poke 53 = .ok (.pop, 1) := by decide +kernel
theorem dX11_poke_54 : decode cX11_poke 54 = .ok (.iload_n 3, 1) := by decide +kernel
theorem dX11_poke_55 : decode cX11_poke 55 = .ok (.ireturn, 1) := by decide +kernel
theorem dX11_cut_0 : decode cX11_cut 0 = .ok (.iload_n 1, 1) := by decide +kernel
theorem dX11_cut_1 : decode cX11_cut 1 = .ok (.ifCond .lt 14, 3) := by decide +kernel
theorem dX11_cut_4 : decode cX11_cut 4 = .ok (.iload_n 1, 1) := by decide +kernel
theorem dX11_cut_5 : decode cX11_cut 5 = .ok (.aload_n 0, 1) := by decide +kernel
theorem dX11_cut_6 : decode cX11_cut 6 = .ok (.getfield 10, 3) := by decide +kernel
theorem dX11_cut_9 : decode cX11_cut 9 = .ok (.invokevirtual 105, 3) := by decide +kernel
theorem dX11_cut_12 : decode cX11_cut 12 = .ok (.if_icmp .le 7, 3) := by decide +kernel
theorem dX11_cut_15 : decode cX11_cut 15 = .ok (.sipush (-1000), 3) := by decide +kernel
theorem dX11_cut_18 : decode cX11_cut 18 = .ok (.ireturn, 1) := by decide +kernel
theorem dX11_cut_19 : decode cX11_cut 19 = .ok (.aload_n 0, 1) := by decide +kernel
theorem dX11_cut_20 : decode cX11_cut 20 = .ok (.getfield 10, 3) := by decide +kernel
theorem dX11_cut_23 : decode cX11_cut 23 = .ok (.invokevirtual 105, 3) := by decide +kernel
theorem dX11_cut_26 : decode cX11_cut 26 = .ok (.istore_n 2, 1) := by decide +kernel
theorem dX11_cut_27 : decode cX11_cut 27 = .ok (.aload_n 0, 1) := by decide +kernel
theorem dX11_cut_28 : decode cX11_cut 28 = .ok (.getfield 10, 3) := by decide +kernel
theorem dX11_cut_31 : decode cX11_cut 31 = .ok (.iload_n 1, 1) := by decide +kernel
theorem dX11_cut_32 : decode cX11_cut 32 = .ok (.invokevirtual 136, 3) := by decide +kernel
theorem dX11_cut_35 : decode cX11_cut 35 = .ok (.aload_n 0, 1) := by decide +kernel
theorem dX11_cut_36 : decode cX11_cut 36 = .ok (.aload_n 0, 1) := by decide +kernel
theorem dX11_cut_37 : decode cX11_cut 37 = .ok (.getfield 10, 3) := by decide +kernel
theorem dX11_cut_40 : decode cX11_cut 40 = .ok (.invokevirtual 105, 3) := by decide +kernel
theorem dX11_cut_43 : decode cX11_cut 43 = .ok (.iload_n 2, 1) := by decide +kernel
theorem dX11_cut_44 : decode cX11_cut 44 = .ok (.invokevirtual 111, 3) := by decide +kernel
theorem dX11_cut_47 : decode cX11_cut 47 = .ok (.ireturn, 1) := by decide +kernel
theorem dX11_sample_0 : decode cX11_sample 0 = .ok (.aload_n 0, 1) := by decide +kernel
theorem dX11_sample_1 : decode cX11_sample 1 = .ok (.getfield 10, 3) := by decide +kernel
theorem dX11_sample_4 : decode cX11_sample 4 = .ok (.iload_n 1, 1) := by decide +kernel
theorem dX11_sample_5 : decode cX11_sample 5 = .ok (.invokevirtual 125, 3) := by decide +kernel
theorem dX11_sample_8 : decode cX11_sample 8 = .ok (.invokestatic 139, 3) := by decide +kernel
theorem dX11_sample_11 : decode cX11_sample 11 = .ok (.aload_n 0, 1) := by decide +kernel
theorem dX11_sample_12 : decode cX11_sample 12 = .ok (.getfield 10, 3) := by decide +kernel
theorem dX11_sample_15 : decode cX11_sample 15 = .ok (.iload_n 1, 1) := by decide +kernel
theorem dX11_sample_16 : decode cX11_sample 16 = .ok (.invokevirtual 128, 3) := by decide +kernel
theorem dX11_sample_19 : decode cX11_sample 19 = .ok (.ireturn, 1) := by decide +kernel
theorem dX11_bound_0 : decode cX11_bound 0 = .ok (.aload_n 0, 1) := by decide +kernel
theorem dX11_bound_1 : decode cX11_bound 1 = .ok (.getfield 19, 3) := by decide +kernel
theorem dX11_bound_4 : decode cX11_bound 4 = .ok (.iload_n 1, 1) := by decide +kernel
theorem dX11_bound_5 : decode cX11_bound 5 = .ok (.iload_n 2, 1) := by decide +kernel
theorem dX11_bound_6 : decode cX11_bound 6 = .ok (.invokevirtual 143, 3) := by decide +kernel
theorem dX11_bound_9 : decode cX11_bound 9 = .ok (.ifCond .ne 7, 3) := by decide +kernel
theorem dX11_bound_12 : decode cX11_bound 12 = .ok (.sipush (-1000), 3) := by decide +kernel
theorem dX11_bound_15 : decode cX11_bound 15 = .ok (.ireturn, 1) := by decide +kernel
theorem dX11_bound_16 : decode cX11_bound 16 = .ok (.aload_n 0, 1) := by decide +kernel
theorem dX11_bound_17 : decode cX11_bound 17 = .ok (.getfield 19, 3) := by decide +kernel
theorem dX11_bound_20 : decode cX11_bound 20 = .ok (.iload_n 1, 1) := by decide +kernel
theorem dX11_bound_21 : decode cX11_bound 21 = .ok (.invokevirtual 147, 3) := by decide +kernel
theorem dX11_bound_24 : decode cX11_bound 24 = .ok (.istore_n 3, 1) := by decide +kernel
theorem dX11_bound_25 : decode cX11_bound 25 = .ok (.aload_n 0, 1) := by decide +kernel
theorem dX11_bound_26 : decode cX11_bound 26 = .ok (.getfield 19, 3) := by decide +kernel
theorem dX11_bound_29 : decode cX11_bound 29 = .ok (.iload_n 1, 1) := by decide +kernel
theorem dX11_bound_30 : decode cX11_bound 30 = .ok (.iload_n 2, 1) := by decide +kernel
theorem dX11_bound_31 : decode cX11_bound 31 = .ok (.invokevirtual 150, 3) := by decide +kernel
theorem dX11_bound_34 : decode cX11_bound 34 = .ok (.iload_n 1, 1) := by decide +kernel
theorem dX11_bound_35 : decode cX11_bound 35 = .ok (.iconst 2, 1) := by decide +kernel
theorem dX11_bound_36 : decode cX11_bound 36 = .ok (.if_icmp .eq 13, 3) := by decide +kernel
theorem dX11_bound_39 : decode cX11_bound 39 = .ok (.iload_n 1, 1) := by decide +kernel
theorem dX11_bound_40 : decode cX11_bound 40 = .ok (.iconst 3, 1) := by decide +kernel
theorem dX11_bound_41 : decode cX11_bound 41 = .ok (.if_icmp .eq 8, 3) := by decide +kernel
theorem dX11_bound_44 : decode cX11_bound 44 = .ok (.iload_n 1, 1) := by decide +kernel
theorem dX11_bound_45 : decode cX11_bound 45 = .ok (.iconst 5, 1) := by decide +kernel
theorem dX11_bound_46 : decode cX11_bound 46 = .ok (.if_icmp .ne 10, 3) := by decide +kernel
theorem dX11_bound_49 : decode cX11_bound 49 = .ok (.aload_n 0, 1) := by decide +kernel
theorem dX11_bound_50 : decode cX11_bound 50 = .ok (.getfield 28, 3) := by decide +kernel
theorem dX11_bound_53 : decode cX11_bound 53 = .ok (.invokevirtual 151, 3) := by decide +kernel
theorem dX11_bound_56 : decode cX11_bound 56 = .ok (.aload_n 0, 1) := by decide +kernel
theorem dX11_bound_57 : decode cX11_bound 57 = .ok (.invokevirtual 154, 3) := by decide +kernel
theorem dX11_bound_60 : decode cX11_bound 60 = .ok (.iload_n 3, 1) := by decide +kernel
theorem dX11_bound_61 : decode cX11_bound 61 = .ok (.ireturn, 1) := by decide +kernel
theorem dX11_count_0 : decode cX11_count 0 = .ok (.iload_n 1, 1) := by decide +kernel
theorem dX11_count_1 : decode cX11_count 1 = .ok (.ifCond .lt 13, 3) := by decide +kernel
theorem dX11_count_4 : decode cX11_count 4 = .ok (.iload_n 1, 1) := by decide +kernel
theorem dX11_count_5 : decode cX11_count 5 = .ok (.bipush 17, 2) := by decide +kernel
theorem dX11_count_7 : decode cX11_count 7 = .ok (.if_icmp .gt 7, 3) := by decide +kernel
theorem dX11_count_10 : decode cX11_count 10 = .ok (.iconst 1, 1) := by decide +kernel
theorem dX11_count_11 : decode cX11_count 11 = .ok (.goto 4, 3) := by decide +kernel
theorem dX11_count_14 : decode cX11_count 14 = .ok (.iconst 0, 1) := by decide +kernel
theorem dX11_count_15 : decode cX11_count 15 = .ok (.invokestatic 139, 3) := by decide +kernel
theorem dX11_count_18 : decode cX11_count 18 = .ok (.iload_n 1, 1) := by decide +kernel
theorem dX11_count_19 : decode cX11_count 19 = .ok (.lookupswitch 73 #[(0, 41), (1, 49), (16, 57), (17, 65)], 41) := by decide +kernel
theorem dX11_count_60 : decode cX11_count 60 = .ok (.aload_n 0, 1) := by decide +kernel
theorem dX11_count_61 : decode cX11_count 61 = .ok (.getfield 10, 3) := by decide +kernel
theorem dX11_count_64 : decode cX11_count 64 = .ok (.invokevirtual 105, 3) := by decide +kernel
theorem dX11_count_67 : decode cX11_count 67 = .ok (.ireturn, 1) := by decide +kernel
theorem dX11_count_68 : decode cX11_count 68 = .ok (.aload_n 0, 1) := by decide +kernel
theorem dX11_count_69 : decode cX11_count 69 = .ok (.getfield 28, 3) := by decide +kernel
theorem dX11_count_72 : decode cX11_count 72 = .ok (.invokevirtual 157, 3) := by decide +kernel
theorem dX11_count_75 : decode cX11_count 75 = .ok (.ireturn, 1) := by decide +kernel
theorem dX11_count_76 : decode cX11_count 76 = .ok (.aload_n 0, 1) := by decide +kernel
theorem dX11_count_77 : decode cX11_count 77 = .ok (.getfield 10, 3) := by decide +kernel
theorem dX11_count_80 : decode cX11_count 80 = .ok (.invokevirtual 93, 3) := by decide +kernel
theorem dX11_count_83 : decode cX11_count 83 = .ok (.ireturn, 1) := by decide +kernel
theorem dX11_count_84 : decode cX11_count 84 = .ok (.aload_n 0, 1) := by decide +kernel
theorem dX11_count_85 : decode cX11_count 85 = .ok (.getfield 89, 3) := by decide +kernel
theorem dX11_count_88 : decode cX11_count 88 = .ok (.invokevirtual 158, 3) := by decide +kernel
theorem dX11_count_91 : decode cX11_count 91 = .ok (.ireturn, 1) := by decide +kernel
theorem dX11_count_92 : decode cX11_count 92 = .ok (.aload_n 0, 1) := by decide +kernel
theorem dX11_count_93 : decode cX11_count 93 = .ok (.getfield 19, 3) := by decide +kernel
theorem dX11_count_96 : decode cX11_count 96 = .ok (.iload_n 1, 1) := by decide +kernel
theorem dX11_count_97 : decode cX11_count 97 = .ok (.invokevirtual 147, 3) := by decide +kernel
theorem dX11_count_100 : decode cX11_count 100 = .ok (.ireturn, 1) := by decide +kernel
theorem dX11_diff_0 : decode cX11_diff 0 = .ok (.aload_n 0, 1) := by decide +kernel
theorem dX11_diff_1 : decode cX11_diff 1 = .ok (.getfield 28, 3) := by decide +kernel
theorem dX11_diff_4 : decode cX11_diff 4 = .ok (.iload_n 1, 1) := by decide +kernel
theorem dX11_diff_5 : decode cX11_diff 5 = .ok (.invokevirtual 159, 3) := by decide +kernel
theorem dX11_diff_8 : decode cX11_diff 8 = .ok (.ifCond .eq 15, 3) := by decide +kernel
theorem dX11_diff_11 : decode cX11_diff 11 = .ok (.aload_n 0, 1) := by decide +kernel
theorem dX11_diff_12 : decode cX11_diff 12 = .ok (.iload_n 2, 1) := by decide +kernel
theorem dX11_diff_13 : decode cX11_diff 13 = .ok (.invokevirtual 160, 3) := by decide +kernel
theorem dX11_diff_16 : decode cX11_diff 16 = .ok (.ifCond .eq 7, 3) := by decide +kernel
theorem dX11_diff_19 : decode cX11_diff 19 = .ok (.iconst 1, 1) := by decide +kernel
theorem dX11_diff_20 : decode cX11_diff 20 = .ok (.goto 4, 3) := by decide +kernel
theorem dX11_diff_23 : decode cX11_diff 23 = .ok (.iconst 0, 1) := by decide +kernel
theorem dX11_diff_24 : decode cX11_diff 24 = .ok (.invokestatic 139, 3) := by decide +kernel
theorem dX11_diff_27 : decode cX11_diff 27 = .ok (.aload_n 0, 1) := by decide +kernel
theorem dX11_diff_28 : decode cX11_diff 28 = .ok (.getfield 28, 3) := by decide +kernel
theorem dX11_diff_31 : decode cX11_diff 31 = .ok (.iload_n 1, 1) := by decide +kernel
theorem dX11_diff_32 : decode cX11_diff 32 = .ok (.invokevirtual 163, 3) := by decide +kernel
theorem dX11_diff_35 : decode cX11_diff 35 = .ok (.aload_n 0, 1) := by decide +kernel
theorem dX11_diff_36 : decode cX11_diff 36 = .ok (.getfield 28, 3) := by decide +kernel
theorem dX11_diff_39 : decode cX11_diff 39 = .ok (.iload_n 1, 1) := by decide +kernel
theorem dX11_diff_40 : decode cX11_diff 40 = .ok (.iload_n 2, 1) := by decide +kernel
theorem dX11_diff_41 : decode cX11_diff 41 = .ok (.invokevirtual 166, 3) := by decide +kernel
theorem dX11_diff_44 : decode cX11_diff 44 = .ok (.ireturn, 1) := by decide +kernel
theorem dX11_rel_0 : decode cX11_rel 0 = .ok (.aload_n 0, 1) := by decide +kernel
theorem dX11_rel_1 : decode cX11_rel 1 = .ok (.getfield 28, 3) := by decide +kernel
theorem dX11_rel_4 : decode cX11_rel 4 = .ok (.iload_n 1, 1) := by decide +kernel
theorem dX11_rel_5 : decode cX11_rel 5 = .ok (.invokevirtual 159, 3) := by decide +kernel
theorem dX11_rel_8 : decode cX11_rel 8 = .ok (.ifCond .eq 15, 3) := by decide +kernel
theorem dX11_rel_11 : decode cX11_rel 11 = .ok (.aload_n 0, 1) := by decide +kernel
theorem dX11_rel_12 : decode cX11_rel 12 = .ok (.iload_n 2, 1) := by decide +kernel
theorem dX11_rel_13 : decode cX11_rel 13 = .ok (.invokevirtual 160, 3) := by decide +kernel
theorem dX11_rel_16 : decode cX11_rel 16 = .ok (.ifCond .eq 7, 3) := by decide +kernel
theorem dX11_rel_19 : decode cX11_rel 19 = .ok (.iconst 1, 1) := by decide +kernel
theorem dX11_rel_20 : decode cX11_rel 20 = .ok (.goto 4, 3) := by decide +kernel
theorem dX11_rel_23 : decode cX11_rel 23 = .ok (.iconst 0, 1) := by decide +kernel
theorem dX11_rel_24 : decode cX11_rel 24 = .ok (.invokestatic 139, 3) := by decide +kernel
theorem dX11_rel_27 : decode cX11_rel 27 = .ok (.aload_n 0, 1) := by decide +kernel
theorem dX11_rel_28 : decode cX11_rel 28 = .ok (.getfield 28, 3) := by decide +kernel
theorem dX11_rel_31 : decode cX11_rel 31 = .ok (.iload_n 1, 1) := by decide +kernel
theorem dX11_rel_32 : decode cX11_rel 32 = .ok (.invokevirtual 163, 3) := by decide +kernel
theorem dX11_rel_35 : decode cX11_rel 35 = .ok (.aload_n 0, 1) := by decide +kernel
theorem dX11_rel_36 : decode cX11_rel 36 = .ok (.getfield 28, 3) := by decide +kernel
theorem dX11_rel_39 : decode cX11_rel 39 = .ok (.iload_n 1, 1) := by decide +kernel
theorem dX11_rel_40 : decode cX11_rel 40 = .ok (.iload_n 2, 1) := by decide +kernel
theorem dX11_rel_41 : decode cX11_rel 41 = .ok (.invokevirtual 169, 3) := by decide +kernel
theorem dX11_rel_44 : decode cX11_rel 44 = .ok (.ireturn, 1) := by decide +kernel
theorem dX11_loud_0 : decode cX11_loud 0 = .ok (.aload_n 0, 1) := by decide +kernel
theorem dX11_loud_1 : decode cX11_loud 1 = .ok (.getfield 28, 3) := by decide +kernel
theorem dX11_loud_4 : decode cX11_loud 4 = .ok (.iload_n 1, 1) := by decide +kernel
theorem dX11_loud_5 : decode cX11_loud 5 = .ok (.invokevirtual 159, 3) := by decide +kernel
theorem dX11_loud_8 : decode cX11_loud 8 = .ok (.invokestatic 139, 3) := by decide +kernel
theorem dX11_loud_11 : decode cX11_loud 11 = .ok (.aload_n 0, 1) := by decide +kernel
theorem dX11_loud_12 : decode cX11_loud 12 = .ok (.getfield 28, 3) := by decide +kernel
theorem dX11_loud_15 : decode cX11_loud 15 = .ok (.iload_n 1, 1) := by decide +kernel
theorem dX11_loud_16 : decode cX11_loud 16 = .ok (.invokevirtual 163, 3) := by decide +kernel
theorem dX11_loud_19 : decode cX11_loud 19 = .ok (.aload_n 0, 1) := by decide +kernel
theorem dX11_loud_20 : decode cX11_loud 20 = .ok (.getfield 28, 3) := by decide +kernel
theorem dX11_loud_23 : decode cX11_loud 23 = .ok (.iload_n 1, 1) := by decide +kernel
theorem dX11_loud_24 : decode cX11_loud 24 = .ok (.invokevirtual 172, 3) := by decide +kernel
theorem dX11_loud_27 : decode cX11_loud 27 = .ok (.ireturn, 1) := by decide +kernel
theorem dX11_candidates_0 : decode cX11_candidates 0 = .ok (.aload_n 0, 1) := by decide +kernel
theorem dX11_candidates_1 : decode cX11_candidates 1 = .ok (.getfield 28, 3) := by decide +kernel
theorem dX11_candidates_4 : decode cX11_candidates 4 = .ok (.iload_n 1, 1) := by decide +kernel
theorem dX11_candidates_5 : decode cX11_candidates 5 = .ok (.invokevirtual 159, 3) := by decide +kernel
theorem dX11_candidates_8 : decode cX11_candidates 8 = .ok (.invokestatic 139, 3) := by decide +kernel
theorem dX11_candidates_11 : decode cX11_candidates 11 = .ok (.aload_n 0, 1) := by decide +kernel
theorem dX11_candidates_12 : decode cX11_candidates 12 = .ok (.invokevirtual 175, 3) := by decide +kernel
theorem dX11_candidates_15 : decode cX11_candidates 15 = .ok (.aload_n 0, 1) := by decide +kernel
theorem dX11_candidates_16 : decode cX11_candidates 16 = .ok (.getfield 37, 3) := by decide +kernel
theorem dX11_candidates_19 : decode cX11_candidates 19 = .ok (.iload_n 1, 1) := by decide +kernel
theorem dX11_candidates_20 : decode cX11_candidates 20 = .ok (.invokevirtual 178, 3) := by decide +kernel
theorem dX11_candidates_23 : decode cX11_candidates 23 = .ok (.ireturn, 1) := by decide +kernel
theorem dX11_candidate_0 : decode cX11_candidate 0 = .ok (.aload_n 0, 1) := by decide +kernel
theorem dX11_candidate_1 : decode cX11_candidate 1 = .ok (.invokevirtual 175, 3) := by decide +kernel
theorem dX11_candidate_4 : decode cX11_candidate 4 = .ok (.aload_n 0, 1) := by decide +kernel
theorem dX11_candidate_5 : decode cX11_candidate 5 = .ok (.getfield 37, 3) := by decide +kernel
theorem dX11_candidate_8 : decode cX11_candidate 8 = .ok (.iload_n 1, 1) := by decide +kernel
theorem dX11_candidate_9 : decode cX11_candidate 9 = .ok (.iload_n 2, 1) := by decide +kernel
theorem dX11_candidate_10 : decode cX11_candidate 10 = .ok (.invokevirtual 181, 3) := by decide +kernel
theorem dX11_candidate_13 : decode cX11_candidate 13 = .ok (.invokestatic 139, 3) := by decide +kernel
theorem dX11_candidate_16 : decode cX11_candidate 16 = .ok (.iload_n 3, 1) := by decide +kernel
theorem dX11_candidate_17 : decode cX11_candidate 17 = .ok (.ifCond .lt 12, 3) := by decide +kernel
theorem dX11_candidate_20 : decode cX11_candidate 20 = .ok (.iload_n 3, 1) := by decide +kernel
theorem dX11_candidate_21 : decode cX11_candidate 21 = .ok (.iconst 3, 1) := by decide +kernel
theorem dX11_candidate_22 : decode cX11_candidate 22 = .ok (.if_icmp .gt 7, 3) := by decide +kernel
theorem dX11_candidate_25 : decode cX11_candidate 25 = .ok (.iconst 1, 1) := by decide +kernel
theorem dX11_candidate_26 : decode cX11_candidate 26 = .ok (.goto 4, 3) := by decide +kernel
theorem dX11_candidate_29 : decode cX11_candidate 29 = .ok (.iconst 0, 1) := by decide +kernel
theorem dX11_candidate_30 : decode cX11_candidate 30 = .ok (.invokestatic 139, 3) := by decide +kernel
theorem dX11_candidate_33 : decode cX11_candidate 33 = .ok (.iload_n 3, 1) := by decide +kernel
theorem dX11_candidate_34 : decode cX11_candidate 34 = .ok (.tableswitch 56 0 2 #[26, 36, 46], 26) := by decide +kernel
theorem dX11_candidate_60 : decode cX11_candidate 60 = .ok (.aload_n 0, 1) := by decide +kernel
theorem dX11_candidate_61 : decode cX11_candidate 61 = .ok (.getfield 37, 3) := by decide +kernel
theorem dX11_candidate_64 : decode cX11_candidate 64 = .ok (.iload_n 1, 1) := by decide +kernel
theorem dX11_candidate_65 : decode cX11_candidate 65 = .ok (.iload_n 2, 1) := by decide +kernel
theorem dX11_candidate_66 : decode cX11_candidate 66 = .ok (.invokevirtual 183, 3) := by decide +kernel
theorem dX11_candidate_69 : decode cX11_candidate 69 = .ok (.ireturn, 1) := by decide +kernel
theorem dX11_candidate_70 : decode cX11_candidate 70 = .ok (.aload_n 0, 1) := by decide +kernel
theorem dX11_candidate_71 : decode cX11_candidate 71 = .ok (.getfield 37, 3) := by decide +kernel
theorem dX11_candidate_74 : decode cX11_candidate 74 = .ok (.iload_n 1, 1) := by decide +kernel
theorem dX11_candidate_75 : decode cX11_candidate 75 = .ok (.iload_n 2, 1) := by decide +kernel
theorem dX11_candidate_76 : decode cX11_candidate 76 = .ok (.invokevirtual 186, 3) := by decide +kernel
theorem dX11_candidate_79 : decode cX11_candidate 79 = .ok (.ireturn, 1) := by decide +kernel
theorem dX11_candidate_80 : decode cX11_candidate 80 = .ok (.aload_n 0, 1) := by decide +kernel
theorem dX11_candidate_81 : decode cX11_candidate 81 = .ok (.getfield 37, 3) := by decide +kernel
theorem dX11_candidate_84 : decode cX11_candidate 84 = .ok (.iload_n 1, 1) := by decide +kernel
theorem dX11_candidate_85 : decode cX11_candidate 85 = .ok (.iload_n 2, 1) := by decide +kernel
theorem dX11_candidate_86 : decode cX11_candidate 86 = .ok (.invokevirtual 189, 3) := by decide +kernel
theorem dX11_candidate_89 : decode cX11_candidate 89 = .ok (.ireturn, 1) := by decide +kernel
theorem dX11_candidate_90 : decode cX11_candidate 90 = .ok (.aload_n 0, 1) := by decide +kernel
theorem dX11_candidate_91 : decode cX11_candidate 91 = .ok (.getfield 37, 3) := by decide +kernel
theorem dX11_candidate_94 : decode cX11_candidate 94 = .ok (.iload_n 1, 1) := by decide +kernel
theorem dX11_candidate_95 : decode cX11_candidate 95 = .ok (.iload_n 2, 1) := by decide +kernel
theorem dX11_candidate_96 : decode cX11_candidate 96 = .ok (.invokevirtual 192, 3) := by decide +kernel
theorem dX11_candidate_99 : decode cX11_candidate 99 = .ok (.ireturn, 1) := by decide +kernel
theorem dX11_fine_0 : decode cX11_fine 0 = .ok (.aload_n 0, 1) := by decide +kernel
theorem dX11_fine_1 : decode cX11_fine 1 = .ok (.invokevirtual 175, 3) := by decide +kernel
theorem dX11_fine_4 : decode cX11_fine 4 = .ok (.aload_n 0, 1) := by decide +kernel
theorem dX11_fine_5 : decode cX11_fine 5 = .ok (.getfield 37, 3) := by decide +kernel
theorem dX11_fine_8 : decode cX11_fine 8 = .ok (.iload_n 1, 1) := by decide +kernel
theorem dX11_fine_9 : decode cX11_fine 9 = .ok (.iload_n 2, 1) := by decide +kernel
theorem dX11_fine_10 : decode cX11_fine 10 = .ok (.invokevirtual 181, 3) := by decide +kernel
theorem dX11_fine_13 : decode cX11_fine 13 = .ok (.invokestatic 139, 3) := by decide +kernel
theorem dX11_fine_16 : decode cX11_fine 16 = .ok (.aload_n 0, 1) := by decide +kernel
theorem dX11_fine_17 : decode cX11_fine 17 = .ok (.getfield 37, 3) := by decide +kernel
theorem dX11_fine_20 : decode cX11_fine 20 = .ok (.iload_n 1, 1) := by decide +kernel
theorem dX11_fine_21 : decode cX11_fine 21 = .ok (.iload_n 2, 1) := by decide +kernel
theorem dX11_fine_22 : decode cX11_fine 22 = .ok (.invokevirtual 183, 3) := by decide +kernel
theorem dX11_fine_25 : decode cX11_fine 25 = .ok (.istore 4, 2) := by decide +kernel
theorem dX11_fine_27 : decode cX11_fine 27 = .ok (.iload 4, 2) := by decide +kernel
theorem dX11_fine_29 : decode cX11_fine 29 = .ok (.ifCond .eq 7, 3) := by decide +kernel
theorem dX11_fine_32 : decode cX11_fine 32 = .ok (.iconst 1, 1) := by decide +kernel
theorem dX11_fine_33 : decode cX11_fine 33 = .ok (.goto 4, 3) := by decide +kernel
theorem dX11_fine_36 : decode cX11_fine 36 = .ok (.iconst 0, 1) := by decide +kernel
theorem dX11_fine_37 : decode cX11_fine 37 = .ok (.invokestatic 139, 3) := by decide +kernel
theorem dX11_fine_40 : decode cX11_fine 40 = .ok (.aload_n 0, 1) := by decide +kernel
theorem dX11_fine_41 : decode cX11_fine 41 = .ok (.getfield 28, 3) := by decide +kernel
theorem dX11_fine_44 : decode cX11_fine 44 = .ok (.iload_n 1, 1) := by decide +kernel
theorem dX11_fine_45 : decode cX11_fine 45 = .ok (.iload 4, 2) := by decide +kernel
theorem dX11_fine_47 : decode cX11_fine 47 = .ok (.iconst 1, 1) := by decide +kernel
theorem dX11_fine_48 : decode cX11_fine 48 = .ok (.isub, 1) := by decide +kernel
theorem dX11_fine_49 : decode cX11_fine 49 = .ok (.invokevirtual 166, 3) := by decide +kernel
theorem dX11_fine_52 : decode cX11_fine 52 = .ok (.istore 5, 2) := by decide +kernel
theorem dX11_fine_54 : decode cX11_fine 54 = .ok (.aload_n 0, 1) := by decide +kernel
theorem dX11_fine_55 : decode cX11_fine 55 = .ok (.getfield 28, 3) := by decide +kernel
theorem dX11_fine_58 : decode cX11_fine 58 = .ok (.iload_n 1, 1) := by decide +kernel
theorem dX11_fine_59 : decode cX11_fine 59 = .ok (.iload 4, 2) := by decide +kernel
theorem dX11_fine_61 : decode cX11_fine 61 = .ok (.invokevirtual 166, 3) := by decide +kernel
theorem dX11_fine_64 : decode cX11_fine 64 = .ok (.istore 6, 2) := by decide +kernel
theorem dX11_fine_66 : decode cX11_fine 66 = .ok (.aload_n 0, 1) := by decide +kernel
theorem dX11_fine_67 : decode cX11_fine 67 = .ok (.getfield 28, 3) := by decide +kernel
theorem dX11_fine_70 : decode cX11_fine 70 = .ok (.iload_n 1, 1) := by decide +kernel
theorem dX11_fine_71 : decode cX11_fine 71 = .ok (.iload 4, 2) := by decide +kernel
theorem dX11_fine_73 : decode cX11_fine 73 = .ok (.iconst 1, 1) := by decide +kernel
theorem dX11_fine_74 : decode cX11_fine 74 = .ok (.iadd, 1) := by decide +kernel
theorem dX11_fine_75 : decode cX11_fine 75 = .ok (.invokevirtual 166, 3) := by decide +kernel
theorem dX11_fine_78 : decode cX11_fine 78 = .ok (.istore 7, 2) := by decide +kernel
theorem dX11_fine_80 : decode cX11_fine 80 = .ok (.iconst 2, 1) := by decide +kernel
theorem dX11_fine_81 : decode cX11_fine 81 = .ok (.iload 5, 2) := by decide +kernel
theorem dX11_fine_83 : decode cX11_fine 83 = .ok (.iconst 2, 1) := by decide +kernel
theorem dX11_fine_84 : decode cX11_fine 84 = .ok (.iload 6, 2) := by decide +kernel
theorem dX11_fine_86 : decode cX11_fine 86 = .ok (.imul, 1) := by decide +kernel
theorem dX11_fine_87 : decode cX11_fine 87 = .ok (.isub, 1) := by decide +kernel
theorem dX11_fine_88 : decode cX11_fine 88 = .ok (.iload 7, 2) := by decide +kernel
theorem dX11_fine_90 : decode cX11_fine 90 = .ok (.iadd, 1) := by decide +kernel
theorem dX11_fine_91 : decode cX11_fine 91 = .ok (.imul, 1) := by decide +kernel
theorem dX11_fine_92 : decode cX11_fine 92 = .ok (.istore 8, 2) := by decide +kernel
theorem dX11_fine_94 : decode cX11_fine 94 = .ok (.iload 8, 2) := by decide +kernel
theorem dX11_fine_96 : decode cX11_fine 96 = .ok (.ifCond .ne 14, 3) := by decide +kernel
theorem dX11_fine_99 : decode cX11_fine 99 = .ok (.iload_n 3, 1) := by decide +kernel
theorem dX11_fine_100 : decode cX11_fine 100 = .ok (.ifCond .eq 7, 3) := by decide +kernel
theorem dX11_fine_103 : decode cX11_fine 103 = .ok (.iconst 1, 1) := by decide +kernel
theorem dX11_fine_104 : decode cX11_fine 104 = .ok (.goto 5, 3) := by decide +kernel
theorem dX11_fine_107 : decode cX11_fine 107 = .ok (.iload 4, 2) := by decide +kernel
theorem dX11_fine_109 : decode cX11_fine 109 = .ok (.ireturn, 1) := by decide +kernel
theorem dX11_fine_110 : decode cX11_fine 110 = .ok (.iload 4, 2) := by decide +kernel
theorem dX11_fine_112 : decode cX11_fine 112 = .ok (.iload 8, 2) := by decide +kernel
theorem dX11_fine_114 : decode cX11_fine 114 = .ok (.imul, 1) := by decide +kernel
theorem dX11_fine_115 : decode cX11_fine 115 = .ok (.iload 5, 2) := by decide +kernel
theorem dX11_fine_117 : decode cX11_fine 117 = .ok (.iadd, 1) := by decide +kernel
theorem dX11_fine_118 : decode cX11_fine 118 = .ok (.iload 7, 2) := by decide +kernel
theorem dX11_fine_120 : decode cX11_fine 120 = .ok (.isub, 1) := by decide +kernel
theorem dX11_fine_121 : decode cX11_fine 121 = .ok (.istore 9, 2) := by decide +kernel
theorem dX11_fine_123 : decode cX11_fine 123 = .ok (.iload 8, 2) := by decide +kernel
theorem dX11_fine_125 : decode cX11_fine 125 = .ok (.ifCond .ge 16, 3) := by decide +kernel
theorem dX11_fine_128 : decode cX11_fine 128 = .ok (.iload 9, 2) := by decide +kernel
theorem dX11_fine_130 : decode cX11_fine 130 = .ok (.ineg, 1) := by decide +kernel
theorem dX11_fine_131 : decode cX11_fine 131 = .ok (.iload 8, 2) := by decide +kernel
theorem dX11_fine_133 : decode cX11_fine 133 = .ok (.ineg, 1) := by decide +kernel
theorem dX11_fine_134 : decode cX11_fine 134 = .ok (.iload_n 3, 1) := by decide +kernel
theorem dX11_fine_135 : decode cX11_fine 135 = .ok (.invokestatic 195, 3) := by decide +kernel
theorem dX11_fine_138 : decode cX11_fine 138 = .ok (.goto 11, 3) := by decide +kernel
theorem dX11_fine_141 : decode cX11_fine 141 = .ok (.iload 9, 2) := by decide +kernel
theorem dX11_fine_143 : decode cX11_fine 143 = .ok (.iload 8, 2) := by decide +kernel
theorem dX11_fine_145 : decode cX11_fine 145 = .ok (.iload_n 3, 1) := by decide +kernel
theorem dX11_fine_146 : decode cX11_fine 146 = .ok (.invokestatic 195, 3) := by decide +kernel
theorem dX11_fine_149 : decode cX11_fine 149 = .ok (.ireturn, 1) := by decide +kernel
theorem dX11_cost_0 : decode cX11_cost 0 = .ok (.iload_n 1, 1) := by decide +kernel
theorem dX11_cost_1 : decode cX11_cost 1 = .ok (.ifCond .lt 12, 3) := by decide +kernel
theorem dX11_cost_4 : decode cX11_cost 4 = .ok (.iload_n 1, 1) := by decide +kernel
theorem dX11_cost_5 : decode cX11_cost 5 = .ok (.iconst 4, 1) := by decide +kernel
theorem dX11_cost_6 : decode cX11_cost 6 = .ok (.if_icmp .gt 7, 3) := by decide +kernel
theorem dX11_cost_9 : decode cX11_cost 9 = .ok (.iconst 1, 1) := by decide +kernel
theorem dX11_cost_10 : decode cX11_cost 10 = .ok (.goto 4, 3) := by decide +kernel
theorem dX11_cost_13 : decode cX11_cost 13 = .ok (.iconst 0, 1) := by decide +kernel
theorem dX11_cost_14 : decode cX11_cost 14 = .ok (.invokestatic 139, 3) := by decide +kernel
theorem dX11_cost_17 : decode cX11_cost 17 = .ok (.aload_n 0, 1) := by decide +kernel
theorem dX11_cost_18 : decode cX11_cost 18 = .ok (.invokevirtual 175, 3) := by decide +kernel
theorem dX11_cost_21 : decode cX11_cost 21 = .ok (.aload_n 0, 1) := by decide +kernel
theorem dX11_cost_22 : decode cX11_cost 22 = .ok (.getfield 46, 3) := by decide +kernel
theorem dX11_cost_25 : decode cX11_cost 25 = .ok (.iload_n 1, 1) := by decide +kernel
theorem dX11_cost_26 : decode cX11_cost 26 = .ok (.invokevirtual 199, 3) := by decide +kernel
theorem dX11_cost_29 : decode cX11_cost 29 = .ok (.ireturn, 1) := by decide +kernel
theorem dX11_path_0 : decode cX11_path 0 = .ok (.aload_n 0, 1) := by decide +kernel
theorem dX11_path_1 : decode cX11_path 1 = .ok (.getfield 28, 3) := by decide +kernel
theorem dX11_path_4 : decode cX11_path 4 = .ok (.iload_n 1, 1) := by decide +kernel
theorem dX11_path_5 : decode cX11_path 5 = .ok (.invokevirtual 159, 3) := by decide +kernel
theorem dX11_path_8 : decode cX11_path 8 = .ok (.invokestatic 139, 3) := by decide +kernel
theorem dX11_path_11 : decode cX11_path 11 = .ok (.aload_n 0, 1) := by decide +kernel
theorem dX11_path_12 : decode cX11_path 12 = .ok (.invokevirtual 175, 3) := by decide +kernel
theorem dX11_path_15 : decode cX11_path 15 = .ok (.aload_n 0, 1) := by decide +kernel
theorem dX11_path_16 : decode cX11_path 16 = .ok (.getfield 46, 3) := by decide +kernel
theorem dX11_path_19 : decode cX11_path 19 = .ok (.iload_n 1, 1) := by decide +kernel
theorem dX11_path_20 : decode cX11_path 20 = .ok (.invokevirtual 202, 3) := by decide +kernel
theorem dX11_path_23 : decode cX11_path 23 = .ok (.ireturn, 1) := by decide +kernel
theorem dX11_lag_0 : decode cX11_lag 0 = .ok (.aload_n 0, 1) := by decide +kernel
theorem dX11_lag_1 : decode cX11_lag 1 = .ok (.getfield 28, 3) := by decide +kernel
theorem dX11_lag_4 : decode cX11_lag 4 = .ok (.iload_n 1, 1) := by decide +kernel
theorem dX11_lag_5 : decode cX11_lag 5 = .ok (.invokevirtual 159, 3) := by decide +kernel
theorem dX11_lag_8 : decode cX11_lag 8 = .ok (.invokestatic 139, 3) := by decide +kernel
theorem dX11_lag_11 : decode cX11_lag 11 = .ok (.aload_n 0, 1) := by decide +kernel
theorem dX11_lag_12 : decode cX11_lag 12 = .ok (.invokevirtual 175, 3) := by decide +kernel
theorem dX11_lag_15 : decode cX11_lag 15 = .ok (.aload_n 0, 1) := by decide +kernel
theorem dX11_lag_16 : decode cX11_lag 16 = .ok (.getfield 46, 3) := by decide +kernel
theorem dX11_lag_19 : decode cX11_lag 19 = .ok (.iload_n 1, 1) := by decide +kernel
theorem dX11_lag_20 : decode cX11_lag 20 = .ok (.invokevirtual 205, 3) := by decide +kernel
theorem dX11_lag_23 : decode cX11_lag 23 = .ok (.ireturn, 1) := by decide +kernel
theorem dX11_through_0 : decode cX11_through 0 = .ok (.aload_n 0, 1) := by decide +kernel
theorem dX11_through_1 : decode cX11_through 1 = .ok (.invokevirtual 175, 3) := by decide +kernel
theorem dX11_through_4 : decode cX11_through 4 = .ok (.aload_n 0, 1) := by decide +kernel
theorem dX11_through_5 : decode cX11_through 5 = .ok (.getfield 37, 3) := by decide +kernel
theorem dX11_through_8 : decode cX11_through 8 = .ok (.iload_n 1, 1) := by decide +kernel
theorem dX11_through_9 : decode cX11_through 9 = .ok (.iload_n 2, 1) := by decide +kernel
theorem dX11_through_10 : decode cX11_through 10 = .ok (.invokevirtual 181, 3) := by decide +kernel
theorem dX11_through_13 : decode cX11_through 13 = .ok (.invokestatic 139, 3) := by decide +kernel
theorem dX11_through_16 : decode cX11_through 16 = .ok (.aload_n 0, 1) := by decide +kernel
theorem dX11_through_17 : decode cX11_through 17 = .ok (.getfield 46, 3) := by decide +kernel
theorem dX11_through_20 : decode cX11_through 20 = .ok (.iload_n 1, 1) := by decide +kernel
theorem dX11_through_21 : decode cX11_through 21 = .ok (.iload_n 2, 1) := by decide +kernel
theorem dX11_through_22 : decode cX11_through 22 = .ok (.invokevirtual 208, 3) := by decide +kernel
theorem dX11_through_25 : decode cX11_through 25 = .ok (.ireturn, 1) := by decide +kernel
theorem dX11_both_0 : decode cX11_both 0 = .ok (.aload_n 0, 1) := by decide +kernel
theorem dX11_both_1 : decode cX11_both 1 = .ok (.invokevirtual 175, 3) := by decide +kernel
theorem dX11_both_4 : decode cX11_both 4 = .ok (.aload_n 0, 1) := by decide +kernel
theorem dX11_both_5 : decode cX11_both 5 = .ok (.getfield 37, 3) := by decide +kernel
theorem dX11_both_8 : decode cX11_both 8 = .ok (.iload_n 1, 1) := by decide +kernel
theorem dX11_both_9 : decode cX11_both 9 = .ok (.iload_n 2, 1) := by decide +kernel
theorem dX11_both_10 : decode cX11_both 10 = .ok (.invokevirtual 181, 3) := by decide +kernel
theorem dX11_both_13 : decode cX11_both 13 = .ok (.invokestatic 139, 3) := by decide +kernel
theorem dX11_both_16 : decode cX11_both 16 = .ok (.aload_n 0, 1) := by decide +kernel
theorem dX11_both_17 : decode cX11_both 17 = .ok (.getfield 37, 3) := by decide +kernel
theorem dX11_both_20 : decode cX11_both 20 = .ok (.iload_n 3, 1) := by decide +kernel
theorem dX11_both_21 : decode cX11_both 21 = .ok (.iload 4, 2) := by decide +kernel
theorem dX11_both_23 : decode cX11_both 23 = .ok (.invokevirtual 181, 3) := by decide +kernel
theorem dX11_both_26 : decode cX11_both 26 = .ok (.invokestatic 139, 3) := by decide +kernel
theorem dX11_both_29 : decode cX11_both 29 = .ok (.iload_n 3, 1) := by decide +kernel
theorem dX11_both_30 : decode cX11_both 30 = .ok (.iload_n 1, 1) := by decide +kernel
theorem dX11_both_31 : decode cX11_both 31 = .ok (.if_icmp .le 7, 3) := by decide +kernel
theorem dX11_both_34 : decode cX11_both 34 = .ok (.iconst 1, 1) := by decide +kernel
theorem dX11_both_35 : decode cX11_both 35 = .ok (.goto 4, 3) := by decide +kernel
theorem dX11_both_38 : decode cX11_both 38 = .ok (.iconst 0, 1) := by decide +kernel
theorem dX11_both_39 : decode cX11_both 39 = .ok (.invokestatic 211, 3) := by decide +kernel
theorem dX11_both_42 : decode cX11_both 42 = .ok (.aload_n 0, 1) := by decide +kernel
theorem dX11_both_43 : decode cX11_both 43 = .ok (.getfield 46, 3) := by decide +kernel
theorem dX11_both_46 : decode cX11_both 46 = .ok (.iload_n 1, 1) := by decide +kernel
theorem dX11_both_47 : decode cX11_both 47 = .ok (.iload_n 2, 1) := by decide +kernel
theorem dX11_both_48 : decode cX11_both 48 = .ok (.iload_n 3, 1) := by decide +kernel
theorem dX11_both_49 : decode cX11_both 49 = .ok (.iload 4, 2) := by decide +kernel
theorem dX11_both_51 : decode cX11_both 51 = .ok (.invokevirtual 214, 3) := by decide +kernel
theorem dX11_both_54 : decode cX11_both 54 = .ok (.ireturn, 1) := by decide +kernel
theorem dX11_single_0 : decode cX11_single 0 = .ok (.aload_n 0, 1) := by decide +kernel
theorem dX11_single_1 : decode cX11_single 1 = .ok (.invokevirtual 175, 3) := by decide +kernel
theorem dX11_single_4 : decode cX11_single 4 = .ok (.aload_n 0, 1) := by decide +kernel
theorem dX11_single_5 : decode cX11_single 5 = .ok (.getfield 46, 3) := by decide +kernel
theorem dX11_single_8 : decode cX11_single 8 = .ok (.invokevirtual 218, 3) := by decide +kernel
theorem dX11_single_11 : decode cX11_single 11 = .ok (.ireturn, 1) := by decide +kernel
theorem dX11_live_0 : decode cX11_live 0 = .ok (.aload_n 0, 1) := by decide +kernel
theorem dX11_live_1 : decode cX11_live 1 = .ok (.getfield 28, 3) := by decide +kernel
theorem dX11_live_4 : decode cX11_live 4 = .ok (.iload_n 1, 1) := by decide +kernel
theorem dX11_live_5 : decode cX11_live 5 = .ok (.invokevirtual 159, 3) := by decide +kernel
theorem dX11_live_8 : decode cX11_live 8 = .ok (.invokestatic 139, 3) := by decide +kernel
theorem dX11_live_11 : decode cX11_live 11 = .ok (.aload_n 0, 1) := by decide +kernel
theorem dX11_live_12 : decode cX11_live 12 = .ok (.invokevirtual 175, 3) := by decide +kernel
theorem dX11_live_15 : decode cX11_live 15 = .ok (.iload_n 2, 1) := by decide +kernel
theorem dX11_live_16 : decode cX11_live 16 = .ok (.ifCond .lt 13, 3) := by decide +kernel
theorem dX11_live_19 : decode cX11_live 19 = .ok (.iload_n 2, 1) := by decide +kernel
theorem dX11_live_20 : decode cX11_live 20 = .ok (.bipush 20, 2) := by decide +kernel
theorem dX11_live_22 : decode cX11_live 22 = .ok (.if_icmp .gt 7, 3) := by decide +kernel
theorem dX11_live_25 : decode cX11_live 25 = .ok (.iconst 1, 1) := by decide +kernel
theorem dX11_live_26 : decode cX11_live 26 = .ok (.goto 4, 3) := by decide +kernel
theorem dX11_live_29 : decode cX11_live 29 = .ok (.iconst 0, 1) := by decide +kernel
theorem dX11_live_30 : decode cX11_live 30 = .ok (.invokestatic 211, 3) := by decide +kernel
theorem dX11_live_33 : decode cX11_live 33 = .ok (.aload_n 0, 1) := by decide +kernel
theorem dX11_live_34 : decode cX11_live 34 = .ok (.getfield 46, 3) := by decide +kernel
theorem dX11_live_37 : decode cX11_live 37 = .ok (.iload_n 1, 1) := by decide +kernel
theorem dX11_live_38 : decode cX11_live 38 = .ok (.iload_n 2, 1) := by decide +kernel
theorem dX11_live_39 : decode cX11_live 39 = .ok (.invokevirtual 221, 3) := by decide +kernel
theorem dX11_live_42 : decode cX11_live 42 = .ok (.ireturn, 1) := by decide +kernel
theorem dX11_settles_0 : decode cX11_settles 0 = .ok (.aload_n 0, 1) := by decide +kernel
theorem dX11_settles_1 : decode cX11_settles 1 = .ok (.getfield 28, 3) := by decide +kernel
theorem dX11_settles_4 : decode cX11_settles 4 = .ok (.iload_n 1, 1) := by decide +kernel
theorem dX11_settles_5 : decode cX11_settles 5 = .ok (.invokevirtual 159, 3) := by decide +kernel
theorem dX11_settles_8 : decode cX11_settles 8 = .ok (.invokestatic 139, 3) := by decide +kernel
theorem dX11_settles_11 : decode cX11_settles 11 = .ok (.aload_n 0, 1) := by decide +kernel
theorem dX11_settles_12 : decode cX11_settles 12 = .ok (.invokevirtual 175, 3) := by decide +kernel
theorem dX11_settles_15 : decode cX11_settles 15 = .ok (.aload_n 0, 1) := by decide +kernel
theorem dX11_settles_16 : decode cX11_settles 16 = .ok (.getfield 46, 3) := by decide +kernel
theorem dX11_settles_19 : decode cX11_settles 19 = .ok (.iload_n 1, 1) := by decide +kernel
theorem dX11_settles_20 : decode cX11_settles 20 = .ok (.bipush 20, 2) := by decide +kernel
theorem dX11_settles_22 : decode cX11_settles 22 = .ok (.invokevirtual 221, 3) := by decide +kernel
theorem dX11_settles_25 : decode cX11_settles 25 = .ok (.istore_n 2, 1) := by decide +kernel
theorem dX11_settles_26 : decode cX11_settles 26 = .ok (.bipush 20, 2) := by decide +kernel
theorem dX11_settles_28 : decode cX11_settles 28 = .ok (.istore_n 3, 1) := by decide +kernel
theorem dX11_settles_29 : decode cX11_settles 29 = .ok (.iload_n 3, 1) := by decide +kernel
theorem dX11_settles_30 : decode cX11_settles 30 = .ok (.ifCond .le 24, 3) := by decide +kernel
theorem dX11_settles_33 : decode cX11_settles 33 = .ok (.aload_n 0, 1) := by decide +kernel
theorem dX11_settles_34 : decode cX11_settles 34 = .ok (.getfield 46, 3) := by decide +kernel
theorem dX11_settles_37 : decode cX11_settles 37 = .ok (.iload_n 1, 1) := by decide +kernel
theorem dX11_settles_38 : decode cX11_settles 38 = .ok (.iload_n 3, 1) := by decide +kernel
theorem dX11_settles_39 : decode cX11_settles 39 = .ok (.iconst 1, 1) := by decide +kernel
theorem dX11_settles_40 : decode cX11_settles 40 = .ok (.isub, 1) := by decide +kernel
theorem dX11_settles_41 : decode cX11_settles 41 = .ok (.invokevirtual 221, 3) := by decide +kernel
theorem dX11_settles_44 : decode cX11_settles 44 = .ok (.iload_n 2, 1) := by decide +kernel
theorem dX11_settles_45 : decode cX11_settles 45 = .ok (.if_icmp .ne 9, 3) := by decide +kernel
theorem dX11_settles_48 : decode cX11_settles 48 = .ok (.iinc 3 (-1), 3) := by decide +kernel
theorem dX11_settles_51 : decode cX11_settles 51 = .ok (.goto (-22), 3) := by decide +kernel
theorem dX11_settles_54 : decode cX11_settles 54 = .ok (.iload_n 3, 1) := by decide +kernel
theorem dX11_settles_55 : decode cX11_settles 55 = .ok (.ireturn, 1) := by decide +kernel
theorem dX11_best_0 : decode cX11_best 0 = .ok (.iload_n 1, 1) := by decide +kernel
theorem dX11_best_1 : decode cX11_best 1 = .ok (.ifCond .lt 13, 3) := by decide +kernel
theorem dX11_best_4 : decode cX11_best 4 = .ok (.iload_n 1, 1) := by decide +kernel
theorem dX11_best_5 : decode cX11_best 5 = .ok (.bipush 8, 2) := by decide +kernel
theorem dX11_best_7 : decode cX11_best 7 = .ok (.if_icmp .ge 7, 3) := by decide +kernel
theorem dX11_best_10 : decode cX11_best 10 = .ok (.iconst 1, 1) := by decide +kernel
theorem dX11_best_11 : decode cX11_best 11 = .ok (.goto 4, 3) := by decide +kernel
theorem dX11_best_14 : decode cX11_best 14 = .ok (.iconst 0, 1) := by decide +kernel
theorem dX11_best_15 : decode cX11_best 15 = .ok (.invokestatic 211, 3) := by decide +kernel
theorem dX11_best_18 : decode cX11_best 18 = .ok (.aload_n 0, 1) := by decide +kernel
theorem dX11_best_19 : decode cX11_best 19 = .ok (.invokevirtual 224, 3) := by decide +kernel
theorem dX11_best_22 : decode cX11_best 22 = .ok (.aload_n 0, 1) := by decide +kernel
theorem dX11_best_23 : decode cX11_best 23 = .ok (.getfield 53, 3) := by decide +kernel
theorem dX11_best_26 : decode cX11_best 26 = .ok (.iload_n 1, 1) := by decide +kernel
theorem dX11_best_27 : decode cX11_best 27 = .ok (.invokevirtual 227, 3) := by decide +kernel
theorem dX11_best_30 : decode cX11_best 30 = .ok (.ireturn, 1) := by decide +kernel
theorem dX11_bestAt_0 : decode cX11_bestAt 0 = .ok (.iload_n 1, 1) := by decide +kernel
theorem dX11_bestAt_1 : decode cX11_bestAt 1 = .ok (.ifCond .lt 13, 3) := by decide +kernel
theorem dX11_bestAt_4 : decode cX11_bestAt 4 = .ok (.iload_n 1, 1) := by decide +kernel
theorem dX11_bestAt_5 : decode cX11_bestAt 5 = .ok (.bipush 8, 2) := by decide +kernel
theorem dX11_bestAt_7 : decode cX11_bestAt 7 = .ok (.if_icmp .ge 7, 3) := by decide +kernel
theorem dX11_bestAt_10 : decode cX11_bestAt 10 = .ok (.iconst 1, 1) := by decide +kernel
theorem dX11_bestAt_11 : decode cX11_bestAt 11 = .ok (.goto 4, 3) := by decide +kernel
theorem dX11_bestAt_14 : decode cX11_bestAt 14 = .ok (.iconst 0, 1) := by decide +kernel
theorem dX11_bestAt_15 : decode cX11_bestAt 15 = .ok (.invokestatic 211, 3) := by decide +kernel
theorem dX11_bestAt_18 : decode cX11_bestAt 18 = .ok (.aload_n 0, 1) := by decide +kernel
theorem dX11_bestAt_19 : decode cX11_bestAt 19 = .ok (.getfield 28, 3) := by decide +kernel
theorem dX11_bestAt_22 : decode cX11_bestAt 22 = .ok (.iload_n 2, 1) := by decide +kernel
theorem dX11_bestAt_23 : decode cX11_bestAt 23 = .ok (.invokevirtual 159, 3) := by decide +kernel
theorem dX11_bestAt_26 : decode cX11_bestAt 26 = .ok (.invokestatic 139, 3) := by decide +kernel
theorem dX11_bestAt_29 : decode cX11_bestAt 29 = .ok (.aload_n 0, 1) := by decide +kernel
theorem dX11_bestAt_30 : decode cX11_bestAt 30 = .ok (.invokevirtual 224, 3) := by decide +kernel
theorem dX11_bestAt_33 : decode cX11_bestAt 33 = .ok (.aload_n 0, 1) := by decide +kernel
theorem dX11_bestAt_34 : decode cX11_bestAt 34 = .ok (.getfield 53, 3) := by decide +kernel
theorem dX11_bestAt_37 : decode cX11_bestAt 37 = .ok (.iload_n 1, 1) := by decide +kernel
theorem dX11_bestAt_38 : decode cX11_bestAt 38 = .ok (.iload_n 2, 1) := by decide +kernel
theorem dX11_bestAt_39 : decode cX11_bestAt 39 = .ok (.invokevirtual 228, 3) := by decide +kernel
theorem dX11_bestAt_42 : decode cX11_bestAt 42 = .ok (.ireturn, 1) := by decide +kernel
theorem dX11_would_0 : decode cX11_would 0 = .ok (.iload_n 1, 1) := by decide +kernel
theorem dX11_would_1 : decode cX11_would 1 = .ok (.ifCond .lt 25, 3) := by decide +kernel
theorem dX11_would_4 : decode cX11_would 4 = .ok (.iload_n 1, 1) := by decide +kernel
theorem dX11_would_5 : decode cX11_would 5 = .ok (.sipush 2000, 3) := by decide +kernel
theorem dX11_would_8 : decode cX11_would 8 = .ok (.if_icmp .gt 18, 3) := by decide +kernel
theorem dX11_would_11 : decode cX11_would 11 = .ok (.iload_n 2, 1) := by decide +kernel
theorem dX11_would_12 : decode cX11_would 12 = .ok (.ifCond .lt 14, 3) := by decide +kernel
theorem dX11_would_15 : decode cX11_would 15 = .ok (.iload_n 2, 1) := by decide +kernel
theorem dX11_would_16 : decode cX11_would 16 = .ok (.sipush 2000, 3) := by decide +kernel
theorem dX11_would_19 : decode cX11_would 19 = .ok (.if_icmp .gt 7, 3) := by decide +kernel
theorem dX11_would_22 : decode cX11_would 22 = .ok (.iconst 1, 1) := by decide +kernel
theorem dX11_would_23 : decode cX11_would 23 = .ok (.goto 4, 3) := by decide +kernel
theorem dX11_would_26 : decode cX11_would 26 = .ok (.iconst 0, 1) := by decide +kernel
theorem dX11_would_27 : decode cX11_would 27 = .ok (.invokestatic 211, 3) := by decide +kernel
theorem dX11_would_30 : decode cX11_would 30 = .ok (.aload_n 0, 1) := by decide +kernel
theorem dX11_would_31 : decode cX11_would 31 = .ok (.invokevirtual 175, 3) := by decide +kernel
theorem dX11_would_34 : decode cX11_would 34 = .ok (.aload_n 0, 1) := by decide +kernel
theorem dX11_would_35 : decode cX11_would 35 = .ok (.getfield 46, 3) := by decide +kernel
theorem dX11_would_38 : decode cX11_would 38 = .ok (.iload_n 1, 1) := by decide +kernel
theorem dX11_would_39 : decode cX11_would 39 = .ok (.iload_n 2, 1) := by decide +kernel
theorem dX11_would_40 : decode cX11_would 40 = .ok (.invokevirtual 230, 3) := by decide +kernel
theorem dX11_would_43 : decode cX11_would 43 = .ok (.ireturn, 1) := by decide +kernel
theorem dX11_doubled_0 : decode cX11_doubled 0 = .ok (.aload_n 0, 1) := by decide +kernel
theorem dX11_doubled_1 : decode cX11_doubled 1 = .ok (.invokevirtual 175, 3) := by decide +kernel
theorem dX11_doubled_4 : decode cX11_doubled 4 = .ok (.aload_n 0, 1) := by decide +kernel
theorem dX11_doubled_5 : decode cX11_doubled 5 = .ok (.getfield 46, 3) := by decide +kernel
theorem dX11_doubled_8 : decode cX11_doubled 8 = .ok (.invokevirtual 233, 3) := by decide +kernel
theorem dX11_doubled_11 : decode cX11_doubled 11 = .ok (.ireturn, 1) := by decide +kernel
theorem dX11_spans_0 : decode cX11_spans 0 = .ok (.aload_n 0, 1) := by decide +kernel
theorem dX11_spans_1 : decode cX11_spans 1 = .ok (.invokevirtual 175, 3) := by decide +kernel
theorem dX11_spans_4 : decode cX11_spans 4 = .ok (.aload_n 0, 1) := by decide +kernel
theorem dX11_spans_5 : decode cX11_spans 5 = .ok (.getfield 62, 3) := by decide +kernel
theorem dX11_spans_8 : decode cX11_spans 8 = .ok (.invokevirtual 236, 3) := by decide +kernel
theorem dX11_spans_11 : decode cX11_spans 11 = .ok (.ireturn, 1) := by decide +kernel
theorem dX11_span_0 : decode cX11_span 0 = .ok (.aload_n 0, 1) := by decide +kernel
theorem dX11_span_1 : decode cX11_span 1 = .ok (.invokevirtual 175, 3) := by decide +kernel
theorem dX11_span_4 : decode cX11_span 4 = .ok (.aload_n 0, 1) := by decide +kernel
theorem dX11_span_5 : decode cX11_span 5 = .ok (.getfield 62, 3) := by decide +kernel
theorem dX11_span_8 : decode cX11_span 8 = .ok (.iload_n 1, 1) := by decide +kernel
theorem dX11_span_9 : decode cX11_span 9 = .ok (.invokevirtual 237, 3) := by decide +kernel
theorem dX11_span_12 : decode cX11_span 12 = .ok (.ifCond .eq 17, 3) := by decide +kernel
theorem dX11_span_15 : decode cX11_span 15 = .ok (.iload_n 2, 1) := by decide +kernel
theorem dX11_span_16 : decode cX11_span 16 = .ok (.ifCond .lt 13, 3) := by decide +kernel
theorem dX11_span_19 : decode cX11_span 19 = .ok (.iload_n 2, 1) := by decide +kernel
theorem dX11_span_20 : decode cX11_span 20 = .ok (.bipush 6, 2) := by decide +kernel
theorem dX11_span_22 : decode cX11_span 22 = .ok (.if_icmp .gt 7, 3) := by decide +kernel
theorem dX11_span_25 : decode cX11_span 25 = .ok (.iconst 1, 1) := by decide +kernel
theorem dX11_span_26 : decode cX11_span 26 = .ok (.goto 4, 3) := by decide +kernel
theorem dX11_span_29 : decode cX11_span 29 = .ok (.iconst 0, 1) := by decide +kernel
theorem dX11_span_30 : decode cX11_span 30 = .ok (.invokestatic 139, 3) := by decide +kernel
theorem dX11_span_33 : decode cX11_span 33 = .ok (.iload_n 2, 1) := by decide +kernel
theorem dX11_span_34 : decode cX11_span 34 = .ok (.tableswitch 104 0 5 #[38, 47, 56, 73, 82, 91], 38) := by decide +kernel
theorem dX11_span_72 : decode cX11_span 72 = .ok (.aload_n 0, 1) := by decide +kernel
theorem dX11_span_73 : decode cX11_span 73 = .ok (.getfield 62, 3) := by decide +kernel
theorem dX11_span_76 : decode cX11_span 76 = .ok (.iload_n 1, 1) := by decide +kernel
theorem dX11_span_77 : decode cX11_span 77 = .ok (.invokevirtual 238, 3) := by decide +kernel
theorem dX11_span_80 : decode cX11_span 80 = .ok (.ireturn, 1) := by decide +kernel
theorem dX11_span_81 : decode cX11_span 81 = .ok (.aload_n 0, 1) := by decide +kernel
theorem dX11_span_82 : decode cX11_span 82 = .ok (.getfield 62, 3) := by decide +kernel
theorem dX11_span_85 : decode cX11_span 85 = .ok (.iload_n 1, 1) := by decide +kernel
theorem dX11_span_86 : decode cX11_span 86 = .ok (.invokevirtual 241, 3) := by decide +kernel
theorem dX11_span_89 : decode cX11_span 89 = .ok (.ireturn, 1) := by decide +kernel
theorem dX11_span_90 : decode cX11_span 90 = .ok (.aload_n 0, 1) := by decide +kernel
theorem dX11_span_91 : decode cX11_span 91 = .ok (.getfield 62, 3) := by decide +kernel
theorem dX11_span_94 : decode cX11_span 94 = .ok (.iload_n 1, 1) := by decide +kernel
theorem dX11_span_95 : decode cX11_span 95 = .ok (.invokevirtual 244, 3) := by decide +kernel
theorem dX11_span_98 : decode cX11_span 98 = .ok (.ifCond .eq 7, 3) := by decide +kernel
theorem dX11_span_101 : decode cX11_span 101 = .ok (.iconst 1, 1) := by decide +kernel
theorem dX11_span_102 : decode cX11_span 102 = .ok (.goto 4, 3) := by decide +kernel
theorem dX11_span_105 : decode cX11_span 105 = .ok (.iconst 0, 1) := by decide +kernel
theorem dX11_span_106 : decode cX11_span 106 = .ok (.ireturn, 1) := by decide +kernel
theorem dX11_span_107 : decode cX11_span 107 = .ok (.aload_n 0, 1) := by decide +kernel
theorem dX11_span_108 : decode cX11_span 108 = .ok (.getfield 62, 3) := by decide +kernel
theorem dX11_span_111 : decode cX11_span 111 = .ok (.iload_n 1, 1) := by decide +kernel
theorem dX11_span_112 : decode cX11_span 112 = .ok (.invokevirtual 247, 3) := by decide +kernel
theorem dX11_span_115 : decode cX11_span 115 = .ok (.ireturn, 1) := by decide +kernel
theorem dX11_span_116 : decode cX11_span 116 = .ok (.aload_n 0, 1) := by decide +kernel
theorem dX11_span_117 : decode cX11_span 117 = .ok (.getfield 62, 3) := by decide +kernel
theorem dX11_span_120 : decode cX11_span 120 = .ok (.iload_n 1, 1) := by decide +kernel
theorem dX11_span_121 : decode cX11_span 121 = .ok (.invokevirtual 250, 3) := by decide +kernel
theorem dX11_span_124 : decode cX11_span 124 = .ok (.ireturn, 1) := by decide +kernel
theorem dX11_span_125 : decode cX11_span 125 = .ok (.aload_n 0, 1) := by decide +kernel
theorem dX11_span_126 : decode cX11_span 126 = .ok (.invokevirtual 253, 3) := by decide +kernel
theorem dX11_span_129 : decode cX11_span 129 = .ok (.aload_n 0, 1) := by decide +kernel
theorem dX11_span_130 : decode cX11_span 130 = .ok (.getfield 80, 3) := by decide +kernel
theorem dX11_span_133 : decode cX11_span 133 = .ok (.iload_n 1, 1) := by decide +kernel
theorem dX11_span_134 : decode cX11_span 134 = .ok (.invokevirtual 256, 3) := by decide +kernel
theorem dX11_span_137 : decode cX11_span 137 = .ok (.ireturn, 1) := by decide +kernel
theorem dX11_span_138 : decode cX11_span 138 = .ok (.aload_n 0, 1) := by decide +kernel
theorem dX11_span_139 : decode cX11_span 139 = .ok (.invokevirtual 253, 3) := by decide +kernel
theorem dX11_span_142 : decode cX11_span 142 = .ok (.aload_n 0, 1) := by decide +kernel
theorem dX11_span_143 : decode cX11_span 143 = .ok (.getfield 80, 3) := by decide +kernel
theorem dX11_span_146 : decode cX11_span 146 = .ok (.iload_n 1, 1) := by decide +kernel
theorem dX11_span_147 : decode cX11_span 147 = .ok (.invokevirtual 259, 3) := by decide +kernel
theorem dX11_span_150 : decode cX11_span 150 = .ok (.ireturn, 1) := by decide +kernel
theorem dX11_notes_0 : decode cX11_notes 0 = .ok (.aload_n 0, 1) := by decide +kernel
theorem dX11_notes_1 : decode cX11_notes 1 = .ok (.invokevirtual 175, 3) := by decide +kernel
theorem dX11_notes_4 : decode cX11_notes 4 = .ok (.aload_n 0, 1) := by decide +kernel
theorem dX11_notes_5 : decode cX11_notes 5 = .ok (.getfield 71, 3) := by decide +kernel
theorem dX11_notes_8 : decode cX11_notes 8 = .ok (.invokevirtual 262, 3) := by decide +kernel
theorem dX11_notes_11 : decode cX11_notes 11 = .ok (.ireturn, 1) := by decide +kernel
theorem dX11_note_0 : decode cX11_note 0 = .ok (.aload_n 0, 1) := by decide +kernel
theorem dX11_note_1 : decode cX11_note 1 = .ok (.invokevirtual 175, 3) := by decide +kernel
theorem dX11_note_4 : decode cX11_note 4 = .ok (.aload_n 0, 1) := by decide +kernel
theorem dX11_note_5 : decode cX11_note 5 = .ok (.getfield 71, 3) := by decide +kernel
theorem dX11_note_8 : decode cX11_note 8 = .ok (.iload_n 1, 1) := by decide +kernel
theorem dX11_note_9 : decode cX11_note 9 = .ok (.invokevirtual 263, 3) := by decide +kernel
theorem dX11_note_12 : decode cX11_note 12 = .ok (.ifCond .eq 16, 3) := by decide +kernel
theorem dX11_note_15 : decode cX11_note 15 = .ok (.iload_n 2, 1) := by decide +kernel
theorem dX11_note_16 : decode cX11_note 16 = .ok (.ifCond .lt 12, 3) := by decide +kernel
theorem dX11_note_19 : decode cX11_note 19 = .ok (.iload_n 2, 1) := by decide +kernel
theorem dX11_note_20 : decode cX11_note 20 = .ok (.iconst 2, 1) := by decide +kernel
theorem dX11_note_21 : decode cX11_note 21 = .ok (.if_icmp .gt 7, 3) := by decide +kernel
theorem dX11_note_24 : decode cX11_note 24 = .ok (.iconst 1, 1) := by decide +kernel
theorem dX11_note_25 : decode cX11_note 25 = .ok (.goto 4, 3) := by decide +kernel
theorem dX11_note_28 : decode cX11_note 28 = .ok (.iconst 0, 1) := by decide +kernel
theorem dX11_note_29 : decode cX11_note 29 = .ok (.invokestatic 139, 3) := by decide +kernel
theorem dX11_note_32 : decode cX11_note 32 = .ok (.iload_n 2, 1) := by decide +kernel
theorem dX11_note_33 : decode cX11_note 33 = .ok (.lookupswitch 45 #[(0, 27), (1, 36)], 27) := by decide +kernel
theorem dX11_note_60 : decode cX11_note 60 = .ok (.aload_n 0, 1) := by decide +kernel
theorem dX11_note_61 : decode cX11_note 61 = .ok (.getfield 71, 3) := by decide +kernel
theorem dX11_note_64 : decode cX11_note 64 = .ok (.iload_n 1, 1) := by decide +kernel
theorem dX11_note_65 : decode cX11_note 65 = .ok (.invokevirtual 264, 3) := by decide +kernel
theorem dX11_note_68 : decode cX11_note 68 = .ok (.ireturn, 1) := by decide +kernel
theorem dX11_note_69 : decode cX11_note 69 = .ok (.aload_n 0, 1) := by decide +kernel
theorem dX11_note_70 : decode cX11_note 70 = .ok (.getfield 71, 3) := by decide +kernel
theorem dX11_note_73 : decode cX11_note 73 = .ok (.iload_n 1, 1) := by decide +kernel
theorem dX11_note_74 : decode cX11_note 74 = .ok (.invokevirtual 265, 3) := by decide +kernel
theorem dX11_note_77 : decode cX11_note 77 = .ok (.ireturn, 1) := by decide +kernel
theorem dX11_note_78 : decode cX11_note 78 = .ok (.aload_n 0, 1) := by decide +kernel
theorem dX11_note_79 : decode cX11_note 79 = .ok (.getfield 71, 3) := by decide +kernel
theorem dX11_note_82 : decode cX11_note 82 = .ok (.iload_n 1, 1) := by decide +kernel
theorem dX11_note_83 : decode cX11_note 83 = .ok (.invokevirtual 266, 3) := by decide +kernel
theorem dX11_note_86 : decode cX11_note 86 = .ok (.ireturn, 1) := by decide +kernel
theorem dX11_steady_0 : decode cX11_steady 0 = .ok (.iload_n 1, 1) := by decide +kernel
theorem dX11_steady_1 : decode cX11_steady 1 = .ok (.ifCond .lt 12, 3) := by decide +kernel
theorem dX11_steady_4 : decode cX11_steady 4 = .ok (.iload_n 1, 1) := by decide +kernel
theorem dX11_steady_5 : decode cX11_steady 5 = .ok (.iconst 2, 1) := by decide +kernel
theorem dX11_steady_6 : decode cX11_steady 6 = .ok (.if_icmp .gt 7, 3) := by decide +kernel
theorem dX11_steady_9 : decode cX11_steady 9 = .ok (.iconst 1, 1) := by decide +kernel
theorem dX11_steady_10 : decode cX11_steady 10 = .ok (.goto 4, 3) := by decide +kernel
theorem dX11_steady_13 : decode cX11_steady 13 = .ok (.iconst 0, 1) := by decide +kernel
theorem dX11_steady_14 : decode cX11_steady 14 = .ok (.invokestatic 139, 3) := by decide +kernel
theorem dX11_steady_17 : decode cX11_steady 17 = .ok (.aload_n 0, 1) := by decide +kernel
theorem dX11_steady_18 : decode cX11_steady 18 = .ok (.invokevirtual 175, 3) := by decide +kernel
theorem dX11_steady_21 : decode cX11_steady 21 = .ok (.iload_n 1, 1) := by decide +kernel
theorem dX11_steady_22 : decode cX11_steady 22 = .ok (.lookupswitch 42 #[(0, 26), (1, 34)], 26) := by decide +kernel
theorem dX11_steady_48 : decode cX11_steady 48 = .ok (.aload_n 0, 1) := by decide +kernel
theorem dX11_steady_49 : decode cX11_steady 49 = .ok (.getfield 71, 3) := by decide +kernel
theorem dX11_steady_52 : decode cX11_steady 52 = .ok (.invokevirtual 268, 3) := by decide +kernel
theorem dX11_steady_55 : decode cX11_steady 55 = .ok (.ireturn, 1) := by decide +kernel
theorem dX11_steady_56 : decode cX11_steady 56 = .ok (.aload_n 0, 1) := by decide +kernel
theorem dX11_steady_57 : decode cX11_steady 57 = .ok (.getfield 71, 3) := by decide +kernel
theorem dX11_steady_60 : decode cX11_steady 60 = .ok (.invokevirtual 271, 3) := by decide +kernel
theorem dX11_steady_63 : decode cX11_steady 63 = .ok (.ireturn, 1) := by decide +kernel
theorem dX11_steady_64 : decode cX11_steady 64 = .ok (.aload_n 0, 1) := by decide +kernel
theorem dX11_steady_65 : decode cX11_steady 65 = .ok (.getfield 71, 3) := by decide +kernel
theorem dX11_steady_68 : decode cX11_steady 68 = .ok (.invokevirtual 274, 3) := by decide +kernel
theorem dX11_steady_71 : decode cX11_steady 71 = .ok (.ireturn, 1) := by decide +kernel
theorem dX11_lags_0 : decode cX11_lags 0 = .ok (.aload_n 0, 1) := by decide +kernel
theorem dX11_lags_1 : decode cX11_lags 1 = .ok (.invokevirtual 175, 3) := by decide +kernel
theorem dX11_lags_4 : decode cX11_lags 4 = .ok (.aload_n 0, 1) := by decide +kernel
theorem dX11_lags_5 : decode cX11_lags 5 = .ok (.getfield 71, 3) := by decide +kernel
theorem dX11_lags_8 : decode cX11_lags 8 = .ok (.invokevirtual 277, 3) := by decide +kernel
theorem dX11_lags_11 : decode cX11_lags 11 = .ok (.ireturn, 1) := by decide +kernel
theorem dX11_lagAt_0 : decode cX11_lagAt 0 = .ok (.aload_n 0, 1) := by decide +kernel
theorem dX11_lagAt_1 : decode cX11_lagAt 1 = .ok (.invokevirtual 175, 3) := by decide +kernel
theorem dX11_lagAt_4 : decode cX11_lagAt 4 = .ok (.iload_n 1, 1) := by decide +kernel
theorem dX11_lagAt_5 : decode cX11_lagAt 5 = .ok (.ifCond .lt 27, 3) := by decide +kernel
theorem dX11_lagAt_8 : decode cX11_lagAt 8 = .ok (.iload_n 1, 1) := by decide +kernel
theorem dX11_lagAt_9 : decode cX11_lagAt 9 = .ok (.aload_n 0, 1) := by decide +kernel
theorem dX11_lagAt_10 : decode cX11_lagAt 10 = .ok (.getfield 71, 3) := by decide +kernel
theorem dX11_lagAt_13 : decode cX11_lagAt 13 = .ok (.invokevirtual 277, 3) := by decide +kernel
theorem dX11_lagAt_16 : decode cX11_lagAt 16 = .ok (.if_icmp .ge 16, 3) := by decide +kernel
theorem dX11_lagAt_19 : decode cX11_lagAt 19 = .ok (.iload_n 2, 1) := by decide +kernel
theorem dX11_lagAt_20 : decode cX11_lagAt 20 = .ok (.ifCond .lt 12, 3) := by decide +kernel
theorem dX11_lagAt_23 : decode cX11_lagAt 23 = .ok (.iload_n 2, 1) := by decide +kernel
theorem dX11_lagAt_24 : decode cX11_lagAt 24 = .ok (.iconst 1, 1) := by decide +kernel
theorem dX11_lagAt_25 : decode cX11_lagAt 25 = .ok (.if_icmp .gt 7, 3) := by decide +kernel
theorem dX11_lagAt_28 : decode cX11_lagAt 28 = .ok (.iconst 1, 1) := by decide +kernel
theorem dX11_lagAt_29 : decode cX11_lagAt 29 = .ok (.goto 4, 3) := by decide +kernel
theorem dX11_lagAt_32 : decode cX11_lagAt 32 = .ok (.iconst 0, 1) := by decide +kernel
theorem dX11_lagAt_33 : decode cX11_lagAt 33 = .ok (.invokestatic 139, 3) := by decide +kernel
theorem dX11_lagAt_36 : decode cX11_lagAt 36 = .ok (.aload_n 0, 1) := by decide +kernel
theorem dX11_lagAt_37 : decode cX11_lagAt 37 = .ok (.getfield 71, 3) := by decide +kernel
theorem dX11_lagAt_40 : decode cX11_lagAt 40 = .ok (.iload_n 1, 1) := by decide +kernel
theorem dX11_lagAt_41 : decode cX11_lagAt 41 = .ok (.invokevirtual 280, 3) := by decide +kernel
theorem dX11_lagAt_44 : decode cX11_lagAt 44 = .ok (.istore_n 3, 1) := by decide +kernel
theorem dX11_lagAt_45 : decode cX11_lagAt 45 = .ok (.iload_n 2, 1) := by decide +kernel
theorem dX11_lagAt_46 : decode cX11_lagAt 46 = .ok (.ifCond .ne 7, 3) := by decide +kernel
theorem dX11_lagAt_49 : decode cX11_lagAt 49 = .ok (.iload_n 3, 1) := by decide +kernel
theorem dX11_lagAt_50 : decode cX11_lagAt 50 = .ok (.goto 11, 3) := by decide +kernel
theorem dX11_lagAt_53 : decode cX11_lagAt 53 = .ok (.aload_n 0, 1) := by decide +kernel
theorem dX11_lagAt_54 : decode cX11_lagAt 54 = .ok (.getfield 71, 3) := by decide +kernel
theorem dX11_lagAt_57 : decode cX11_lagAt 57 = .ok (.iload_n 3, 1) := by decide +kernel
theorem dX11_lagAt_58 : decode cX11_lagAt 58 = .ok (.invokevirtual 283, 3) := by decide +kernel
theorem dX11_lagAt_61 : decode cX11_lagAt 61 = .ok (.ireturn, 1) := by decide +kernel
theorem dX11_common_0 : decode cX11_common 0 = .ok (.iload_n 1, 1) := by decide +kernel
theorem dX11_common_1 : decode cX11_common 1 = .ok (.ifCond .lt 12, 3) := by decide +kernel
theorem dX11_common_4 : decode cX11_common 4 = .ok (.iload_n 1, 1) := by decide +kernel
theorem dX11_common_5 : decode cX11_common 5 = .ok (.iconst 1, 1) := by decide +kernel
theorem dX11_common_6 : decode cX11_common 6 = .ok (.if_icmp .gt 7, 3) := by decide +kernel
theorem dX11_common_9 : decode cX11_common 9 = .ok (.iconst 1, 1) := by decide +kernel
theorem dX11_common_10 : decode cX11_common 10 = .ok (.goto 4, 3) := by decide +kernel
theorem dX11_common_13 : decode cX11_common 13 = .ok (.iconst 0, 1) := by decide +kernel
theorem dX11_common_14 : decode cX11_common 14 = .ok (.invokestatic 139, 3) := by decide +kernel
theorem dX11_common_17 : decode cX11_common 17 = .ok (.aload_n 0, 1) := by decide +kernel
theorem dX11_common_18 : decode cX11_common 18 = .ok (.invokevirtual 175, 3) := by decide +kernel
theorem dX11_common_21 : decode cX11_common 21 = .ok (.iload_n 1, 1) := by decide +kernel
theorem dX11_common_22 : decode cX11_common 22 = .ok (.ifCond .ne 13, 3) := by decide +kernel
theorem dX11_common_25 : decode cX11_common 25 = .ok (.aload_n 0, 1) := by decide +kernel
theorem dX11_common_26 : decode cX11_common 26 = .ok (.getfield 71, 3) := by decide +kernel
theorem dX11_common_29 : decode cX11_common 29 = .ok (.invokevirtual 286, 3) := by decide +kernel
theorem dX11_common_32 : decode cX11_common 32 = .ok (.goto 10, 3) := by decide +kernel
theorem dX11_common_35 : decode cX11_common 35 = .ok (.aload_n 0, 1) := by decide +kernel
theorem dX11_common_36 : decode cX11_common 36 = .ok (.getfield 71, 3) := by decide +kernel
theorem dX11_common_39 : decode cX11_common 39 = .ok (.invokevirtual 289, 3) := by decide +kernel
theorem dX11_common_42 : decode cX11_common 42 = .ok (.ireturn, 1) := by decide +kernel
theorem dX11_tune_0 : decode cX11_tune 0 = .ok (.iload_n 1, 1) := by decide +kernel
theorem dX11_tune_1 : decode cX11_tune 1 = .ok (.iconst 1, 1) := by decide +kernel
theorem dX11_tune_2 : decode cX11_tune 2 = .ok (.if_icmp .lt 19, 3) := by decide +kernel
theorem dX11_tune_5 : decode cX11_tune 5 = .ok (.iload_n 1, 1) := by decide +kernel
theorem dX11_tune_6 : decode cX11_tune 6 = .ok (.bipush 48, 2) := by decide +kernel
theorem dX11_tune_8 : decode cX11_tune 8 = .ok (.if_icmp .gt 13, 3) := by decide +kernel
theorem dX11_tune_11 : decode cX11_tune 11 = .ok (.aload_n 0, 1) := by decide +kernel
theorem dX11_tune_12 : decode cX11_tune 12 = .ok (.getfield 89, 3) := by decide +kernel
theorem dX11_tune_15 : decode cX11_tune 15 = .ok (.invokevirtual 292, 3) := by decide +kernel
theorem dX11_tune_18 : decode cX11_tune 18 = .ok (.ifCond .ne 7, 3) := by decide +kernel
theorem dX11_tune_21 : decode cX11_tune 21 = .ok (.sipush (-1000), 3) := by decide +kernel
theorem dX11_tune_24 : decode cX11_tune 24 = .ok (.ireturn, 1) := by decide +kernel
theorem dX11_tune_25 : decode cX11_tune 25 = .ok (.aload_n 0, 1) := by decide +kernel
theorem dX11_tune_26 : decode cX11_tune 26 = .ok (.getfield 89, 3) := by decide +kernel
theorem dX11_tune_29 : decode cX11_tune 29 = .ok (.iload_n 1, 1) := by decide +kernel
theorem dX11_tune_30 : decode cX11_tune 30 = .ok (.invokevirtual 295, 3) := by decide +kernel
theorem dX11_tune_33 : decode cX11_tune 33 = .ok (.aload_n 0, 1) := by decide +kernel
theorem dX11_tune_34 : decode cX11_tune 34 = .ok (.getfield 89, 3) := by decide +kernel
theorem dX11_tune_37 : decode cX11_tune 37 = .ok (.invokevirtual 158, 3) := by decide +kernel
theorem dX11_tune_40 : decode cX11_tune 40 = .ok (.ireturn, 1) := by decide +kernel
theorem dX11_hush_0 : decode cX11_hush 0 = .ok (.aload_n 0, 1) := by decide +kernel
theorem dX11_hush_1 : decode cX11_hush 1 = .ok (.getfield 89, 3) := by decide +kernel
theorem dX11_hush_4 : decode cX11_hush 4 = .ok (.invokevirtual 158, 3) := by decide +kernel
theorem dX11_hush_7 : decode cX11_hush 7 = .ok (.istore_n 1, 1) := by decide +kernel
theorem dX11_hush_8 : decode cX11_hush 8 = .ok (.aload_n 0, 1) := by decide +kernel
theorem dX11_hush_9 : decode cX11_hush 9 = .ok (.getfield 89, 3) := by decide +kernel
theorem dX11_hush_12 : decode cX11_hush 12 = .ok (.invokevirtual 298, 3) := by decide +kernel
theorem dX11_hush_15 : decode cX11_hush 15 = .ok (.iload_n 1, 1) := by decide +kernel
theorem dX11_hush_16 : decode cX11_hush 16 = .ok (.ireturn, 1) := by decide +kernel
theorem dX11_match_0 : decode cX11_match 0 = .ok (.iload_n 1, 1) := by decide +kernel
theorem dX11_match_1 : decode cX11_match 1 = .ok (.ifCond .lt 12, 3) := by decide +kernel
theorem dX11_match_4 : decode cX11_match 4 = .ok (.iload_n 1, 1) := by decide +kernel
theorem dX11_match_5 : decode cX11_match 5 = .ok (.iconst 1, 1) := by decide +kernel
theorem dX11_match_6 : decode cX11_match 6 = .ok (.if_icmp .gt 7, 3) := by decide +kernel
theorem dX11_match_9 : decode cX11_match 9 = .ok (.iconst 1, 1) := by decide +kernel
theorem dX11_match_10 : decode cX11_match 10 = .ok (.goto 4, 3) := by decide +kernel
theorem dX11_match_13 : decode cX11_match 13 = .ok (.iconst 0, 1) := by decide +kernel
theorem dX11_match_14 : decode cX11_match 14 = .ok (.invokestatic 139, 3) := by decide +kernel
theorem dX11_match_17 : decode cX11_match 17 = .ok (.aload_n 0, 1) := by decide +kernel
theorem dX11_match_18 : decode cX11_match 18 = .ok (.invokevirtual 175, 3) := by decide +kernel
theorem dX11_match_21 : decode cX11_match 21 = .ok (.aload_n 0, 1) := by decide +kernel
theorem dX11_match_22 : decode cX11_match 22 = .ok (.getfield 89, 3) := by decide +kernel
theorem dX11_match_25 : decode cX11_match 25 = .ok (.invokevirtual 301, 3) := by decide +kernel
theorem dX11_match_28 : decode cX11_match 28 = .ok (.iload_n 1, 1) := by decide +kernel
theorem dX11_match_29 : decode cX11_match 29 = .ok (.ifCond .ne 13, 3) := by decide +kernel
theorem dX11_match_32 : decode cX11_match 32 = .ok (.aload_n 0, 1) := by decide +kernel
theorem dX11_match_33 : decode cX11_match 33 = .ok (.getfield 89, 3) := by decide +kernel
theorem dX11_match_36 : decode cX11_match 36 = .ok (.invokevirtual 304, 3) := by decide +kernel
theorem dX11_match_39 : decode cX11_match 39 = .ok (.goto 10, 3) := by decide +kernel
theorem dX11_match_42 : decode cX11_match 42 = .ok (.aload_n 0, 1) := by decide +kernel
theorem dX11_match_43 : decode cX11_match 43 = .ok (.getfield 89, 3) := by decide +kernel
theorem dX11_match_46 : decode cX11_match 46 = .ok (.invokevirtual 307, 3) := by decide +kernel
theorem dX11_match_49 : decode cX11_match 49 = .ok (.ireturn, 1) := by decide +kernel
theorem dX11_matched_0 : decode cX11_matched 0 = .ok (.iload_n 1, 1) := by decide +kernel
theorem dX11_matched_1 : decode cX11_matched 1 = .ok (.ifCond .lt 18, 3) := by decide +kernel
theorem dX11_matched_4 : decode cX11_matched 4 = .ok (.iload_n 1, 1) := by decide +kernel
theorem dX11_matched_5 : decode cX11_matched 5 = .ok (.aload_n 0, 1) := by decide +kernel
theorem dX11_matched_6 : decode cX11_matched 6 = .ok (.getfield 89, 3) := by decide +kernel
theorem dX11_matched_9 : decode cX11_matched 9 = .ok (.invokevirtual 158, 3) := by decide +kernel
theorem dX11_matched_12 : decode cX11_matched 12 = .ok (.if_icmp .ge 7, 3) := by decide +kernel
theorem dX11_matched_15 : decode cX11_matched 15 = .ok (.iconst 1, 1) := by decide +kernel
theorem dX11_matched_16 : decode cX11_matched 16 = .ok (.goto 4, 3) := by decide +kernel
theorem dX11_matched_19 : decode cX11_matched 19 = .ok (.iconst 0, 1) := by decide +kernel
theorem dX11_matched_20 : decode cX11_matched 20 = .ok (.invokestatic 139, 3) := by decide +kernel
theorem dX11_matched_23 : decode cX11_matched 23 = .ok (.aload_n 0, 1) := by decide +kernel
theorem dX11_matched_24 : decode cX11_matched 24 = .ok (.invokevirtual 175, 3) := by decide +kernel
theorem dX11_matched_27 : decode cX11_matched 27 = .ok (.aload_n 0, 1) := by decide +kernel
theorem dX11_matched_28 : decode cX11_matched 28 = .ok (.getfield 89, 3) := by decide +kernel
theorem dX11_matched_31 : decode cX11_matched 31 = .ok (.invokevirtual 301, 3) := by decide +kernel
theorem dX11_matched_34 : decode cX11_matched 34 = .ok (.aload_n 0, 1) := by decide +kernel
theorem dX11_matched_35 : decode cX11_matched 35 = .ok (.getfield 89, 3) := by decide +kernel
theorem dX11_matched_38 : decode cX11_matched 38 = .ok (.iload_n 1, 1) := by decide +kernel
theorem dX11_matched_39 : decode cX11_matched 39 = .ok (.invokevirtual 310, 3) := by decide +kernel
theorem dX11_matched_42 : decode cX11_matched 42 = .ok (.ireturn, 1) := by decide +kernel
theorem dX11_marks_0 : decode cX11_marks 0 = .ok (.aload_n 0, 1) := by decide +kernel
theorem dX11_marks_1 : decode cX11_marks 1 = .ok (.invokevirtual 253, 3) := by decide +kernel
theorem dX11_marks_4 : decode cX11_marks 4 = .ok (.aload_n 0, 1) := by decide +kernel
theorem dX11_marks_5 : decode cX11_marks 5 = .ok (.getfield 80, 3) := by decide +kernel
theorem dX11_marks_8 : decode cX11_marks 8 = .ok (.invokevirtual 313, 3) := by decide +kernel
theorem dX11_marks_11 : decode cX11_marks 11 = .ok (.ireturn, 1) := by decide +kernel
theorem dX11_mark_0 : decode cX11_mark 0 = .ok (.aload_n 0, 1) := by decide +kernel
theorem dX11_mark_1 : decode cX11_mark 1 = .ok (.invokevirtual 253, 3) := by decide +kernel
theorem dX11_mark_4 : decode cX11_mark 4 = .ok (.aload_n 0, 1) := by decide +kernel
theorem dX11_mark_5 : decode cX11_mark 5 = .ok (.getfield 80, 3) := by decide +kernel
theorem dX11_mark_8 : decode cX11_mark 8 = .ok (.iload_n 1, 1) := by decide +kernel
theorem dX11_mark_9 : decode cX11_mark 9 = .ok (.invokevirtual 314, 3) := by decide +kernel
theorem dX11_mark_12 : decode cX11_mark 12 = .ok (.invokestatic 139, 3) := by decide +kernel
theorem dX11_mark_15 : decode cX11_mark 15 = .ok (.aload_n 0, 1) := by decide +kernel
theorem dX11_mark_16 : decode cX11_mark 16 = .ok (.getfield 80, 3) := by decide +kernel
theorem dX11_mark_19 : decode cX11_mark 19 = .ok (.iload_n 1, 1) := by decide +kernel
theorem dX11_mark_20 : decode cX11_mark 20 = .ok (.invokevirtual 315, 3) := by decide +kernel
theorem dX11_mark_23 : decode cX11_mark 23 = .ok (.ireturn, 1) := by decide +kernel
theorem dX11_near_0 : decode cX11_near 0 = .ok (.aload_n 0, 1) := by decide +kernel
theorem dX11_near_1 : decode cX11_near 1 = .ok (.invokevirtual 253, 3) := by decide +kernel
theorem dX11_near_4 : decode cX11_near 4 = .ok (.aload_n 0, 1) := by decide +kernel
theorem dX11_near_5 : decode cX11_near 5 = .ok (.getfield 80, 3) := by decide +kernel
theorem dX11_near_8 : decode cX11_near 8 = .ok (.iload_n 1, 1) := by decide +kernel
theorem dX11_near_9 : decode cX11_near 9 = .ok (.iconst 0, 1) := by decide +kernel
theorem dX11_near_10 : decode cX11_near 10 = .ok (.aload_n 0, 1) := by decide +kernel
theorem dX11_near_11 : decode cX11_near 11 = .ok (.getfield 80, 3) := by decide +kernel
theorem dX11_near_14 : decode cX11_near 14 = .ok (.invokevirtual 313, 3) := by decide +kernel
theorem dX11_near_17 : decode cX11_near 17 = .ok (.invokevirtual 316, 3) := by decide +kernel
theorem dX11_near_20 : decode cX11_near 20 = .ok (.istore_n 2, 1) := by decide +kernel
theorem dX11_near_21 : decode cX11_near 21 = .ok (.iload_n 2, 1) := by decide +kernel
theorem dX11_near_22 : decode cX11_near 22 = .ok (.iconst (-1), 1) := by decide +kernel
theorem dX11_near_23 : decode cX11_near 23 = .ok (.if_icmp .ne 7, 3) := by decide +kernel
theorem dX11_near_26 : decode cX11_near 26 = .ok (.iconst (-1), 1) := by decide +kernel
theorem dX11_near_27 : decode cX11_near 27 = .ok (.goto 11, 3) := by decide +kernel
theorem dX11_near_30 : decode cX11_near 30 = .ok (.aload_n 0, 1) := by decide +kernel
theorem dX11_near_31 : decode cX11_near 31 = .ok (.getfield 80, 3) := by decide +kernel
theorem dX11_near_34 : decode cX11_near 34 = .ok (.iload_n 2, 1) := by decide +kernel
theorem dX11_near_35 : decode cX11_near 35 = .ok (.invokevirtual 315, 3) := by decide +kernel
theorem dX11_near_38 : decode cX11_near 38 = .ok (.ireturn, 1) := by decide +kernel
theorem dX11_behind_0 : decode cX11_behind 0 = .ok (.aload_n 0, 1) := by decide +kernel
theorem dX11_behind_1 : decode cX11_behind 1 = .ok (.invokevirtual 253, 3) := by decide +kernel
theorem dX11_behind_4 : decode cX11_behind 4 = .ok (.iconst 0, 1) := by decide +kernel
theorem dX11_behind_5 : decode cX11_behind 5 = .ok (.istore_n 2, 1) := by decide +kernel
theorem dX11_behind_6 : decode cX11_behind 6 = .ok (.iload_n 2, 1) := by decide +kernel
theorem dX11_behind_7 : decode cX11_behind 7 = .ok (.aload_n 0, 1) := by decide +kernel
theorem dX11_behind_8 : decode cX11_behind 8 = .ok (.getfield 80, 3) := by decide +kernel
theorem dX11_behind_11 : decode cX11_behind 11 = .ok (.invokevirtual 313, 3) := by decide +kernel
theorem dX11_behind_14 : decode cX11_behind 14 = .ok (.if_icmp .ge 30, 3) := by decide +kernel
theorem dX11_behind_17 : decode cX11_behind 17 = .ok (.aload_n 0, 1) := by decide +kernel
theorem dX11_behind_18 : decode cX11_behind 18 = .ok (.getfield 80, 3) := by decide +kernel
theorem dX11_behind_21 : decode cX11_behind 21 = .ok (.iload_n 2, 1) := by decide +kernel
theorem dX11_behind_22 : decode cX11_behind 22 = .ok (.invokevirtual 315, 3) := by decide +kernel
theorem dX11_behind_25 : decode cX11_behind 25 = .ok (.iload_n 1, 1) := by decide +kernel
theorem dX11_behind_26 : decode cX11_behind 26 = .ok (.if_icmp .le 12, 3) := by decide +kernel
theorem dX11_behind_29 : decode cX11_behind 29 = .ok (.aload_n 0, 1) := by decide +kernel
theorem dX11_behind_30 : decode cX11_behind 30 = .ok (.getfield 80, 3) := by decide +kernel
theorem dX11_behind_33 : decode cX11_behind 33 = .ok (.iload_n 2, 1) := by decide +kernel
theorem dX11_behind_34 : decode cX11_behind 34 = .ok (.invokevirtual 315, 3) := by decide +kernel
theorem dX11_behind_37 : decode cX11_behind 37 = .ok (.ireturn, 1) := by decide +kernel
theorem dX11_behind_38 : decode cX11_behind 38 = .ok (.iinc 2 1, 3) := by decide +kernel
theorem dX11_behind_41 : decode cX11_behind 41 = .ok (.goto (-35), 3) := by decide +kernel
theorem dX11_behind_44 : decode cX11_behind 44 = .ok (.iconst (-1), 1) := by decide +kernel
theorem dX11_behind_45 : decode cX11_behind 45 = .ok (.ireturn, 1) := by decide +kernel
theorem dX11_gaps_0 : decode cX11_gaps 0 = .ok (.iload_n 1, 1) := by decide +kernel
theorem dX11_gaps_1 : decode cX11_gaps 1 = .ok (.ifCond .lt 12, 3) := by decide +kernel
theorem dX11_gaps_4 : decode cX11_gaps 4 = .ok (.iload_n 1, 1) := by decide +kernel
theorem dX11_gaps_5 : decode cX11_gaps 5 = .ok (.iconst 4, 1) := by decide +kernel
theorem dX11_gaps_6 : decode cX11_gaps 6 = .ok (.if_icmp .gt 7, 3) := by decide +kernel
theorem dX11_gaps_9 : decode cX11_gaps 9 = .ok (.iconst 1, 1) := by decide +kernel
theorem dX11_gaps_10 : decode cX11_gaps 10 = .ok (.goto 4, 3) := by decide +kernel
theorem dX11_gaps_13 : decode cX11_gaps 13 = .ok (.iconst 0, 1) := by decide +kernel
theorem dX11_gaps_14 : decode cX11_gaps 14 = .ok (.invokestatic 139, 3) := by decide +kernel
theorem dX11_gaps_17 : decode cX11_gaps 17 = .ok (.aload_n 0, 1) := by decide +kernel
theorem dX11_gaps_18 : decode cX11_gaps 18 = .ok (.invokevirtual 253, 3) := by decide +kernel
theorem dX11_gaps_21 : decode cX11_gaps 21 = .ok (.iload_n 1, 1) := by decide +kernel
theorem dX11_gaps_22 : decode cX11_gaps 22 = .ok (.tableswitch 62 0 3 #[30, 38, 46, 54], 30) := by decide +kernel
theorem dX11_gaps_52 : decode cX11_gaps 52 = .ok (.aload_n 0, 1) := by decide +kernel
theorem dX11_gaps_53 : decode cX11_gaps 53 = .ok (.getfield 80, 3) := by decide +kernel
theorem dX11_gaps_56 : decode cX11_gaps 56 = .ok (.invokevirtual 320, 3) := by decide +kernel
theorem dX11_gaps_59 : decode cX11_gaps 59 = .ok (.ireturn, 1) := by decide +kernel
theorem dX11_gaps_60 : decode cX11_gaps 60 = .ok (.aload_n 0, 1) := by decide +kernel
theorem dX11_gaps_61 : decode cX11_gaps 61 = .ok (.getfield 80, 3) := by decide +kernel
theorem dX11_gaps_64 : decode cX11_gaps 64 = .ok (.invokevirtual 323, 3) := by decide +kernel
theorem dX11_gaps_67 : decode cX11_gaps 67 = .ok (.ireturn, 1) := by decide +kernel
theorem dX11_gaps_68 : decode cX11_gaps 68 = .ok (.aload_n 0, 1) := by decide +kernel
theorem dX11_gaps_69 : decode cX11_gaps 69 = .ok (.getfield 80, 3) := by decide +kernel
theorem dX11_gaps_72 : decode cX11_gaps 72 = .ok (.invokevirtual 326, 3) := by decide +kernel
theorem dX11_gaps_75 : decode cX11_gaps 75 = .ok (.ireturn, 1) := by decide +kernel
theorem dX11_gaps_76 : decode cX11_gaps 76 = .ok (.aload_n 0, 1) := by decide +kernel
theorem dX11_gaps_77 : decode cX11_gaps 77 = .ok (.getfield 80, 3) := by decide +kernel
theorem dX11_gaps_80 : decode cX11_gaps 80 = .ok (.invokevirtual 329, 3) := by decide +kernel
theorem dX11_gaps_83 : decode cX11_gaps 83 = .ok (.ireturn, 1) := by decide +kernel
theorem dX11_gaps_84 : decode cX11_gaps 84 = .ok (.aload_n 0, 1) := by decide +kernel
theorem dX11_gaps_85 : decode cX11_gaps 85 = .ok (.getfield 80, 3) := by decide +kernel
theorem dX11_gaps_88 : decode cX11_gaps 88 = .ok (.invokevirtual 332, 3) := by decide +kernel
theorem dX11_gaps_91 : decode cX11_gaps 91 = .ok (.ireturn, 1) := by decide +kernel
theorem dX11_rough_0 : decode cX11_rough 0 = .ok (.aload_n 0, 1) := by decide +kernel
theorem dX11_rough_1 : decode cX11_rough 1 = .ok (.invokevirtual 253, 3) := by decide +kernel
theorem dX11_rough_4 : decode cX11_rough 4 = .ok (.aload_n 0, 1) := by decide +kernel
theorem dX11_rough_5 : decode cX11_rough 5 = .ok (.getfield 80, 3) := by decide +kernel
theorem dX11_rough_8 : decode cX11_rough 8 = .ok (.iload_n 1, 1) := by decide +kernel
theorem dX11_rough_9 : decode cX11_rough 9 = .ok (.invokevirtual 314, 3) := by decide +kernel
theorem dX11_rough_12 : decode cX11_rough 12 = .ok (.invokestatic 139, 3) := by decide +kernel
theorem dX11_rough_15 : decode cX11_rough 15 = .ok (.aload_n 0, 1) := by decide +kernel
theorem dX11_rough_16 : decode cX11_rough 16 = .ok (.getfield 80, 3) := by decide +kernel
theorem dX11_rough_19 : decode cX11_rough 19 = .ok (.iload_n 1, 1) := by decide +kernel
theorem dX11_rough_20 : decode cX11_rough 20 = .ok (.invokevirtual 335, 3) := by decide +kernel
theorem dX11_rough_23 : decode cX11_rough 23 = .ok (.ireturn, 1) := by decide +kernel
theorem dX11_roughest_0 : decode cX11_roughest 0 = .ok (.aload_n 0, 1) := by decide +kernel
theorem dX11_roughest_1 : decode cX11_roughest 1 = .ok (.invokevirtual 253, 3) := by decide +kernel
theorem dX11_roughest_4 : decode cX11_roughest 4 = .ok (.iconst (-1), 1) := by decide +kernel
theorem dX11_roughest_5 : decode cX11_roughest 5 = .ok (.istore_n 1, 1) := by decide +kernel
theorem dX11_roughest_6 : decode cX11_roughest 6 = .ok (.iconst (-1), 1) := by decide +kernel
theorem dX11_roughest_7 : decode cX11_roughest 7 = .ok (.istore_n 2, 1) := by decide +kernel
theorem dX11_roughest_8 : decode cX11_roughest 8 = .ok (.iconst 0, 1) := by decide +kernel
theorem dX11_roughest_9 : decode cX11_roughest 9 = .ok (.istore_n 3, 1) := by decide +kernel
theorem dX11_roughest_10 : decode cX11_roughest 10 = .ok (.iload_n 3, 1) := by decide +kernel
theorem dX11_roughest_11 : decode cX11_roughest 11 = .ok (.aload_n 0, 1) := by decide +kernel
theorem dX11_roughest_12 : decode cX11_roughest 12 = .ok (.getfield 80, 3) := by decide +kernel
theorem dX11_roughest_15 : decode cX11_roughest 15 = .ok (.invokevirtual 313, 3) := by decide +kernel
theorem dX11_roughest_18 : decode cX11_roughest 18 = .ok (.if_icmp .ge 30, 3) := by decide +kernel
theorem dX11_roughest_21 : decode cX11_roughest 21 = .ok (.aload_n 0, 1) := by decide +kernel
theorem dX11_roughest_22 : decode cX11_roughest 22 = .ok (.getfield 80, 3) := by decide +kernel
theorem dX11_roughest_25 : decode cX11_roughest 25 = .ok (.iload_n 3, 1) := by decide +kernel
theorem dX11_roughest_26 : decode cX11_roughest 26 = .ok (.invokevirtual 335, 3) := by decide +kernel
theorem dX11_roughest_29 : decode cX11_roughest 29 = .ok (.istore 4, 2) := by decide +kernel
theorem dX11_roughest_31 : decode cX11_roughest 31 = .ok (.iload 4, 2) := by decide +kernel
theorem dX11_roughest_33 : decode cX11_roughest 33 = .ok (.iload_n 2, 1) := by decide +kernel
theorem dX11_roughest_34 : decode cX11_roughest 34 = .ok (.if_icmp .le 8, 3) := by decide +kernel
theorem dX11_roughest_37 : decode cX11_roughest 37 = .ok (.iload 4, 2) := by decide +kernel
theorem dX11_roughest_39 : decode cX11_roughest 39 = .ok (.istore_n 2, 1) := by decide +kernel
theorem dX11_roughest_40 : decode cX11_roughest 40 = .ok (.iload_n 3, 1) := by decide +kernel
theorem dX11_roughest_41 : decode cX11_roughest 41 = .ok (.istore_n 1, 1) := by decide +kernel
theorem dX11_roughest_42 : decode cX11_roughest 42 = .ok (.iinc 3 1, 3) := by decide +kernel
theorem dX11_roughest_45 : decode cX11_roughest 45 = .ok (.goto (-35), 3) := by decide +kernel
theorem dX11_roughest_48 : decode cX11_roughest 48 = .ok (.iload_n 1, 1) := by decide +kernel
theorem dX11_roughest_49 : decode cX11_roughest 49 = .ok (.ireturn, 1) := by decide +kernel
theorem dX11_mean_0 : decode cX11_mean 0 = .ok (.aload_n 0, 1) := by decide +kernel
theorem dX11_mean_1 : decode cX11_mean 1 = .ok (.invokevirtual 253, 3) := by decide +kernel
theorem dX11_mean_4 : decode cX11_mean 4 = .ok (.aload_n 0, 1) := by decide +kernel
theorem dX11_mean_5 : decode cX11_mean 5 = .ok (.getfield 80, 3) := by decide +kernel
theorem dX11_mean_8 : decode cX11_mean 8 = .ok (.invokevirtual 320, 3) := by decide +kernel
theorem dX11_mean_11 : decode cX11_mean 11 = .ok (.ifCond .le 7, 3) := by decide +kernel
theorem dX11_mean_14 : decode cX11_mean 14 = .ok (.iconst 1, 1) := by decide +kernel
theorem dX11_mean_15 : decode cX11_mean 15 = .ok (.goto 4, 3) := by decide +kernel
theorem dX11_mean_18 : decode cX11_mean 18 = .ok (.iconst 0, 1) := by decide +kernel
theorem dX11_mean_19 : decode cX11_mean 19 = .ok (.invokestatic 139, 3) := by decide +kernel
theorem dX11_mean_22 : decode cX11_mean 22 = .ok (.aload_n 0, 1) := by decide +kernel
theorem dX11_mean_23 : decode cX11_mean 23 = .ok (.getfield 80, 3) := by decide +kernel
theorem dX11_mean_26 : decode cX11_mean 26 = .ok (.invokevirtual 338, 3) := by decide +kernel
theorem dX11_mean_29 : decode cX11_mean 29 = .ok (.aload_n 0, 1) := by decide +kernel
theorem dX11_mean_30 : decode cX11_mean 30 = .ok (.getfield 80, 3) := by decide +kernel
theorem dX11_mean_33 : decode cX11_mean 33 = .ok (.invokevirtual 320, 3) := by decide +kernel
theorem dX11_mean_36 : decode cX11_mean 36 = .ok (.iload_n 1, 1) := by decide +kernel
theorem dX11_mean_37 : decode cX11_mean 37 = .ok (.invokestatic 195, 3) := by decide +kernel
theorem dX11_mean_40 : decode cX11_mean 40 = .ok (.ireturn, 1) := by decide +kernel
theorem dX11_anew_0 : decode cX11_anew 0 = .ok (.aload_n 0, 1) := by decide +kernel
theorem dX11_anew_1 : decode cX11_anew 1 = .ok (.getfield 10, 3) := by decide +kernel
theorem dX11_anew_4 : decode cX11_anew 4 = .ok (.iload_n 3, 1) := by decide +kernel
theorem dX11_anew_5 : decode cX11_anew 5 = .ok (.invokevirtual 125, 3) := by decide +kernel
theorem dX11_anew_8 : decode cX11_anew 8 = .ok (.invokestatic 139, 3) := by decide +kernel
theorem dX11_anew_11 : decode cX11_anew 11 = .ok (.iload_n 1, 1) := by decide +kernel
theorem dX11_anew_12 : decode cX11_anew 12 = .ok (.iconst 1, 1) := by decide +kernel
theorem dX11_anew_13 : decode cX11_anew 13 = .ok (.if_icmp .lt 22, 3) := by decide +kernel
theorem dX11_anew_16 : decode cX11_anew 16 = .ok (.iload_n 1, 1) := by decide +kernel
theorem dX11_anew_17 : decode cX11_anew 17 = .ok (.iconst 4, 1) := by decide +kernel
theorem dX11_anew_18 : decode cX11_anew 18 = .ok (.if_icmp .gt 17, 3) := by decide +kernel
theorem dX11_anew_21 : decode cX11_anew 21 = .ok (.iload_n 2, 1) := by decide +kernel
theorem dX11_anew_22 : decode cX11_anew 22 = .ok (.iconst 1, 1) := by decide +kernel
theorem dX11_anew_23 : decode cX11_anew 23 = .ok (.if_icmp .lt 12, 3) := by decide +kernel
theorem dX11_anew_26 : decode cX11_anew 26 = .ok (.iload_n 2, 1) := by decide +kernel
theorem dX11_anew_27 : decode cX11_anew 27 = .ok (.iconst 4, 1) := by decide +kernel
theorem dX11_anew_28 : decode cX11_anew 28 = .ok (.if_icmp .gt 7, 3) := by decide +kernel
theorem dX11_anew_31 : decode cX11_anew 31 = .ok (.iconst 1, 1) := by decide +kernel
theorem dX11_anew_32 : decode cX11_anew 32 = .ok (.goto 4, 3) := by decide +kernel
theorem dX11_anew_35 : decode cX11_anew 35 = .ok (.iconst 0, 1) := by decide +kernel
theorem dX11_anew_36 : decode cX11_anew 36 = .ok (.invokestatic 211, 3) := by decide +kernel
theorem dX11_anew_39 : decode cX11_anew 39 = .ok (.aload_n 0, 1) := by decide +kernel
theorem dX11_anew_40 : decode cX11_anew 40 = .ok (.invokevirtual 253, 3) := by decide +kernel
theorem dX11_anew_43 : decode cX11_anew 43 = .ok (.aload_n 0, 1) := by decide +kernel
theorem dX11_anew_44 : decode cX11_anew 44 = .ok (.getfield 80, 3) := by decide +kernel
theorem dX11_anew_47 : decode cX11_anew 47 = .ok (.iload_n 1, 1) := by decide +kernel
theorem dX11_anew_48 : decode cX11_anew 48 = .ok (.iload_n 2, 1) := by decide +kernel
theorem dX11_anew_49 : decode cX11_anew 49 = .ok (.iload_n 3, 1) := by decide +kernel
theorem dX11_anew_50 : decode cX11_anew 50 = .ok (.invokevirtual 341, 3) := by decide +kernel
theorem dX11_anew_53 : decode cX11_anew 53 = .ok (.ireturn, 1) := by decide +kernel
theorem dX11_need_0 : decode cX11_need 0 = .ok (.iload_n 0, 1) := by decide +kernel
theorem dX11_need_1 : decode cX11_need 1 = .ok (.ifCond .ne 14, 3) := by decide +kernel
theorem dX11_need_4 : decode cX11_need 4 = .ok (.new 344, 3) := by decide +kernel
theorem dX11_need_7 : decode cX11_need 7 = .ok (.dup, 1) := by decide +kernel
theorem dX11_need_8 : decode cX11_need 8 = .ok (.ldc_w 346, 3) := by decide +kernel
theorem dX11_need_11 : decode cX11_need 11 = .ok (.invokespecial 348, 3) := by decide +kernel
theorem dX11_need_14 : decode cX11_need 14 = .ok (.athrow, 1) := by decide +kernel
theorem dX11_need_15 : decode cX11_need 15 = .ok (.return_, 1) := by decide +kernel
theorem dX11_allow_0 : decode cX11_allow 0 = .ok (.iload_n 0, 1) := by decide +kernel
theorem dX11_allow_1 : decode cX11_allow 1 = .ok (.ifCond .ne 14, 3) := by decide +kernel
theorem dX11_allow_4 : decode cX11_allow 4 = .ok (.new 351, 3) := by decide +kernel
theorem dX11_allow_7 : decode cX11_allow 7 = .ok (.dup, 1) := by decide +kernel
theorem dX11_allow_8 : decode cX11_allow 8 = .ok (.ldc_w 353, 3) := by decide +kernel
theorem dX11_allow_11 : decode cX11_allow 11 = .ok (.invokespecial 355, 3) := by decide +kernel
theorem dX11_allow_14 : decode cX11_allow 14 = .ok (.athrow, 1) := by decide +kernel
theorem dX11_allow_15 : decode cX11_allow 15 = .ok (.return_, 1) := by decide +kernel
theorem dX11_isLag_0 : decode cX11_isLag 0 = .ok (.iload_n 1, 1) := by decide +kernel
theorem dX11_isLag_1 : decode cX11_isLag 1 = .ok (.ifCond .lt 21, 3) := by decide +kernel
theorem dX11_isLag_4 : decode cX11_isLag 4 = .ok (.iload_n 1, 1) := by decide +kernel
theorem dX11_isLag_5 : decode cX11_isLag 5 = .ok (.aload_n 0, 1) := by decide +kernel
theorem dX11_isLag_6 : decode cX11_isLag 6 = .ok (.getfield 19, 3) := by decide +kernel
theorem dX11_isLag_9 : decode cX11_isLag 9 = .ok (.iconst 5, 1) := by decide +kernel
theorem dX11_isLag_10 : decode cX11_isLag 10 = .ok (.invokevirtual 147, 3) := by decide +kernel
theorem dX11_isLag_13 : decode cX11_isLag 13 = .ok (.iconst 1, 1) := by decide +kernel
theorem dX11_isLag_14 : decode cX11_isLag 14 = .ok (.iadd, 1) := by decide +kernel
theorem dX11_isLag_15 : decode cX11_isLag 15 = .ok (.if_icmp .gt 7, 3) := by decide +kernel
theorem dX11_isLag_18 : decode cX11_isLag 18 = .ok (.iconst 1, 1) := by decide +kernel
theorem dX11_isLag_19 : decode cX11_isLag 19 = .ok (.goto 4, 3) := by decide +kernel
theorem dX11_isLag_22 : decode cX11_isLag 22 = .ok (.iconst 0, 1) := by decide +kernel
theorem dX11_isLag_23 : decode cX11_isLag 23 = .ok (.ireturn, 1) := by decide +kernel
theorem dX11_isHeight_0 : decode cX11_isHeight 0 = .ok (.iload_n 0, 1) := by decide +kernel
theorem dX11_isHeight_1 : decode cX11_isHeight 1 = .ok (.ifCond .lt 13, 3) := by decide +kernel
theorem dX11_isHeight_4 : decode cX11_isHeight 4 = .ok (.iload_n 0, 1) := by decide +kernel
theorem dX11_isHeight_5 : decode cX11_isHeight 5 = .ok (.bipush 127, 2) := by decide +kernel
theorem dX11_isHeight_7 : decode cX11_isHeight 7 = .ok (.if_icmp .gt 7, 3) := by decide +kernel
theorem dX11_isHeight_10 : decode cX11_isHeight 10 = .ok (.iconst 1, 1) := by decide +kernel
theorem dX11_isHeight_11 : decode cX11_isHeight 11 = .ok (.goto 4, 3) := by decide +kernel
theorem dX11_isHeight_14 : decode cX11_isHeight 14 = .ok (.iconst 0, 1) := by decide +kernel
theorem dX11_isHeight_15 : decode cX11_isHeight 15 = .ok (.ireturn, 1) := by decide +kernel
theorem dX11_changedFrom_0 : decode cX11_changedFrom 0 = .ok (.aload_n 0, 1) := by decide +kernel
theorem dX11_changedFrom_1 : decode cX11_changedFrom 1 = .ok (.getfield 28, 3) := by decide +kernel
theorem dX11_changedFrom_4 : decode cX11_changedFrom 4 = .ok (.iload_n 1, 1) := by decide +kernel
theorem dX11_changedFrom_5 : decode cX11_changedFrom 5 = .ok (.iload_n 2, 1) := by decide +kernel
theorem dX11_changedFrom_6 : decode cX11_changedFrom 6 = .ok (.invokevirtual 356, 3) := by decide +kernel
theorem dX11_changedFrom_9 : decode cX11_changedFrom 9 = .ok (.aload_n 0, 1) := by decide +kernel
theorem dX11_changedFrom_10 : decode cX11_changedFrom 10 = .ok (.invokevirtual 154, 3) := by decide +kernel
theorem dX11_changedFrom_13 : decode cX11_changedFrom 13 = .ok (.aload_n 0, 1) := by decide +kernel
theorem dX11_changedFrom_14 : decode cX11_changedFrom 14 = .ok (.getfield 10, 3) := by decide +kernel
theorem dX11_changedFrom_17 : decode cX11_changedFrom 17 = .ok (.invokevirtual 105, 3) := by decide +kernel
theorem dX11_changedFrom_20 : decode cX11_changedFrom 20 = .ok (.ireturn, 1) := by decide +kernel
theorem dX11_forgetAnswers_0 : decode cX11_forgetAnswers 0 = .ok (.aload_n 0, 1) := by decide +kernel
theorem dX11_forgetAnswers_1 : decode cX11_forgetAnswers 1 = .ok (.iconst 0, 1) := by decide +kernel
theorem dX11_forgetAnswers_2 : decode cX11_forgetAnswers 2 = .ok (.putfield 359, 3) := by decide +kernel
theorem dX11_forgetAnswers_5 : decode cX11_forgetAnswers 5 = .ok (.aload_n 0, 1) := by decide +kernel
theorem dX11_forgetAnswers_6 : decode cX11_forgetAnswers 6 = .ok (.iconst 0, 1) := by decide +kernel
theorem dX11_forgetAnswers_7 : decode cX11_forgetAnswers 7 = .ok (.putfield 363, 3) := by decide +kernel
theorem dX11_forgetAnswers_10 : decode cX11_forgetAnswers 10 = .ok (.aload_n 0, 1) := by decide +kernel
theorem dX11_forgetAnswers_11 : decode cX11_forgetAnswers 11 = .ok (.iconst 0, 1) := by decide +kernel
theorem dX11_forgetAnswers_12 : decode cX11_forgetAnswers 12 = .ok (.putfield 366, 3) := by decide +kernel
theorem dX11_forgetAnswers_15 : decode cX11_forgetAnswers 15 = .ok (.return_, 1) := by decide +kernel
theorem dX11_findPath_0 : decode cX11_findPath 0 = .ok (.aload_n 0, 1) := by decide +kernel
theorem dX11_findPath_1 : decode cX11_findPath 1 = .ok (.getfield 359, 3) := by decide +kernel
theorem dX11_findPath_4 : decode cX11_findPath 4 = .ok (.ifCond .eq 4, 3) := by decide +kernel
theorem dX11_findPath_7 : decode cX11_findPath 7 = .ok (.return_, 1) := by decide +kernel
theorem dX11_findPath_8 : decode cX11_findPath 8 = .ok (.aload_n 0, 1) := by decide +kernel
theorem dX11_findPath_9 : decode cX11_findPath 9 = .ok (.getfield 28, 3) := by decide +kernel
theorem dX11_findPath_12 : decode cX11_findPath 12 = .ok (.invokevirtual 369, 3) := by decide +kernel
theorem dX11_findPath_15 : decode cX11_findPath 15 = .ok (.aload_n 0, 1) := by decide +kernel
theorem dX11_findPath_16 : decode cX11_findPath 16 = .ok (.getfield 37, 3) := by decide +kernel
theorem dX11_findPath_19 : decode cX11_findPath 19 = .ok (.invokevirtual 372, 3) := by decide +kernel
theorem dX11_findPath_22 : decode cX11_findPath 22 = .ok (.aload_n 0, 1) := by decide +kernel
theorem dX11_findPath_23 : decode cX11_findPath 23 = .ok (.getfield 46, 3) := by decide +kernel
theorem dX11_findPath_26 : decode cX11_findPath 26 = .ok (.invokevirtual 373, 3) := by decide +kernel
theorem dX11_findPath_29 : decode cX11_findPath 29 = .ok (.aload_n 0, 1) := by decide +kernel
theorem dX11_findPath_30 : decode cX11_findPath 30 = .ok (.getfield 62, 3) := by decide +kernel
theorem dX11_findPath_33 : decode cX11_findPath 33 = .ok (.invokevirtual 374, 3) := by decide +kernel
theorem dX11_findPath_36 : decode cX11_findPath 36 = .ok (.aload_n 0, 1) := by decide +kernel
theorem dX11_findPath_37 : decode cX11_findPath 37 = .ok (.getfield 71, 3) := by decide +kernel
theorem dX11_findPath_40 : decode cX11_findPath 40 = .ok (.invokevirtual 375, 3) := by decide +kernel
theorem dX11_findPath_43 : decode cX11_findPath 43 = .ok (.aload_n 0, 1) := by decide +kernel
theorem dX11_findPath_44 : decode cX11_findPath 44 = .ok (.iconst 1, 1) := by decide +kernel
theorem dX11_findPath_45 : decode cX11_findPath 45 = .ok (.putfield 359, 3) := by decide +kernel
theorem dX11_findPath_48 : decode cX11_findPath 48 = .ok (.return_, 1) := by decide +kernel
theorem dX11_findRanking_0 : decode cX11_findRanking 0 = .ok (.aload_n 0, 1) := by decide +kernel
theorem dX11_findRanking_1 : decode cX11_findRanking 1 = .ok (.invokevirtual 175, 3) := by decide +kernel
theorem dX11_findRanking_4 : decode cX11_findRanking 4 = .ok (.aload_n 0, 1) := by decide +kernel
theorem dX11_findRanking_5 : decode cX11_findRanking 5 = .ok (.getfield 363, 3) := by decide +kernel
theorem dX11_findRanking_8 : decode cX11_findRanking 8 = .ok (.ifCond .ne 15, 3) := by decide +kernel
theorem dX11_findRanking_11 : decode cX11_findRanking 11 = .ok (.aload_n 0, 1) := by decide +kernel
theorem dX11_findRanking_12 : decode cX11_findRanking 12 = .ok (.getfield 53, 3) := by decide +kernel
theorem dX11_findRanking_15 : decode cX11_findRanking 15 = .ok (.invokevirtual 376, 3) := by decide +kernel
theorem dX11_findRanking_18 : decode cX11_findRanking 18 = .ok (.aload_n 0, 1) := by decide +kernel
theorem dX11_findRanking_19 : decode cX11_findRanking 19 = .ok (.iconst 1, 1) := by decide +kernel
theorem dX11_findRanking_20 : decode cX11_findRanking 20 = .ok (.putfield 363, 3) := by decide +kernel
theorem dX11_findRanking_23 : decode cX11_findRanking 23 = .ok (.return_, 1) := by decide +kernel
theorem dX11_findMarks_0 : decode cX11_findMarks 0 = .ok (.aload_n 0, 1) := by decide +kernel
theorem dX11_findMarks_1 : decode cX11_findMarks 1 = .ok (.invokevirtual 175, 3) := by decide +kernel
theorem dX11_findMarks_4 : decode cX11_findMarks 4 = .ok (.aload_n 0, 1) := by decide +kernel
theorem dX11_findMarks_5 : decode cX11_findMarks 5 = .ok (.getfield 366, 3) := by decide +kernel
theorem dX11_findMarks_8 : decode cX11_findMarks 8 = .ok (.ifCond .ne 15, 3) := by decide +kernel
theorem dX11_findMarks_11 : decode cX11_findMarks 11 = .ok (.aload_n 0, 1) := by decide +kernel
theorem dX11_findMarks_12 : decode cX11_findMarks 12 = .ok (.getfield 80, 3) := by decide +kernel
theorem dX11_findMarks_15 : decode cX11_findMarks 15 = .ok (.invokevirtual 377, 3) := by decide +kernel
theorem dX11_findMarks_18 : decode cX11_findMarks 18 = .ok (.aload_n 0, 1) := by decide +kernel
theorem dX11_findMarks_19 : decode cX11_findMarks 19 = .ok (.iconst 1, 1) := by decide +kernel
theorem dX11_findMarks_20 : decode cX11_findMarks 20 = .ok (.putfield 366, 3) := by decide +kernel
theorem dX11_findMarks_23 : decode cX11_findMarks 23 = .ok (.return_, 1) := by decide +kernel
theorem dX11_quotient_0 : decode cX11_quotient 0 = .ok (.iload_n 1, 1) := by decide +kernel
theorem dX11_quotient_1 : decode cX11_quotient 1 = .ok (.ifCond .gt 7, 3) := by decide +kernel
theorem dX11_quotient_4 : decode cX11_quotient 4 = .ok (.iconst 0, 1) := by decide +kernel
theorem dX11_quotient_5 : decode cX11_quotient 5 = .ok (.goto 8, 3) := by decide +kernel
theorem dX11_quotient_8 : decode cX11_quotient 8 = .ok (.iload_n 0, 1) := by decide +kernel
theorem dX11_quotient_9 : decode cX11_quotient 9 = .ok (.iload_n 1, 1) := by decide +kernel
theorem dX11_quotient_10 : decode cX11_quotient 10 = .ok (.invokestatic 378, 3) := by decide +kernel
theorem dX11_quotient_13 : decode cX11_quotient 13 = .ok (.ireturn, 1) := by decide +kernel
theorem dX11_lowest_0 : decode cX11_lowest 0 = .ok (.iload_n 0, 1) := by decide +kernel
theorem dX11_lowest_1 : decode cX11_lowest 1 = .ok (.invokestatic 383, 3) := by decide +kernel
theorem dX11_lowest_4 : decode cX11_lowest 4 = .ok (.iload_n 1, 1) := by decide +kernel
theorem dX11_lowest_5 : decode cX11_lowest 5 = .ok (.invokestatic 383, 3) := by decide +kernel
theorem dX11_lowest_8 : decode cX11_lowest 8 = .ok (.invokestatic 386, 3) := by decide +kernel
theorem dX11_lowest_11 : decode cX11_lowest 11 = .ok (.istore_n 3, 1) := by decide +kernel
theorem dX11_lowest_12 : decode cX11_lowest 12 = .ok (.iload_n 2, 1) := by decide +kernel
theorem dX11_lowest_13 : decode cX11_lowest 13 = .ok (.ifCond .eq 7, 3) := by decide +kernel
theorem dX11_lowest_16 : decode cX11_lowest 16 = .ok (.iload_n 1, 1) := by decide +kernel
theorem dX11_lowest_17 : decode cX11_lowest 17 = .ok (.goto 4, 3) := by decide +kernel
theorem dX11_lowest_20 : decode cX11_lowest 20 = .ok (.iload_n 0, 1) := by decide +kernel
theorem dX11_lowest_21 : decode cX11_lowest 21 = .ok (.iload_n 3, 1) := by decide +kernel
theorem dX11_lowest_22 : decode cX11_lowest 22 = .ok (.invokestatic 118, 3) := by decide +kernel
theorem dX11_lowest_25 : decode cX11_lowest 25 = .ok (.ireturn, 1) := by decide +kernel
theorem dX11_commonPart_0 : decode cX11_commonPart 0 = .ok (.iload_n 0, 1) := by decide +kernel
theorem dX11_commonPart_1 : decode cX11_commonPart 1 = .ok (.istore_n 2, 1) := by decide +kernel
theorem dX11_commonPart_2 : decode cX11_commonPart 2 = .ok (.iload_n 1, 1) := by decide +kernel
theorem dX11_commonPart_3 : decode cX11_commonPart 3 = .ok (.istore_n 3, 1) := by decide +kernel
theorem dX11_commonPart_4 : decode cX11_commonPart 4 = .ok (.iconst 0, 1) := by decide +kernel
theorem dX11_commonPart_5 : decode cX11_commonPart 5 = .ok (.istore 4, 2) := by decide +kernel
theorem dX11_commonPart_7 : decode cX11_commonPart 7 = .ok (.iload 4, 2) := by decide +kernel
theorem dX11_commonPart_9 : decode cX11_commonPart 9 = .ok (.bipush 64, 2) := by decide +kernel
theorem dX11_commonPart_11 : decode cX11_commonPart 11 = .ok (.if_icmp .ge 23, 3) := by decide +kernel
theorem dX11_commonPart_14 : decode cX11_commonPart 14 = .ok (.iload_n 3, 1) := by decide +kernel
theorem dX11_commonPart_15 : decode cX11_commonPart 15 = .ok (.ifCond .eq 19, 3) := by decide +kernel
theorem dX11_commonPart_18 : decode cX11_commonPart 18 = .ok (.iload_n 2, 1) := by decide +kernel
theorem dX11_commonPart_19 : decode cX11_commonPart 19 = .ok (.iload_n 3, 1) := by decide +kernel
theorem dX11_commonPart_20 : decode cX11_commonPart 20 = .ok (.irem, 1) := by decide +kernel
theorem dX11_commonPart_21 : decode cX11_commonPart 21 = .ok (.istore 5, 2) := by decide +kernel
theorem dX11_commonPart_23 : decode cX11_commonPart 23 = .ok (.iload_n 3, 1) := by decide +kernel
theorem dX11_commonPart_24 : decode cX11_commonPart 24 = .ok (.istore_n 2, 1) := by decide +kernel
theorem dX11_commonPart_25 : decode cX11_commonPart 25 = .ok (.iload 5, 2) := by decide +kernel
theorem dX11_commonPart_27 : decode cX11_commonPart 27 = .ok (.istore_n 3, 1) := by decide +kernel
theorem dX11_commonPart_28 : decode cX11_commonPart 28 = .ok (.iinc 4 1, 3) := by decide +kernel
theorem dX11_commonPart_31 : decode cX11_commonPart 31 = .ok (.goto (-24), 3) := by decide +kernel
theorem dX11_commonPart_34 : decode cX11_commonPart 34 = .ok (.iload_n 2, 1) := by decide +kernel
theorem dX11_commonPart_35 : decode cX11_commonPart 35 = .ok (.ireturn, 1) := by decide +kernel
theorem dX11_cell_0 : decode cX11_cell 0 = .ok (.iload_n 0, 1) := by decide +kernel
theorem dX11_cell_1 : decode cX11_cell 1 = .ok (.bipush 6, 2) := by decide +kernel
theorem dX11_cell_3 : decode cX11_cell 3 = .ok (.imul, 1) := by decide +kernel
theorem dX11_cell_4 : decode cX11_cell 4 = .ok (.iload_n 1, 1) := by decide +kernel
theorem dX11_cell_5 : decode cX11_cell 5 = .ok (.iadd, 1) := by decide +kernel
theorem dX11_cell_6 : decode cX11_cell 6 = .ok (.ireturn, 1) := by decide +kernel
theorem dX11_middleLag_0 : decode cX11_middleLag 0 = .ok (.iconst 0, 1) := by decide +kernel
theorem dX11_middleLag_1 : decode cX11_middleLag 1 = .ok (.istore_n 2, 1) := by decide +kernel
theorem dX11_middleLag_2 : decode cX11_middleLag 2 = .ok (.iconst 0, 1) := by decide +kernel
theorem dX11_middleLag_3 : decode cX11_middleLag 3 = .ok (.istore_n 3, 1) := by decide +kernel
theorem dX11_middleLag_4 : decode cX11_middleLag 4 = .ok (.iload_n 3, 1) := by decide +kernel
theorem dX11_middleLag_5 : decode cX11_middleLag 5 = .ok (.aload_n 0, 1) := by decide +kernel
theorem dX11_middleLag_6 : decode cX11_middleLag 6 = .ok (.arraylength, 1) := by decide +kernel
theorem dX11_middleLag_7 : decode cX11_middleLag 7 = .ok (.if_icmp .ge 26, 3) := by decide +kernel
theorem dX11_middleLag_10 : decode cX11_middleLag 10 = .ok (.iload_n 2, 1) := by decide +kernel
theorem dX11_middleLag_11 : decode cX11_middleLag 11 = .ok (.aload_n 0, 1) := by decide +kernel
theorem dX11_middleLag_12 : decode cX11_middleLag 12 = .ok (.iload_n 3, 1) := by decide +kernel
theorem dX11_middleLag_13 : decode cX11_middleLag 13 = .ok (.iaload, 1) := by decide +kernel
theorem dX11_middleLag_14 : decode cX11_middleLag 14 = .ok (.iadd, 1) := by decide +kernel
theorem dX11_middleLag_15 : decode cX11_middleLag 15 = .ok (.istore_n 2, 1) := by decide +kernel
theorem dX11_middleLag_16 : decode cX11_middleLag 16 = .ok (.iload_n 2, 1) := by decide +kernel
theorem dX11_middleLag_17 : decode cX11_middleLag 17 = .ok (.iload_n 1, 1) := by decide +kernel
theorem dX11_middleLag_18 : decode cX11_middleLag 18 = .ok (.iconst 1, 1) := by decide +kernel
theorem dX11_middleLag_19 : decode cX11_middleLag 19 = .ok (.isub, 1) := by decide +kernel
theorem dX11_middleLag_20 : decode cX11_middleLag 20 = .ok (.iconst 2, 1) := by decide +kernel
theorem dX11_middleLag_21 : decode cX11_middleLag 21 = .ok (.idiv, 1) := by decide +kernel
theorem dX11_middleLag_22 : decode cX11_middleLag 22 = .ok (.if_icmp .le 5, 3) := by decide +kernel
theorem dX11_middleLag_25 : decode cX11_middleLag 25 = .ok (.iload_n 3, 1) := by decide +kernel
theorem dX11_middleLag_26 : decode cX11_middleLag 26 = .ok (.ireturn, 1) := by decide +kernel
theorem dX11_middleLag_27 : decode cX11_middleLag 27 = .ok (.iinc 3 1, 3) := by decide +kernel
theorem dX11_middleLag_30 : decode cX11_middleLag 30 = .ok (.goto (-26), 3) := by decide +kernel
theorem dX11_middleLag_33 : decode cX11_middleLag 33 = .ok (.iconst (-1), 1) := by decide +kernel
theorem dX11_middleLag_34 : decode cX11_middleLag 34 = .ok (.ireturn, 1) := by decide +kernel
theorem dX12_init_0 : decode cX12_init 0 = .ok (.aload_n 0, 1) := by decide +kernel
theorem dX12_init_1 : decode cX12_init 1 = .ok (.invokespecial 1, 3) := by decide +kernel
theorem dX12_init_4 : decode cX12_init 4 = .ok (.aload_n 0, 1) := by decide +kernel
theorem dX12_init_5 : decode cX12_init 5 = .ok (.bipush 16, 2) := by decide +kernel
theorem dX12_init_7 : decode cX12_init 7 = .ok (.newarray .int, 2) := by decide +kernel
theorem dX12_init_9 : decode cX12_init 9 = .ok (.dup, 1) := by decide +kernel
theorem dX12_init_10 : decode cX12_init 10 = .ok (.iconst 0, 1) := by decide +kernel
theorem dX12_init_11 : decode cX12_init 11 = .ok (.iconst 0, 1) := by decide +kernel
theorem dX12_init_12 : decode cX12_init 12 = .ok (.iastore, 1) := by decide +kernel
theorem dX12_init_13 : decode cX12_init 13 = .ok (.dup, 1) := by decide +kernel
theorem dX12_init_14 : decode cX12_init 14 = .ok (.iconst 1, 1) := by decide +kernel
theorem dX12_init_15 : decode cX12_init 15 = .ok (.iconst 0, 1) := by decide +kernel
theorem dX12_init_16 : decode cX12_init 16 = .ok (.iastore, 1) := by decide +kernel
theorem dX12_init_17 : decode cX12_init 17 = .ok (.dup, 1) := by decide +kernel
theorem dX12_init_18 : decode cX12_init 18 = .ok (.iconst 2, 1) := by decide +kernel
theorem dX12_init_19 : decode cX12_init 19 = .ok (.bipush 10, 2) := by decide +kernel
theorem dX12_init_21 : decode cX12_init 21 = .ok (.iastore, 1) := by decide +kernel
theorem dX12_init_22 : decode cX12_init 22 = .ok (.dup, 1) := by decide +kernel
theorem dX12_init_23 : decode cX12_init 23 = .ok (.iconst 3, 1) := by decide +kernel
theorem dX12_init_24 : decode cX12_init 24 = .ok (.bipush 20, 2) := by decide +kernel
theorem dX12_init_26 : decode cX12_init 26 = .ok (.iastore, 1) := by decide +kernel
theorem dX12_init_27 : decode cX12_init 27 = .ok (.dup, 1) := by decide +kernel
theorem dX12_init_28 : decode cX12_init 28 = .ok (.iconst 4, 1) := by decide +kernel
theorem dX12_init_29 : decode cX12_init 29 = .ok (.iconst 4, 1) := by decide +kernel
theorem dX12_init_30 : decode cX12_init 30 = .ok (.iastore, 1) := by decide +kernel
theorem dX12_init_31 : decode cX12_init 31 = .ok (.dup, 1) := by decide +kernel
theorem dX12_init_32 : decode cX12_init 32 = .ok (.iconst 5, 1) := by decide +kernel
theorem dX12_init_33 : decode cX12_init 33 = .ok (.bipush 24, 2) := by decide +kernel
theorem dX12_init_35 : decode cX12_init 35 = .ok (.iastore, 1) := by decide +kernel
theorem dX12_init_36 : decode cX12_init 36 = .ok (.dup, 1) := by decide +kernel
theorem dX12_init_37 : decode cX12_init 37 = .ok (.bipush 6, 2) := by decide +kernel
theorem dX12_init_39 : decode cX12_init 39 = .ok (.sipush 400, 3) := by decide +kernel
theorem dX12_init_42 : decode cX12_init 42 = .ok (.iastore, 1) := by decide +kernel
theorem dX12_init_43 : decode cX12_init 43 = .ok (.dup, 1) := by decide +kernel
theorem dX12_init_44 : decode cX12_init 44 = .ok (.bipush 7, 2) := by decide +kernel
theorem dX12_init_46 : decode cX12_init 46 = .ok (.iconst 3, 1) := by decide +kernel
theorem dX12_init_47 : decode cX12_init 47 = .ok (.iastore, 1) := by decide +kernel
theorem dX12_init_48 : decode cX12_init 48 = .ok (.dup, 1) := by decide +kernel
theorem dX12_init_49 : decode cX12_init 49 = .ok (.bipush 8, 2) := by decide +kernel
theorem dX12_init_51 : decode cX12_init 51 = .ok (.iconst 4, 1) := by decide +kernel
theorem dX12_init_52 : decode cX12_init 52 = .ok (.iastore, 1) := by decide +kernel
theorem dX12_init_53 : decode cX12_init 53 = .ok (.dup, 1) := by decide +kernel
theorem dX12_init_54 : decode cX12_init 54 = .ok (.bipush 9, 2) := by decide +kernel
theorem dX12_init_56 : decode cX12_init 56 = .ok (.sipush 500, 3) := by decide +kernel
theorem dX12_init_59 : decode cX12_init 59 = .ok (.iastore, 1) := by decide +kernel
theorem dX12_init_60 : decode cX12_init 60 = .ok (.dup, 1) := by decide +kernel
theorem dX12_init_61 : decode cX12_init 61 = .ok (.bipush 10, 2) := by decide +kernel
theorem dX12_init_63 : decode cX12_init 63 = .ok (.bipush 10, 2) := by decide +kernel
theorem dX12_init_65 : decode cX12_init 65 = .ok (.iastore, 1) := by decide +kernel
theorem dX12_init_66 : decode cX12_init 66 = .ok (.dup, 1) := by decide +kernel
theorem dX12_init_67 : decode cX12_init 67 = .ok (.bipush 11, 2) := by decide +kernel
theorem dX12_init_69 : decode cX12_init 69 = .ok (.sipush 150, 3) := by decide +kernel
theorem dX12_init_72 : decode cX12_init 72 = .ok (.iastore, 1) := by decide +kernel
theorem dX12_init_73 : decode cX12_init 73 = .ok (.dup, 1) := by decide +kernel
theorem dX12_init_74 : decode cX12_init 74 = .ok (.bipush 12, 2) := by decide +kernel
theorem dX12_init_76 : decode cX12_init 76 = .ok (.sipush 200, 3) := by decide +kernel
theorem dX12_init_79 : decode cX12_init 79 = .ok (.iastore, 1) := by decide +kernel
theorem dX12_init_80 : decode cX12_init 80 = .ok (.dup, 1) := by decide +kernel
theorem dX12_init_81 : decode cX12_init 81 = .ok (.bipush 13, 2) := by decide +kernel
theorem dX12_init_83 : decode cX12_init 83 = .ok (.iconst 3, 1) := by decide +kernel
theorem dX12_init_84 : decode cX12_init 84 = .ok (.iastore, 1) := by decide +kernel
theorem dX12_init_85 : decode cX12_init 85 = .ok (.dup, 1) := by decide +kernel
theorem dX12_init_86 : decode cX12_init 86 = .ok (.bipush 14, 2) := by decide +kernel
theorem dX12_init_88 : decode cX12_init 88 = .ok (.iconst 0, 1) := by decide +kernel
theorem dX12_init_89 : decode cX12_init 89 = .ok (.iastore, 1) := by decide +kernel
theorem dX12_init_90 : decode cX12_init 90 = .ok (.dup, 1) := by decide +kernel
theorem dX12_init_91 : decode cX12_init 91 = .ok (.bipush 15, 2) := by decide +kernel
theorem dX12_init_93 : decode cX12_init 93 = .ok (.bipush 60, 2) := by decide +kernel
theorem dX12_init_95 : decode cX12_init 95 = .ok (.iastore, 1) := by decide +kernel
theorem dX12_init_96 : decode cX12_init 96 = .ok (.putfield 7, 3) := by decide +kernel
theorem dX12_init_99 : decode cX12_init 99 = .ok (.aload_n 0, 1) := by decide +kernel
theorem dX12_init_100 : decode cX12_init 100 = .ok (.bipush 16, 2) := by decide +kernel
theorem dX12_init_102 : decode cX12_init 102 = .ok (.newarray .int, 2) := by decide +kernel
theorem dX12_init_104 : decode cX12_init 104 = .ok (.dup, 1) := by decide +kernel
theorem dX12_init_105 : decode cX12_init 105 = .ok (.iconst 0, 1) := by decide +kernel
theorem dX12_init_106 : decode cX12_init 106 = .ok (.iconst 0, 1) := by decide +kernel
theorem dX12_init_107 : decode cX12_init 107 = .ok (.iastore, 1) := by decide +kernel
theorem dX12_init_108 : decode cX12_init 108 = .ok (.dup, 1) := by decide +kernel
theorem dX12_init_109 : decode cX12_init 109 = .ok (.iconst 1, 1) := by decide +kernel
theorem dX12_init_110 : decode cX12_init 110 = .ok (.iconst 0, 1) := by decide +kernel
theorem dX12_init_111 : decode cX12_init 111 = .ok (.iastore, 1) := by decide +kernel
theorem dX12_init_112 : decode cX12_init 112 = .ok (.dup, 1) := by decide +kernel
theorem dX12_init_113 : decode cX12_init 113 = .ok (.iconst 2, 1) := by decide +kernel
theorem dX12_init_114 : decode cX12_init 114 = .ok (.bipush 8, 2) := by decide +kernel
theorem dX12_init_116 : decode cX12_init 116 = .ok (.iastore, 1) := by decide +kernel
theorem dX12_init_117 : decode cX12_init 117 = .ok (.dup, 1) := by decide +kernel
theorem dX12_init_118 : decode cX12_init 118 = .ok (.iconst 3, 1) := by decide +kernel
theorem dX12_init_119 : decode cX12_init 119 = .ok (.iconst 4, 1) := by decide +kernel
theorem dX12_init_120 : decode cX12_init 120 = .ok (.iastore, 1) := by decide +kernel
theorem dX12_init_121 : decode cX12_init 121 = .ok (.dup, 1) := by decide +kernel
theorem dX12_init_122 : decode cX12_init 122 = .ok (.iconst 4, 1) := by decide +kernel
theorem dX12_init_123 : decode cX12_init 123 = .ok (.iconst 2, 1) := by decide +kernel
theorem dX12_init_124 : decode cX12_init 124 = .ok (.iastore, 1) := by decide +kernel
theorem dX12_init_125 : decode cX12_init 125 = .ok (.dup, 1) := by decide +kernel
theorem dX12_init_126 : decode cX12_init 126 = .ok (.iconst 5, 1) := by decide +kernel
theorem dX12_init_127 : decode cX12_init 127 = .ok (.iconst 3, 1) := by decide +kernel
theorem dX12_init_128 : decode cX12_init 128 = .ok (.iastore, 1) := by decide +kernel
theorem dX12_init_129 : decode cX12_init 129 = .ok (.dup, 1) := by decide +kernel
theorem dX12_init_130 : decode cX12_init 130 = .ok (.bipush 6, 2) := by decide +kernel
theorem dX12_init_132 : decode cX12_init 132 = .ok (.iconst 0, 1) := by decide +kernel
theorem dX12_init_133 : decode cX12_init 133 = .ok (.iastore, 1) := by decide +kernel
theorem dX12_init_134 : decode cX12_init 134 = .ok (.dup, 1) := by decide +kernel
theorem dX12_init_135 : decode cX12_init 135 = .ok (.bipush 7, 2) := by decide +kernel
theorem dX12_init_137 : decode cX12_init 137 = .ok (.iconst 1, 1) := by decide +kernel
theorem dX12_init_138 : decode cX12_init 138 = .ok (.iastore, 1) := by decide +kernel
theorem dX12_init_139 : decode cX12_init 139 = .ok (.dup, 1) := by decide +kernel
theorem dX12_init_140 : decode cX12_init 140 = .ok (.bipush 8, 2) := by decide +kernel
theorem dX12_init_142 : decode cX12_init 142 = .ok (.iconst 0, 1) := by decide +kernel
theorem dX12_init_143 : decode cX12_init 143 = .ok (.iastore, 1) := by decide +kernel
theorem dX12_init_144 : decode cX12_init 144 = .ok (.dup, 1) := by decide +kernel
theorem dX12_init_145 : decode cX12_init 145 = .ok (.bipush 9, 2) := by decide +kernel
theorem dX12_init_147 : decode cX12_init 147 = .ok (.iconst 0, 1) := by decide +kernel
theorem dX12_init_148 : decode cX12_init 148 = .ok (.iastore, 1) := by decide +kernel
theorem dX12_init_149 : decode cX12_init 149 = .ok (.dup, 1) := by decide +kernel
theorem dX12_init_150 : decode cX12_init 150 = .ok (.bipush 10, 2) := by decide +kernel
theorem dX12_init_152 : decode cX12_init 152 = .ok (.iconst 0, 1) := by decide +kernel
theorem dX12_init_153 : decode cX12_init 153 = .ok (.iastore, 1) := by decide +kernel
theorem dX12_init_154 : decode cX12_init 154 = .ok (.dup, 1) := by decide +kernel
theorem dX12_init_155 : decode cX12_init 155 = .ok (.bipush 11, 2) := by decide +kernel
theorem dX12_init_157 : decode cX12_init 157 = .ok (.iconst 0, 1) := by decide +kernel
theorem dX12_init_158 : decode cX12_init 158 = .ok (.iastore, 1) := by decide +kernel
theorem dX12_init_159 : decode cX12_init 159 = .ok (.dup, 1) := by decide +kernel
theorem dX12_init_160 : decode cX12_init 160 = .ok (.bipush 12, 2) := by decide +kernel
theorem dX12_init_162 : decode cX12_init 162 = .ok (.iconst 0, 1) := by decide +kernel
theorem dX12_init_163 : decode cX12_init 163 = .ok (.iastore, 1) := by decide +kernel
theorem dX12_init_164 : decode cX12_init 164 = .ok (.dup, 1) := by decide +kernel
theorem dX12_init_165 : decode cX12_init 165 = .ok (.bipush 13, 2) := by decide +kernel
theorem dX12_init_167 : decode cX12_init 167 = .ok (.iconst 0, 1) := by decide +kernel
theorem dX12_init_168 : decode cX12_init 168 = .ok (.iastore, 1) := by decide +kernel
theorem dX12_init_169 : decode cX12_init 169 = .ok (.dup, 1) := by decide +kernel
theorem dX12_init_170 : decode cX12_init 170 = .ok (.bipush 14, 2) := by decide +kernel
theorem dX12_init_172 : decode cX12_init 172 = .ok (.iconst 0, 1) := by decide +kernel
theorem dX12_init_173 : decode cX12_init 173 = .ok (.iastore, 1) := by decide +kernel
theorem dX12_init_174 : decode cX12_init 174 = .ok (.dup, 1) := by decide +kernel
theorem dX12_init_175 : decode cX12_init 175 = .ok (.bipush 15, 2) := by decide +kernel
theorem dX12_init_177 : decode cX12_init 177 = .ok (.iconst 0, 1) := by decide +kernel
theorem dX12_init_178 : decode cX12_init 178 = .ok (.iastore, 1) := by decide +kernel
theorem dX12_init_179 : decode cX12_init 179 = .ok (.putfield 13, 3) := by decide +kernel
theorem dX12_init_182 : decode cX12_init 182 = .ok (.aload_n 0, 1) := by decide +kernel
theorem dX12_init_183 : decode cX12_init 183 = .ok (.bipush 16, 2) := by decide +kernel
theorem dX12_init_185 : decode cX12_init 185 = .ok (.newarray .int, 2) := by decide +kernel
theorem dX12_init_187 : decode cX12_init 187 = .ok (.dup, 1) := by decide +kernel
theorem dX12_init_188 : decode cX12_init 188 = .ok (.iconst 0, 1) := by decide +kernel
theorem dX12_init_189 : decode cX12_init 189 = .ok (.iconst 0, 1) := by decide +kernel
theorem dX12_init_190 : decode cX12_init 190 = .ok (.iastore, 1) := by decide +kernel
theorem dX12_init_191 : decode cX12_init 191 = .ok (.dup, 1) := by decide +kernel
theorem dX12_init_192 : decode cX12_init 192 = .ok (.iconst 1, 1) := by decide +kernel
theorem dX12_init_193 : decode cX12_init 193 = .ok (.iconst 0, 1) := by decide +kernel
theorem dX12_init_194 : decode cX12_init 194 = .ok (.iastore, 1) := by decide +kernel
theorem dX12_init_195 : decode cX12_init 195 = .ok (.dup, 1) := by decide +kernel
theorem dX12_init_196 : decode cX12_init 196 = .ok (.iconst 2, 1) := by decide +kernel
theorem dX12_init_197 : decode cX12_init 197 = .ok (.bipush 40, 2) := by decide +kernel
theorem dX12_init_199 : decode cX12_init 199 = .ok (.iastore, 1) := by decide +kernel
theorem dX12_init_200 : decode cX12_init 200 = .ok (.dup, 1) := by decide +kernel
theorem dX12_init_201 : decode cX12_init 201 = .ok (.iconst 3, 1) := by decide +kernel
theorem dX12_init_202 : decode cX12_init 202 = .ok (.bipush 60, 2) := by decide +kernel
theorem dX12_init_204 : decode cX12_init 204 = .ok (.iastore, 1) := by decide +kernel
theorem dX12_init_205 : decode cX12_init 205 = .ok (.dup, 1) := by decide +kernel
theorem dX12_init_206 : decode cX12_init 206 = .ok (.iconst 4, 1) := by decide +kernel
theorem dX12_init_207 : decode cX12_init 207 = .ok (.bipush 47, 2) := by decide +kernel
theorem dX12_init_209 : decode cX12_init 209 = .ok (.iastore, 1) := by decide +kernel
theorem dX12_init_210 : decode cX12_init 210 = .ok (.dup, 1) := by decide +kernel
theorem dX12_init_211 : decode cX12_init 211 = .ok (.iconst 5, 1) := by decide +kernel
theorem dX12_init_212 : decode cX12_init 212 = .ok (.bipush 48, 2) := by decide +kernel
theorem dX12_init_214 : decode cX12_init 214 = .ok (.iastore, 1) := by decide +kernel
theorem dX12_init_215 : decode cX12_init 215 = .ok (.dup, 1) := by decide +kernel
theorem dX12_init_216 : decode cX12_init 216 = .ok (.bipush 6, 2) := by decide +kernel
theorem dX12_init_218 : decode cX12_init 218 = .ok (.sipush 2000, 3) := by decide +kernel
theorem dX12_init_221 : decode cX12_init 221 = .ok (.iastore, 1) := by decide +kernel
theorem dX12_init_222 : decode cX12_init 222 = .ok (.dup, 1) := by decide +kernel
theorem dX12_init_223 : decode cX12_init 223 = .ok (.bipush 7, 2) := by decide +kernel
theorem dX12_init_225 : decode cX12_init 225 = .ok (.iconst 5, 1) := by decide +kernel
theorem dX12_init_226 : decode cX12_init 226 = .ok (.iastore, 1) := by decide +kernel
theorem dX12_init_227 : decode cX12_init 227 = .ok (.dup, 1) := by decide +kernel
theorem dX12_init_228 : decode cX12_init 228 = .ok (.bipush 8, 2) := by decide +kernel
theorem dX12_init_230 : decode cX12_init 230 = .ok (.bipush 20, 2) := by decide +kernel
theorem dX12_init_232 : decode cX12_init 232 = .ok (.iastore, 1) := by decide +kernel
theorem dX12_init_233 : decode cX12_init 233 = .ok (.dup, 1) := by decide +kernel
theorem dX12_init_234 : decode cX12_init 234 = .ok (.bipush 9, 2) := by decide +kernel
theorem dX12_init_236 : decode cX12_init 236 = .ok (.sipush 2000, 3) := by decide +kernel
theorem dX12_init_239 : decode cX12_init 239 = .ok (.iastore, 1) := by decide +kernel
theorem dX12_init_240 : decode cX12_init 240 = .ok (.dup, 1) := by decide +kernel
theorem dX12_init_241 : decode cX12_init 241 = .ok (.bipush 10, 2) := by decide +kernel
theorem dX12_init_243 : decode cX12_init 243 = .ok (.bipush 50, 2) := by decide +kernel
theorem dX12_init_245 : decode cX12_init 245 = .ok (.iastore, 1) := by decide +kernel
theorem dX12_init_246 : decode cX12_init 246 = .ok (.dup, 1) := by decide +kernel
theorem dX12_init_247 : decode cX12_init 247 = .ok (.bipush 11, 2) := by decide +kernel
theorem dX12_init_249 : decode cX12_init 249 = .ok (.sipush 2000, 3) := by decide +kernel
theorem dX12_init_252 : decode cX12_init 252 = .ok (.iastore, 1) := by decide +kernel
theorem dX12_init_253 : decode cX12_init 253 = .ok (.dup, 1) := by decide +kernel
theorem dX12_init_254 : decode cX12_init 254 = .ok (.bipush 12, 2) := by decide +kernel
theorem dX12_init_256 : decode cX12_init 256 = .ok (.sipush 2000, 3) := by decide +kernel
theorem dX12_init_259 : decode cX12_init 259 = .ok (.iastore, 1) := by decide +kernel
theorem dX12_init_260 : decode cX12_init 260 = .ok (.dup, 1) := by decide +kernel
theorem dX12_init_261 : decode cX12_init 261 = .ok (.bipush 13, 2) := by decide +kernel
theorem dX12_init_263 : decode cX12_init 263 = .ok (.bipush 20, 2) := by decide +kernel
theorem dX12_init_265 : decode cX12_init 265 = .ok (.iastore, 1) := by decide +kernel
theorem dX12_init_266 : decode cX12_init 266 = .ok (.dup, 1) := by decide +kernel
theorem dX12_init_267 : decode cX12_init 267 = .ok (.bipush 14, 2) := by decide +kernel
theorem dX12_init_269 : decode cX12_init 269 = .ok (.sipush 2000, 3) := by decide +kernel
theorem dX12_init_272 : decode cX12_init 272 = .ok (.iastore, 1) := by decide +kernel
theorem dX12_init_273 : decode cX12_init 273 = .ok (.dup, 1) := by decide +kernel
theorem dX12_init_274 : decode cX12_init 274 = .ok (.bipush 15, 2) := by decide +kernel
theorem dX12_init_276 : decode cX12_init 276 = .ok (.sipush 500, 3) := by decide +kernel
theorem dX12_init_279 : decode cX12_init 279 = .ok (.iastore, 1) := by decide +kernel
theorem dX12_init_280 : decode cX12_init 280 = .ok (.putfield 16, 3) := by decide +kernel
theorem dX12_init_283 : decode cX12_init 283 = .ok (.aload_n 0, 1) := by decide +kernel
theorem dX12_init_284 : decode cX12_init 284 = .ok (.sipush 800, 3) := by decide +kernel
theorem dX12_init_287 : decode cX12_init 287 = .ok (.newarray .int, 2) := by decide +kernel
theorem dX12_init_289 : decode cX12_init 289 = .ok (.putfield 19, 3) := by decide +kernel
theorem dX12_init_292 : decode cX12_init 292 = .ok (.aload_n 0, 1) := by decide +kernel
theorem dX12_init_293 : decode cX12_init 293 = .ok (.sipush 400, 3) := by decide +kernel
theorem dX12_init_296 : decode cX12_init 296 = .ok (.newarray .int, 2) := by decide +kernel
theorem dX12_init_298 : decode cX12_init 298 = .ok (.putfield 22, 3) := by decide +kernel
theorem dX12_init_301 : decode cX12_init 301 = .ok (.aload_n 0, 1) := by decide +kernel
theorem dX12_init_302 : decode cX12_init 302 = .ok (.bipush 12, 2) := by decide +kernel
theorem dX12_init_304 : decode cX12_init 304 = .ok (.newarray .int, 2) := by decide +kernel
theorem dX12_init_306 : decode cX12_init 306 = .ok (.putfield 25, 3) := by decide +kernel
theorem dX12_init_309 : decode cX12_init 309 = .ok (.aload_n 0, 1) := by decide +kernel
theorem dX12_init_310 : decode cX12_init 310 = .ok (.bipush 50, 2) := by decide +kernel
theorem dX12_init_312 : decode cX12_init 312 = .ok (.newarray .int, 2) := by decide +kernel
theorem dX12_init_314 : decode cX12_init 314 = .ok (.putfield 28, 3) := by decide +kernel
theorem dX12_init_317 : decode cX12_init 317 = .ok (.aload_n 0, 1) := by decide +kernel
theorem dX12_init_318 : decode cX12_init 318 = .ok (.bipush 50, 2) := by decide +kernel
theorem dX12_init_320 : decode cX12_init 320 = .ok (.newarray .int, 2) := by decide +kernel
theorem dX12_init_322 : decode cX12_init 322 = .ok (.putfield 31, 3) := by decide +kernel
theorem dX12_init_325 : decode cX12_init 325 = .ok (.aload_n 0, 1) := by decide +kernel
theorem dX12_init_326 : decode cX12_init 326 = .ok (.sipush 660, 3) := by decide +kernel
theorem dX12_init_329 : decode cX12_init 329 = .ok (.newarray .int, 2) := by decide +kernel
theorem dX12_init_331 : decode cX12_init 331 = .ok (.putfield 34, 3) := by decide +kernel
theorem dX12_init_334 : decode cX12_init 334 = .ok (.aload_n 0, 1) := by decide +kernel
theorem dX12_init_335 : decode cX12_init 335 = .ok (.sipush 660, 3) := by decide +kernel
theorem dX12_init_338 : decode cX12_init 338 = .ok (.newarray .int, 2) := by decide +kernel
theorem dX12_init_340 : decode cX12_init 340 = .ok (.putfield 37, 3) := by decide +kernel
theorem dX12_init_343 : decode cX12_init 343 = .ok (.aload_n 0, 1) := by decide +kernel
theorem dX12_init_344 : decode cX12_init 344 = .ok (.bipush 110, 2) := by decide +kernel
theorem dX12_init_346 : decode cX12_init 346 = .ok (.newarray .int, 2) := by decide +kernel
theorem dX12_init_348 : decode cX12_init 348 = .ok (.putfield 40, 3) := by decide +kernel
theorem dX12_init_351 : decode cX12_init 351 = .ok (.aload_n 0, 1) := by decide +kernel
theorem dX12_init_352 : decode cX12_init 352 = .ok (.bipush 50, 2) := by decide +kernel
theorem dX12_init_354 : decode cX12_init 354 = .ok (.newarray .boolean, 2) := by decide +kernel
theorem dX12_init_356 : decode cX12_init 356 = .ok (.putfield 43, 3) := by decide +kernel
theorem dX12_init_359 : decode cX12_init 359 = .ok (.aload_n 0, 1) := by decide +kernel
theorem dX12_init_360 : decode cX12_init 360 = .ok (.sipush 660, 3) := by decide +kernel
theorem dX12_init_363 : decode cX12_init 363 = .ok (.newarray .int, 2) := by decide +kernel
theorem dX12_init_365 : decode cX12_init 365 = .ok (.putfield 47, 3) := by decide +kernel
theorem dX12_init_368 : decode cX12_init 368 = .ok (.aload_n 0, 1) := by decide +kernel
theorem dX12_init_369 : decode cX12_init 369 = .ok (.bipush 110, 2) := by decide +kernel
theorem dX12_init_371 : decode cX12_init 371 = .ok (.newarray .int, 2) := by decide +kernel
theorem dX12_init_373 : decode cX12_init 373 = .ok (.putfield 50, 3) := by decide +kernel
theorem dX12_init_376 : decode cX12_init 376 = .ok (.aload_n 0, 1) := by decide +kernel
theorem dX12_init_377 : decode cX12_init 377 = .ok (.sipush 660, 3) := by decide +kernel
theorem dX12_init_380 : decode cX12_init 380 = .ok (.newarray .boolean, 2) := by decide +kernel
theorem dX12_init_382 : decode cX12_init 382 = .ok (.putfield 53, 3) := by decide +kernel
theorem dX12_init_385 : decode cX12_init 385 = .ok (.aload_n 0, 1) := by decide +kernel
theorem dX12_init_386 : decode cX12_init 386 = .ok (.sipush 5280, 3) := by decide +kernel
theorem dX12_init_389 : decode cX12_init 389 = .ok (.newarray .int, 2) := by decide +kernel
theorem dX12_init_391 : decode cX12_init 391 = .ok (.putfield 56, 3) := by decide +kernel
theorem dX12_init_394 : decode cX12_init 394 = .ok (.aload_n 0, 1) := by decide +kernel
theorem dX12_init_395 : decode cX12_init 395 = .ok (.sipush 5280, 3) := by decide +kernel
theorem dX12_init_398 : decode cX12_init 398 = .ok (.newarray .int, 2) := by decide +kernel
theorem dX12_init_400 : decode cX12_init 400 = .ok (.putfield 59, 3) := by decide +kernel
theorem dX12_init_403 : decode cX12_init 403 = .ok (.aload_n 0, 1) := by decide +kernel
theorem dX12_init_404 : decode cX12_init 404 = .ok (.sipush 5280, 3) := by decide +kernel
theorem dX12_init_407 : decode cX12_init 407 = .ok (.newarray .int, 2) := by decide +kernel
theorem dX12_init_409 : decode cX12_init 409 = .ok (.putfield 62, 3) := by decide +kernel
theorem dX12_init_412 : decode cX12_init 412 = .ok (.aload_n 0, 1) := by decide +kernel
theorem dX12_init_413 : decode cX12_init 413 = .ok (.sipush 660, 3) := by decide +kernel
theorem dX12_init_416 : decode cX12_init 416 = .ok (.newarray .int, 2) := by decide +kernel
theorem dX12_init_418 : decode cX12_init 418 = .ok (.putfield 65, 3) := by decide +kernel
theorem dX12_init_421 : decode cX12_init 421 = .ok (.aload_n 0, 1) := by decide +kernel
theorem dX12_init_422 : decode cX12_init 422 = .ok (.bipush 9, 2) := by decide +kernel
theorem dX12_init_424 : decode cX12_init 424 = .ok (.newarray .int, 2) := by decide +kernel
theorem dX12_init_426 : decode cX12_init 426 = .ok (.putfield 68, 3) := by decide +kernel
theorem dX12_init_429 : decode cX12_init 429 = .ok (.aload_n 0, 1) := by decide +kernel
theorem dX12_init_430 : decode cX12_init 430 = .ok (.bipush 9, 2) := by decide +kernel
theorem dX12_init_432 : decode cX12_init 432 = .ok (.newarray .int, 2) := by decide +kernel
theorem dX12_init_434 : decode cX12_init 434 = .ok (.putfield 71, 3) := by decide +kernel
theorem dX12_init_437 : decode cX12_init 437 = .ok (.aload_n 0, 1) := by decide +kernel
theorem dX12_init_438 : decode cX12_init 438 = .ok (.bipush 9, 2) := by decide +kernel
theorem dX12_init_440 : decode cX12_init 440 = .ok (.newarray .int, 2) := by decide +kernel
theorem dX12_init_442 : decode cX12_init 442 = .ok (.putfield 74, 3) := by decide +kernel
theorem dX12_init_445 : decode cX12_init 445 = .ok (.aload_n 0, 1) := by decide +kernel
theorem dX12_init_446 : decode cX12_init 446 = .ok (.bipush 111, 2) := by decide +kernel
theorem dX12_init_448 : decode cX12_init 448 = .ok (.newarray .int, 2) := by decide +kernel
theorem dX12_init_450 : decode cX12_init 450 = .ok (.putfield 77, 3) := by decide +kernel
theorem dX12_init_453 : decode cX12_init 453 = .ok (.aload_n 0, 1) := by decide +kernel
theorem dX12_init_454 : decode cX12_init 454 = .ok (.bipush 110, 2) := by decide +kernel
theorem dX12_init_456 : decode cX12_init 456 = .ok (.newarray .int, 2) := by decide +kernel
theorem dX12_init_458 : decode cX12_init 458 = .ok (.putfield 80, 3) := by decide +kernel
theorem dX12_init_461 : decode cX12_init 461 = .ok (.aload_n 0, 1) := by decide +kernel
theorem dX12_init_462 : decode cX12_init 462 = .ok (.bipush 110, 2) := by decide +kernel
theorem dX12_init_464 : decode cX12_init 464 = .ok (.newarray .int, 2) := by decide +kernel
theorem dX12_init_466 : decode cX12_init 466 = .ok (.putfield 83, 3) := by decide +kernel
theorem dX12_init_469 : decode cX12_init 469 = .ok (.aload_n 0, 1) := by decide +kernel
theorem dX12_init_470 : decode cX12_init 470 = .ok (.bipush 110, 2) := by decide +kernel
theorem dX12_init_472 : decode cX12_init 472 = .ok (.newarray .int, 2) := by decide +kernel
theorem dX12_init_474 : decode cX12_init 474 = .ok (.putfield 86, 3) := by decide +kernel
theorem dX12_init_477 : decode cX12_init 477 = .ok (.aload_n 0, 1) := by decide +kernel
theorem dX12_init_478 : decode cX12_init 478 = .ok (.bipush 110, 2) := by decide +kernel
theorem dX12_init_480 : decode cX12_init 480 = .ok (.newarray .int, 2) := by decide +kernel
theorem dX12_init_482 : decode cX12_init 482 = .ok (.putfield 89, 3) := by decide +kernel
theorem dX12_init_485 : decode cX12_init 485 = .ok (.aload_n 0, 1) := by decide +kernel
theorem dX12_init_486 : decode cX12_init 486 = .ok (.bipush 50, 2) := by decide +kernel
theorem dX12_init_488 : decode cX12_init 488 = .ok (.newarray .int, 2) := by decide +kernel
theorem dX12_init_490 : decode cX12_init 490 = .ok (.putfield 92, 3) := by decide +kernel
theorem dX12_init_493 : decode cX12_init 493 = .ok (.aload_n 0, 1) := by decide +kernel
theorem dX12_init_494 : decode cX12_init 494 = .ok (.sipush 1450, 3) := by decide +kernel
theorem dX12_init_497 : decode cX12_init 497 = .ok (.newarray .int, 2) := by decide +kernel
theorem dX12_init_499 : decode cX12_init 499 = .ok (.putfield 95, 3) := by decide +kernel
theorem dX12_init_502 : decode cX12_init 502 = .ok (.aload_n 0, 1) := by decide +kernel
theorem dX12_init_503 : decode cX12_init 503 = .ok (.bipush 12, 2) := by decide +kernel
theorem dX12_init_505 : decode cX12_init 505 = .ok (.newarray .int, 2) := by decide +kernel
theorem dX12_init_507 : decode cX12_init 507 = .ok (.putfield 98, 3) := by decide +kernel
theorem dX12_init_510 : decode cX12_init 510 = .ok (.aload_n 0, 1) := by decide +kernel
theorem dX12_init_511 : decode cX12_init 511 = .ok (.sipush 800, 3) := by decide +kernel
theorem dX12_init_514 : decode cX12_init 514 = .ok (.newarray .int, 2) := by decide +kernel
theorem dX12_init_516 : decode cX12_init 516 = .ok (.putfield 101, 3) := by decide +kernel
theorem dX12_init_519 : decode cX12_init 519 = .ok (.aload_n 0, 1) := by decide +kernel
theorem dX12_init_520 : decode cX12_init 520 = .ok (.sipush 800, 3) := by decide +kernel
theorem dX12_init_523 : decode cX12_init 523 = .ok (.newarray .int, 2) := by decide +kernel
theorem dX12_init_525 : decode cX12_init 525 = .ok (.putfield 104, 3) := by decide +kernel
theorem dX12_init_528 : decode cX12_init 528 = .ok (.aload_n 0, 1) := by decide +kernel
theorem dX12_init_529 : decode cX12_init 529 = .ok (.sipush 400, 3) := by decide +kernel
theorem dX12_init_532 : decode cX12_init 532 = .ok (.newarray .int, 2) := by decide +kernel
theorem dX12_init_534 : decode cX12_init 534 = .ok (.putfield 107, 3) := by decide +kernel
theorem dX12_init_537 : decode cX12_init 537 = .ok (.aload_n 0, 1) := by decide +kernel
theorem dX12_init_538 : decode cX12_init 538 = .ok (.sipush 400, 3) := by decide +kernel
theorem dX12_init_541 : decode cX12_init 541 = .ok (.newarray .int, 2) := by decide +kernel
theorem dX12_init_543 : decode cX12_init 543 = .ok (.putfield 110, 3) := by decide +kernel
theorem dX12_init_546 : decode cX12_init 546 = .ok (.aload_n 0, 1) := by decide +kernel
theorem dX12_init_547 : decode cX12_init 547 = .ok (.bipush 111, 2) := by decide +kernel
theorem dX12_init_549 : decode cX12_init 549 = .ok (.newarray .int, 2) := by decide +kernel
theorem dX12_init_551 : decode cX12_init 551 = .ok (.putfield 113, 3) := by decide +kernel
theorem dX12_init_554 : decode cX12_init 554 = .ok (.aload_n 0, 1) := by decide +kernel
theorem dX12_init_555 : decode cX12_init 555 = .ok (.bipush 110, 2) := by decide +kernel
theorem dX12_init_557 : decode cX12_init 557 = .ok (.newarray .int, 2) := by decide +kernel
theorem dX12_init_559 : decode cX12_init 559 = .ok (.putfield 116, 3) := by decide +kernel
theorem dX12_init_562 : decode cX12_init 562 = .ok (.return_, 1) := by decide +kernel
theorem dX12_thrown_0 : decode cX12_thrown 0 = .ok (.aload_n 0, 1) := by decide +kernel
theorem dX12_thrown_1 : decode cX12_thrown 1 = .ok (.getfield 119, 3) := by decide +kernel
theorem dX12_thrown_4 : decode cX12_thrown 4 = .ok (.ireturn, 1) := by decide +kernel
theorem dX12_right_0 : decode cX12_right 0 = .ok (.aload_n 0, 1) := by decide +kernel
theorem dX12_right_1 : decode cX12_right 1 = .ok (.getfield 119, 3) := by decide +kernel
theorem dX12_right_4 : decode cX12_right 4 = .ok (.ifCond .ne 12, 3) := by decide +kernel
theorem dX12_right_7 : decode cX12_right 7 = .ok (.iload_n 1, 1) := by decide +kernel
theorem dX12_right_8 : decode cX12_right 8 = .ok (.ifCond .ne 8, 3) := by decide +kernel
theorem dX12_right_11 : decode cX12_right 11 = .ok (.aload_n 0, 1) := by decide +kernel
theorem dX12_right_12 : decode cX12_right 12 = .ok (.iload_n 2, 1) := by decide +kernel
theorem dX12_right_13 : decode cX12_right 13 = .ok (.putfield 119, 3) := by decide +kernel
theorem dX12_right_16 : decode cX12_right 16 = .ok (.aload_n 0, 1) := by decide +kernel
theorem dX12_right_17 : decode cX12_right 17 = .ok (.getfield 119, 3) := by decide +kernel
theorem dX12_right_20 : decode cX12_right 20 = .ok (.ifCond .ne 7, 3) := by decide +kernel
theorem dX12_right_23 : decode cX12_right 23 = .ok (.iconst 1, 1) := by decide +kernel
theorem dX12_right_24 : decode cX12_right 24 = .ok (.goto 4, 3) := by decide +kernel
theorem dX12_right_27 : decode cX12_right 27 = .ok (.iconst 0, 1) := by decide +kernel
theorem dX12_right_28 : decode cX12_right 28 = .ok (.ireturn, 1) := by decide +kernel
theorem dX12_isIn_0 : decode cX12_isIn 0 = .ok (.iload_n 0, 1) := by decide +kernel
theorem dX12_isIn_1 : decode cX12_isIn 1 = .ok (.iload_n 1, 1) := by decide +kernel
theorem dX12_isIn_2 : decode cX12_isIn 2 = .ok (.if_icmp .lt 12, 3) := by decide +kernel
theorem dX12_isIn_5 : decode cX12_isIn 5 = .ok (.iload_n 0, 1) := by decide +kernel
theorem dX12_isIn_6 : decode cX12_isIn 6 = .ok (.iload_n 2, 1) := by decide +kernel
theorem dX12_isIn_7 : decode cX12_isIn 7 = .ok (.if_icmp .gt 7, 3) := by decide +kernel
theorem dX12_isIn_10 : decode cX12_isIn 10 = .ok (.iconst 1, 1) := by decide +kernel
theorem dX12_isIn_11 : decode cX12_isIn 11 = .ok (.goto 4, 3) := by decide +kernel
theorem dX12_isIn_14 : decode cX12_isIn 14 = .ok (.iconst 0, 1) := by decide +kernel
theorem dX12_isIn_15 : decode cX12_isIn 15 = .ok (.ireturn, 1) := by decide +kernel
theorem dX12_apart_0 : decode cX12_apart 0 = .ok (.iload_n 0, 1) := by decide +kernel
theorem dX12_apart_1 : decode cX12_apart 1 = .ok (.iload_n 1, 1) := by decide +kernel
theorem dX12_apart_2 : decode cX12_apart 2 = .ok (.if_icmp .le 9, 3) := by decide +kernel
theorem dX12_apart_5 : decode cX12_apart 5 = .ok (.iload_n 0, 1) := by decide +kernel
theorem dX12_apart_6 : decode cX12_apart 6 = .ok (.iload_n 1, 1) := by decide +kernel
theorem dX12_apart_7 : decode cX12_apart 7 = .ok (.isub, 1) := by decide +kernel
theorem dX12_apart_8 : decode cX12_apart 8 = .ok (.goto 6, 3) := by decide +kernel
theorem dX12_apart_11 : decode cX12_apart 11 = .ok (.iload_n 1, 1) := by decide +kernel
theorem dX12_apart_12 : decode cX12_apart 12 = .ok (.iload_n 0, 1) := by decide +kernel
theorem dX12_apart_13 : decode cX12_apart 13 = .ok (.isub, 1) := by decide +kernel
theorem dX12_apart_14 : decode cX12_apart 14 = .ok (.ireturn, 1) := by decide +kernel
theorem dX12_divisor_0 : decode cX12_divisor 0 = .ok (.iload_n 0, 1) := by decide +kernel
theorem dX12_divisor_1 : decode cX12_divisor 1 = .ok (.istore_n 2, 1) := by decide +kernel
theorem dX12_divisor_2 : decode cX12_divisor 2 = .ok (.iload_n 1, 1) := by decide +kernel
theorem dX12_divisor_3 : decode cX12_divisor 3 = .ok (.istore_n 3, 1) := by decide +kernel
theorem dX12_divisor_4 : decode cX12_divisor 4 = .ok (.iload_n 3, 1) := by decide +kernel
theorem dX12_divisor_5 : decode cX12_divisor 5 = .ok (.ifCond .eq 16, 3) := by decide +kernel
theorem dX12_divisor_8 : decode cX12_divisor 8 = .ok (.iload_n 2, 1) := by decide +kernel
theorem dX12_divisor_9 : decode cX12_divisor 9 = .ok (.iload_n 3, 1) := by decide +kernel
theorem dX12_divisor_10 : decode cX12_divisor 10 = .ok (.irem, 1) := by decide +kernel
theorem dX12_divisor_11 : decode cX12_divisor 11 = .ok (.istore 4, 2) := by decide +kernel
theorem dX12_divisor_13 : decode cX12_divisor 13 = .ok (.iload_n 3, 1) := by decide +kernel
theorem dX12_divisor_14 : decode cX12_divisor 14 = .ok (.istore_n 2, 1) := by decide +kernel
theorem dX12_divisor_15 : decode cX12_divisor 15 = .ok (.iload 4, 2) := by decide +kernel
theorem dX12_divisor_17 : decode cX12_divisor 17 = .ok (.istore_n 3, 1) := by decide +kernel
theorem dX12_divisor_18 : decode cX12_divisor 18 = .ok (.goto (-14), 3) := by decide +kernel
theorem dX12_divisor_21 : decode cX12_divisor 21 = .ok (.iload_n 2, 1) := by decide +kernel
theorem dX12_divisor_22 : decode cX12_divisor 22 = .ok (.ifCond .ge 8, 3) := by decide +kernel
theorem dX12_divisor_25 : decode cX12_divisor 25 = .ok (.iload_n 2, 1) := by decide +kernel
theorem dX12_divisor_26 : decode cX12_divisor 26 = .ok (.ineg, 1) := by decide +kernel
theorem dX12_divisor_27 : decode cX12_divisor 27 = .ok (.goto 4, 3) := by decide +kernel
theorem dX12_divisor_30 : decode cX12_divisor 30 = .ok (.iload_n 2, 1) := by decide +kernel
theorem dX12_divisor_31 : decode cX12_divisor 31 = .ok (.ireturn, 1) := by decide +kernel
theorem dX12_down_0 : decode cX12_down 0 = .ok (.iload_n 0, 1) := by decide +kernel
theorem dX12_down_1 : decode cX12_down 1 = .ok (.iload_n 1, 1) := by decide +kernel
theorem dX12_down_2 : decode cX12_down 2 = .ok (.idiv, 1) := by decide +kernel
theorem dX12_down_3 : decode cX12_down 3 = .ok (.istore_n 2, 1) := by decide +kernel
theorem dX12_down_4 : decode cX12_down 4 = .ok (.iload_n 0, 1) := by decide +kernel
theorem dX12_down_5 : decode cX12_down 5 = .ok (.iload_n 1, 1) := by decide +kernel
theorem dX12_down_6 : decode cX12_down 6 = .ok (.irem, 1) := by decide +kernel
theorem dX12_down_7 : decode cX12_down 7 = .ok (.ifCond .eq 13, 3) := by decide +kernel
theorem dX12_down_10 : decode cX12_down 10 = .ok (.iload_n 0, 1) := by decide +kernel
theorem dX12_down_11 : decode cX12_down 11 = .ok (.ifCond .ge 9, 3) := by decide +kernel
theorem dX12_down_14 : decode cX12_down 14 = .ok (.iload_n 2, 1) := by decide +kernel
theorem dX12_down_15 : decode cX12_down 15 = .ok (.iconst 1, 1) := by decide +kernel
theorem dX12_down_16 : decode cX12_down 16 = .ok (.isub, 1) := by decide +kernel
theorem dX12_down_17 : decode cX12_down 17 = .ok (.goto 4, 3) := by decide +kernel
theorem dX12_down_20 : decode cX12_down 20 = .ok (.iload_n 2, 1) := by decide +kernel
theorem dX12_down_21 : decode cX12_down 21 = .ok (.ireturn, 1) := by decide +kernel
theorem dX12_feed_0 : decode cX12_feed 0 = .ok (.aload_n 0, 1) := by decide +kernel
theorem dX12_feed_1 : decode cX12_feed 1 = .ok (.iconst 0, 1) := by decide +kernel
theorem dX12_feed_2 : decode cX12_feed 2 = .ok (.putfield 119, 3) := by decide +kernel
theorem dX12_feed_5 : decode cX12_feed 5 = .ok (.aload_n 0, 1) := by decide +kernel
theorem dX12_feed_6 : decode cX12_feed 6 = .ok (.getfield 123, 3) := by decide +kernel
theorem dX12_feed_9 : decode cX12_feed 9 = .ok (.bipush 20, 2) := by decide +kernel
theorem dX12_feed_11 : decode cX12_feed 11 = .ok (.iadd, 1) := by decide +kernel
theorem dX12_feed_12 : decode cX12_feed 12 = .ok (.sipush 400, 3) := by decide +kernel
theorem dX12_feed_15 : decode cX12_feed 15 = .ok (.if_icmp .le 5, 3) := by decide +kernel
theorem dX12_feed_18 : decode cX12_feed 18 = .ok (.iconst (-1), 1) := by decide +kernel
theorem dX12_feed_19 : decode cX12_feed 19 = .ok (.ireturn, 1) := by decide +kernel
theorem dX12_feed_20 : decode cX12_feed 20 = .ok (.aload_n 0, 1) := by decide +kernel
theorem dX12_feed_21 : decode cX12_feed 21 = .ok (.iload_n 1, 1) := by decide +kernel
theorem dX12_feed_22 : decode cX12_feed 22 = .ok (.invokevirtual 126, 3) := by decide +kernel
theorem dX12_feed_25 : decode cX12_feed 25 = .ok (.aload_n 0, 1) := by decide +kernel
theorem dX12_feed_26 : decode cX12_feed 26 = .ok (.iload_n 2, 1) := by decide +kernel
theorem dX12_feed_27 : decode cX12_feed 27 = .ok (.invokevirtual 126, 3) := by decide +kernel
theorem dX12_feed_30 : decode cX12_feed 30 = .ok (.aload_n 0, 1) := by decide +kernel
theorem dX12_feed_31 : decode cX12_feed 31 = .ok (.iload_n 3, 1) := by decide +kernel
theorem dX12_feed_32 : decode cX12_feed 32 = .ok (.invokevirtual 126, 3) := by decide +kernel
theorem dX12_feed_35 : decode cX12_feed 35 = .ok (.aload_n 0, 1) := by decide +kernel
theorem dX12_feed_36 : decode cX12_feed 36 = .ok (.iload 4, 2) := by decide +kernel
theorem dX12_feed_38 : decode cX12_feed 38 = .ok (.invokevirtual 126, 3) := by decide +kernel
theorem dX12_feed_41 : decode cX12_feed 41 = .ok (.aload_n 0, 1) := by decide +kernel
theorem dX12_feed_42 : decode cX12_feed 42 = .ok (.iload 5, 2) := by decide +kernel
theorem dX12_feed_44 : decode cX12_feed 44 = .ok (.invokevirtual 126, 3) := by decide +kernel
theorem dX12_feed_47 : decode cX12_feed 47 = .ok (.aload_n 0, 1) := by decide +kernel
theorem dX12_feed_48 : decode cX12_feed 48 = .ok (.getfield 123, 3) := by decide +kernel
theorem dX12_feed_51 : decode cX12_feed 51 = .ok (.ireturn, 1) := by decide +kernel
theorem dX12_comes_0 : decode cX12_comes 0 = .ok (.bipush 24, 2) := by decide +kernel
theorem dX12_comes_2 : decode cX12_comes 2 = .ok (.istore_n 2, 1) := by decide +kernel
theorem dX12_comes_3 : decode cX12_comes 3 = .ok (.iload_n 2, 1) := by decide +kernel
theorem dX12_comes_4 : decode cX12_comes 4 = .ok (.ifCond .lt 51, 3) := by decide +kernel
theorem dX12_comes_7 : decode cX12_comes 7 = .ok (.iload_n 1, 1) := by decide +kernel
theorem dX12_comes_8 : decode cX12_comes 8 = .ok (.iload_n 2, 1) := by decide +kernel
theorem dX12_comes_9 : decode cX12_comes 9 = .ok (.ishr, 1) := by decide +kernel
theorem dX12_comes_10 : decode cX12_comes 10 = .ok (.sipush 255, 3) := by decide +kernel
theorem dX12_comes_13 : decode cX12_comes 13 = .ok (.iand, 1) := by decide +kernel
theorem dX12_comes_14 : decode cX12_comes 14 = .ok (.istore_n 3, 1) := by decide +kernel
theorem dX12_comes_15 : decode cX12_comes 15 = .ok (.aload_n 0, 1) := by decide +kernel
theorem dX12_comes_16 : decode cX12_comes 16 = .ok (.getfield 22, 3) := by decide +kernel
theorem dX12_comes_19 : decode cX12_comes 19 = .ok (.aload_n 0, 1) := by decide +kernel
theorem dX12_comes_20 : decode cX12_comes 20 = .ok (.getfield 123, 3) := by decide +kernel
theorem dX12_comes_23 : decode cX12_comes 23 = .ok (.iload_n 3, 1) := by decide +kernel
theorem dX12_comes_24 : decode cX12_comes 24 = .ok (.bipush 127, 2) := by decide +kernel
theorem dX12_comes_26 : decode cX12_comes 26 = .ok (.if_icmp .le 11, 3) := by decide +kernel
theorem dX12_comes_29 : decode cX12_comes 29 = .ok (.iload_n 3, 1) := by decide +kernel
theorem dX12_comes_30 : decode cX12_comes 30 = .ok (.sipush 256, 3) := by decide +kernel
theorem dX12_comes_33 : decode cX12_comes 33 = .ok (.isub, 1) := by decide +kernel
theorem dX12_comes_34 : decode cX12_comes 34 = .ok (.goto 4, 3) := by decide +kernel
theorem dX12_comes_37 : decode cX12_comes 37 = .ok (.iload_n 3, 1) := by decide +kernel
theorem dX12_comes_38 : decode cX12_comes 38 = .ok (.iastore, 1) := by decide +kernel
theorem dX12_comes_39 : decode cX12_comes 39 = .ok (.aload_n 0, 1) := by decide +kernel
theorem dX12_comes_40 : decode cX12_comes 40 = .ok (.dup, 1) := by decide +kernel
theorem dX12_comes_41 : decode cX12_comes 41 = .ok (.getfield 123, 3) := by decide +kernel
theorem dX12_comes_44 : decode cX12_comes 44 = .ok (.iconst 1, 1) := by decide +kernel
theorem dX12_comes_45 : decode cX12_comes 45 = .ok (.iadd, 1) := by decide +kernel
theorem dX12_comes_46 : decode cX12_comes 46 = .ok (.putfield 123, 3) := by decide +kernel
theorem dX12_comes_49 : decode cX12_comes 49 = .ok (.iinc 2 (-8), 3) := by decide +kernel
theorem dX12_comes_52 : decode cX12_comes 52 = .ok (.goto (-49), 3) := by decide +kernel
theorem dX12_comes_55 : decode cX12_comes 55 = .ok (.return_, 1) := by decide +kernel
theorem dX12_adds_0 : decode cX12_adds 0 = .ok (.aload_n 0, 1) := by decide +kernel
theorem dX12_adds_1 : decode cX12_adds 1 = .ok (.getfield 19, 3) := by decide +kernel
theorem dX12_adds_4 : decode cX12_adds 4 = .ok (.aload_n 0, 1) := by decide +kernel
theorem dX12_adds_5 : decode cX12_adds 5 = .ok (.getfield 130, 3) := by decide +kernel
theorem dX12_adds_8 : decode cX12_adds 8 = .ok (.iload_n 1, 1) := by decide +kernel
theorem dX12_adds_9 : decode cX12_adds 9 = .ok (.iastore, 1) := by decide +kernel
theorem dX12_adds_10 : decode cX12_adds 10 = .ok (.aload_n 0, 1) := by decide +kernel
theorem dX12_adds_11 : decode cX12_adds 11 = .ok (.dup, 1) := by decide +kernel
theorem dX12_adds_12 : decode cX12_adds 12 = .ok (.getfield 130, 3) := by decide +kernel
theorem dX12_adds_15 : decode cX12_adds 15 = .ok (.iconst 1, 1) := by decide +kernel
theorem dX12_adds_16 : decode cX12_adds 16 = .ok (.iadd, 1) := by decide +kernel
theorem dX12_adds_17 : decode cX12_adds 17 = .ok (.putfield 130, 3) := by decide +kernel
theorem dX12_adds_20 : decode cX12_adds 20 = .ok (.return_, 1) := by decide +kernel
theorem dX12_samples_0 : decode cX12_samples 0 = .ok (.aload_n 0, 1) := by decide +kernel
theorem dX12_samples_1 : decode cX12_samples 1 = .ok (.iconst 0, 1) := by decide +kernel
theorem dX12_samples_2 : decode cX12_samples 2 = .ok (.putfield 119, 3) := by decide +kernel
theorem dX12_samples_5 : decode cX12_samples 5 = .ok (.iload_n 1, 1) := by decide +kernel
theorem dX12_samples_6 : decode cX12_samples 6 = .ok (.iconst 0, 1) := by decide +kernel
theorem dX12_samples_7 : decode cX12_samples 7 = .ok (.aload_n 0, 1) := by decide +kernel
theorem dX12_samples_8 : decode cX12_samples 8 = .ok (.getfield 123, 3) := by decide +kernel
theorem dX12_samples_11 : decode cX12_samples 11 = .ok (.invokestatic 133, 3) := by decide +kernel
theorem dX12_samples_14 : decode cX12_samples 14 = .ok (.ifCond .eq 15, 3) := by decide +kernel
theorem dX12_samples_17 : decode cX12_samples 17 = .ok (.aload_n 0, 1) := by decide +kernel
theorem dX12_samples_18 : decode cX12_samples 18 = .ok (.getfield 130, 3) := by decide +kernel
theorem dX12_samples_21 : decode cX12_samples 21 = .ok (.iload_n 1, 1) := by decide +kernel
theorem dX12_samples_22 : decode cX12_samples 22 = .ok (.iadd, 1) := by decide +kernel
theorem dX12_samples_23 : decode cX12_samples 23 = .ok (.sipush 800, 3) := by decide +kernel
theorem dX12_samples_26 : decode cX12_samples 26 = .ok (.if_icmp .le 7, 3) := by decide +kernel
theorem dX12_samples_29 : decode cX12_samples 29 = .ok (.sipush (-1000), 3) := by decide +kernel
theorem dX12_samples_32 : decode cX12_samples 32 = .ok (.ireturn, 1) := by decide +kernel
theorem dX12_samples_33 : decode cX12_samples 33 = .ok (.iconst 0, 1) := by decide +kernel
theorem dX12_samples_34 : decode cX12_samples 34 = .ok (.istore_n 2, 1) := by decide +kernel
theorem dX12_samples_35 : decode cX12_samples 35 = .ok (.iload_n 2, 1) := by decide +kernel
theorem dX12_samples_36 : decode cX12_samples 36 = .ok (.iload_n 1, 1) := by decide +kernel
theorem dX12_samples_37 : decode cX12_samples 37 = .ok (.if_icmp .ge 19, 3) := by decide +kernel
theorem dX12_samples_40 : decode cX12_samples 40 = .ok (.aload_n 0, 1) := by decide +kernel
theorem dX12_samples_41 : decode cX12_samples 41 = .ok (.aload_n 0, 1) := by decide +kernel
theorem dX12_samples_42 : decode cX12_samples 42 = .ok (.getfield 22, 3) := by decide +kernel
theorem dX12_samples_45 : decode cX12_samples 45 = .ok (.iload_n 2, 1) := by decide +kernel
theorem dX12_samples_46 : decode cX12_samples 46 = .ok (.iaload, 1) := by decide +kernel
theorem dX12_samples_47 : decode cX12_samples 47 = .ok (.invokevirtual 137, 3) := by decide +kernel
theorem dX12_samples_50 : decode cX12_samples 50 = .ok (.iinc 2 1, 3) := by decide +kernel
theorem dX12_samples_53 : decode cX12_samples 53 = .ok (.goto (-18), 3) := by decide +kernel
theorem dX12_samples_56 : decode cX12_samples 56 = .ok (.aload_n 0, 1) := by decide +kernel
theorem dX12_samples_57 : decode cX12_samples 57 = .ok (.iconst 0, 1) := by decide +kernel
theorem dX12_samples_58 : decode cX12_samples 58 = .ok (.putfield 123, 3) := by decide +kernel
theorem dX12_samples_61 : decode cX12_samples 61 = .ok (.aload_n 0, 1) := by decide +kernel
theorem dX12_samples_62 : decode cX12_samples 62 = .ok (.getfield 130, 3) := by decide +kernel
theorem dX12_samples_65 : decode cX12_samples 65 = .ok (.ireturn, 1) := by decide +kernel
theorem dX12_cycles_0 : decode cX12_cycles 0 = .ok (.aload_n 0, 1) := by decide +kernel
theorem dX12_cycles_1 : decode cX12_cycles 1 = .ok (.iconst 0, 1) := by decide +kernel
theorem dX12_cycles_2 : decode cX12_cycles 2 = .ok (.putfield 119, 3) := by decide +kernel
theorem dX12_cycles_5 : decode cX12_cycles 5 = .ok (.iload_n 1, 1) := by decide +kernel
theorem dX12_cycles_6 : decode cX12_cycles 6 = .ok (.iconst 2, 1) := by decide +kernel
theorem dX12_cycles_7 : decode cX12_cycles 7 = .ok (.bipush 48, 2) := by decide +kernel
theorem dX12_cycles_9 : decode cX12_cycles 9 = .ok (.invokestatic 133, 3) := by decide +kernel
theorem dX12_cycles_12 : decode cX12_cycles 12 = .ok (.ifCond .eq 37, 3) := by decide +kernel
theorem dX12_cycles_15 : decode cX12_cycles 15 = .ok (.iload_n 2, 1) := by decide +kernel
theorem dX12_cycles_16 : decode cX12_cycles 16 = .ok (.iconst 0, 1) := by decide +kernel
theorem dX12_cycles_17 : decode cX12_cycles 17 = .ok (.bipush 127, 2) := by decide +kernel
theorem dX12_cycles_19 : decode cX12_cycles 19 = .ok (.invokestatic 133, 3) := by decide +kernel
theorem dX12_cycles_22 : decode cX12_cycles 22 = .ok (.ifCond .eq 27, 3) := by decide +kernel
theorem dX12_cycles_25 : decode cX12_cycles 25 = .ok (.iload_n 3, 1) := by decide +kernel
theorem dX12_cycles_26 : decode cX12_cycles 26 = .ok (.iconst 1, 1) := by decide +kernel
theorem dX12_cycles_27 : decode cX12_cycles 27 = .ok (.bipush 50, 2) := by decide +kernel
theorem dX12_cycles_29 : decode cX12_cycles 29 = .ok (.invokestatic 133, 3) := by decide +kernel
theorem dX12_cycles_32 : decode cX12_cycles 32 = .ok (.ifCond .eq 17, 3) := by decide +kernel
theorem dX12_cycles_35 : decode cX12_cycles 35 = .ok (.aload_n 0, 1) := by decide +kernel
theorem dX12_cycles_36 : decode cX12_cycles 36 = .ok (.getfield 130, 3) := by decide +kernel
theorem dX12_cycles_39 : decode cX12_cycles 39 = .ok (.iload_n 1, 1) := by decide +kernel
theorem dX12_cycles_40 : decode cX12_cycles 40 = .ok (.iload_n 3, 1) := by decide +kernel
theorem dX12_cycles_41 : decode cX12_cycles 41 = .ok (.imul, 1) := by decide +kernel
theorem dX12_cycles_42 : decode cX12_cycles 42 = .ok (.iadd, 1) := by decide +kernel
theorem dX12_cycles_43 : decode cX12_cycles 43 = .ok (.sipush 800, 3) := by decide +kernel
theorem dX12_cycles_46 : decode cX12_cycles 46 = .ok (.if_icmp .le 7, 3) := by decide +kernel
theorem dX12_cycles_49 : decode cX12_cycles 49 = .ok (.sipush (-1000), 3) := by decide +kernel
theorem dX12_cycles_52 : decode cX12_cycles 52 = .ok (.ireturn, 1) := by decide +kernel
theorem dX12_cycles_53 : decode cX12_cycles 53 = .ok (.iconst 0, 1) := by decide +kernel
theorem dX12_cycles_54 : decode cX12_cycles 54 = .ok (.istore 4, 2) := by decide +kernel
theorem dX12_cycles_56 : decode cX12_cycles 56 = .ok (.iload 4, 2) := by decide +kernel
theorem dX12_cycles_58 : decode cX12_cycles 58 = .ok (.iload_n 3, 1) := by decide +kernel
theorem dX12_cycles_59 : decode cX12_cycles 59 = .ok (.if_icmp .ge 38, 3) := by decide +kernel
theorem dX12_cycles_62 : decode cX12_cycles 62 = .ok (.iconst 0, 1) := by decide +kernel
theorem dX12_cycles_63 : decode cX12_cycles 63 = .ok (.istore 5, 2) := by decide +kernel
theorem dX12_cycles_65 : decode cX12_cycles 65 = .ok (.iload 5, 2) := by decide +kernel
theorem dX12_cycles_67 : decode cX12_cycles 67 = .ok (.iload_n 1, 1) := by decide +kernel
theorem dX12_cycles_68 : decode cX12_cycles 68 = .ok (.if_icmp .ge 23, 3) := by decide +kernel
theorem dX12_cycles_71 : decode cX12_cycles 71 = .ok (.aload_n 0, 1) := by decide +kernel
theorem dX12_cycles_72 : decode cX12_cycles 72 = .ok (.iload_n 2, 1) := by decide +kernel
theorem dX12_cycles_73 : decode cX12_cycles 73 = .ok (.iconst 2, 1) := by decide +kernel
theorem dX12_cycles_74 : decode cX12_cycles 74 = .ok (.iload_n 2, 1) := by decide +kernel
theorem dX12_cycles_75 : decode cX12_cycles 75 = .ok (.imul, 1) := by decide +kernel
theorem dX12_cycles_76 : decode cX12_cycles 76 = .ok (.iload 5, 2) := by decide +kernel
theorem dX12_cycles_78 : decode cX12_cycles 78 = .ok (.imul, 1) := by decide +kernel
theorem dX12_cycles_79 : decode cX12_cycles 79 = .ok (.iload_n 1, 1) := by decide +kernel
theorem dX12_cycles_80 : decode cX12_cycles 80 = .ok (.idiv, 1) := by decide +kernel
theorem dX12_cycles_81 : decode cX12_cycles 81 = .ok (.isub, 1) := by decide +kernel
theorem dX12_cycles_82 : decode cX12_cycles 82 = .ok (.invokevirtual 137, 3) := by decide +kernel
theorem dX12_cycles_85 : decode cX12_cycles 85 = .ok (.iinc 5 1, 3) := by decide +kernel
theorem dX12_cycles_88 : decode cX12_cycles 88 = .ok (.goto (-23), 3) := by decide +kernel
theorem dX12_cycles_91 : decode cX12_cycles 91 = .ok (.iinc 4 1, 3) := by decide +kernel
theorem dX12_cycles_94 : decode cX12_cycles 94 = .ok (.goto (-38), 3) := by decide +kernel
theorem dX12_cycles_97 : decode cX12_cycles 97 = .ok (.aload_n 0, 1) := by decide +kernel
theorem dX12_cycles_98 : decode cX12_cycles 98 = .ok (.getfield 130, 3) := by decide +kernel
theorem dX12_cycles_101 : decode cX12_cycles 101 = .ok (.ireturn, 1) := by decide +kernel
theorem dX12_draw_0 : decode cX12_draw 0 = .ok (.aload_n 0, 1) := by decide +kernel
theorem dX12_draw_1 : decode cX12_draw 1 = .ok (.aload_n 0, 1) := by decide +kernel
theorem dX12_draw_2 : decode cX12_draw 2 = .ok (.getfield 140, 3) := by decide +kernel
theorem dX12_draw_5 : decode cX12_draw 5 = .ok (.ldc 143, 2) := by decide +kernel
theorem dX12_draw_7 : decode cX12_draw 7 = .ok (.imul, 1) := by decide +kernel
theorem dX12_draw_8 : decode cX12_draw 8 = .ok (.sipush 12345, 3) := by decide +kernel
theorem dX12_draw_11 : decode cX12_draw 11 = .ok (.iadd, 1) := by decide +kernel
theorem dX12_draw_12 : decode cX12_draw 12 = .ok (.putfield 140, 3) := by decide +kernel
theorem dX12_draw_15 : decode cX12_draw 15 = .ok (.aload_n 0, 1) := by decide +kernel
theorem dX12_draw_16 : decode cX12_draw 16 = .ok (.getfield 140, 3) := by decide +kernel
theorem dX12_draw_19 : decode cX12_draw 19 = .ok (.bipush 16, 2) := by decide +kernel
theorem dX12_draw_21 : decode cX12_draw 21 = .ok (.iushr, 1) := by decide +kernel
theorem dX12_draw_22 : decode cX12_draw 22 = .ok (.sipush 32767, 3) := by decide +kernel
theorem dX12_draw_25 : decode cX12_draw 25 = .ok (.iand, 1) := by decide +kernel
theorem dX12_draw_26 : decode cX12_draw 26 = .ok (.iload_n 1, 1) := by decide +kernel
theorem dX12_draw_27 : decode cX12_draw 27 = .ok (.irem, 1) := by decide +kernel
theorem dX12_draw_28 : decode cX12_draw 28 = .ok (.ireturn, 1) := by decide +kernel
theorem dX12_noise_0 : decode cX12_noise 0 = .ok (.aload_n 0, 1) := by decide +kernel
theorem dX12_noise_1 : decode cX12_noise 1 = .ok (.iconst 0, 1) := by decide +kernel
theorem dX12_noise_2 : decode cX12_noise 2 = .ok (.putfield 119, 3) := by decide +kernel
theorem dX12_noise_5 : decode cX12_noise 5 = .ok (.iload_n 2, 1) := by decide +kernel
theorem dX12_noise_6 : decode cX12_noise 6 = .ok (.iconst 1, 1) := by decide +kernel
theorem dX12_noise_7 : decode cX12_noise 7 = .ok (.sipush 400, 3) := by decide +kernel
theorem dX12_noise_10 : decode cX12_noise 10 = .ok (.invokestatic 133, 3) := by decide +kernel
theorem dX12_noise_13 : decode cX12_noise 13 = .ok (.ifCond .eq 25, 3) := by decide +kernel
theorem dX12_noise_16 : decode cX12_noise 16 = .ok (.iload_n 3, 1) := by decide +kernel
theorem dX12_noise_17 : decode cX12_noise 17 = .ok (.iconst 0, 1) := by decide +kernel
theorem dX12_noise_18 : decode cX12_noise 18 = .ok (.bipush 127, 2) := by decide +kernel
theorem dX12_noise_20 : decode cX12_noise 20 = .ok (.invokestatic 133, 3) := by decide +kernel
theorem dX12_noise_23 : decode cX12_noise 23 = .ok (.ifCond .eq 15, 3) := by decide +kernel
theorem dX12_noise_26 : decode cX12_noise 26 = .ok (.aload_n 0, 1) := by decide +kernel
theorem dX12_noise_27 : decode cX12_noise 27 = .ok (.getfield 130, 3) := by decide +kernel
theorem dX12_noise_30 : decode cX12_noise 30 = .ok (.iload_n 2, 1) := by decide +kernel
theorem dX12_noise_31 : decode cX12_noise 31 = .ok (.iadd, 1) := by decide +kernel
theorem dX12_noise_32 : decode cX12_noise 32 = .ok (.sipush 800, 3) := by decide +kernel
theorem dX12_noise_35 : decode cX12_noise 35 = .ok (.if_icmp .le 7, 3) := by decide +kernel
theorem dX12_noise_38 : decode cX12_noise 38 = .ok (.sipush (-1000), 3) := by decide +kernel
theorem dX12_noise_41 : decode cX12_noise 41 = .ok (.ireturn, 1) := by decide +kernel
theorem dX12_noise_42 : decode cX12_noise 42 = .ok (.aload_n 0, 1) := by decide +kernel
theorem dX12_noise_43 : decode cX12_noise 43 = .ok (.iload_n 1, 1) := by decide +kernel
theorem dX12_noise_44 : decode cX12_noise 44 = .ok (.putfield 140, 3) := by decide +kernel
theorem dX12_noise_47 : decode cX12_noise 47 = .ok (.iconst 0, 1) := by decide +kernel
theorem dX12_noise_48 : decode cX12_noise 48 = .ok (.istore 4, 2) := by decide +kernel
theorem dX12_noise_50 : decode cX12_noise 50 = .ok (.iload 4, 2) := by decide +kernel
theorem dX12_noise_52 : decode cX12_noise 52 = .ok (.iload_n 2, 1) := by decide +kernel
theorem dX12_noise_53 : decode cX12_noise 53 = .ok (.if_icmp .ge 24, 3) := by decide +kernel
theorem dX12_noise_56 : decode cX12_noise 56 = .ok (.aload_n 0, 1) := by decide +kernel
theorem dX12_noise_57 : decode cX12_noise 57 = .ok (.aload_n 0, 1) := by decide +kernel
theorem dX12_noise_58 : decode cX12_noise 58 = .ok (.iconst 2, 1) := by decide +kernel
theorem dX12_noise_59 : decode cX12_noise 59 = .ok (.iload_n 3, 1) := by decide +kernel
theorem dX12_noise_60 : decode cX12_noise 60 = .ok (.imul, 1) := by decide +kernel
theorem dX12_noise_61 : decode cX12_noise 61 = .ok (.iconst 1, 1) := by decide +kernel
theorem dX12_noise_62 : decode cX12_noise 62 = .ok (.iadd, 1) := by decide +kernel
theorem dX12_noise_63 : decode cX12_noise 63 = .ok (.invokevirtual 144, 3) := by decide +kernel
theorem dX12_noise_66 : decode cX12_noise 66 = .ok (.iload_n 3, 1) := by decide +kernel
theorem dX12_noise_67 : decode cX12_noise 67 = .ok (.isub, 1) := by decide +kernel
theorem dX12_noise_68 : decode cX12_noise 68 = .ok (.invokevirtual 137, 3) := by decide +kernel
theorem dX12_noise_71 : decode cX12_noise 71 = .ok (.iinc 4 1, 3) := by decide +kernel
theorem dX12_noise_74 : decode cX12_noise 74 = .ok (.goto (-24), 3) := by decide +kernel
theorem dX12_noise_77 : decode cX12_noise 77 = .ok (.aload_n 0, 1) := by decide +kernel
theorem dX12_noise_78 : decode cX12_noise 78 = .ok (.getfield 130, 3) := by decide +kernel
theorem dX12_noise_81 : decode cX12_noise 81 = .ok (.ireturn, 1) := by decide +kernel
theorem dX12_poke_0 : decode cX12_poke 0 = .ok (.aload_n 0, 1) := by decide +kernel
theorem dX12_poke_1 : decode cX12_poke 1 = .ok (.iconst 0, 1) := by decide +kernel
theorem dX12_poke_2 : decode cX12_poke 2 = .ok (.putfield 119, 3) := by decide +kernel
theorem dX12_poke_5 : decode cX12_poke 5 = .ok (.iload_n 1, 1) := by decide +kernel
theorem dX12_poke_6 : decode cX12_poke 6 = .ok (.iconst 0, 1) := by decide +kernel
theorem dX12_poke_7 : decode cX12_poke 7 = .ok (.aload_n 0, 1) := by decide +kernel
theorem dX12_poke_8 : decode cX12_poke 8 = .ok (.getfield 130, 3) := by decide +kernel
theorem dX12_poke_11 : decode cX12_poke 11 = .ok (.iconst 1, 1) := by decide +kernel
theorem dX12_poke_12 : decode cX12_poke 12 = .ok (.isub, 1) := by decide +kernel
theorem dX12_poke_13 : decode cX12_poke 13 = .ok (.invokestatic 133, 3) := by decide +kernel
theorem dX12_poke_16 : decode cX12_poke 16 = .ok (.ifCond .eq 14, 3) := by decide +kernel
theorem dX12_poke_19 : decode cX12_poke 19 = .ok (.iload_n 2, 1) := by decide +kernel
theorem dX12_poke_20 : decode cX12_poke 20 = .ok (.bipush (-128), 2) := by decide +kernel
theorem dX12_poke_22 : decode cX12_poke 22 = .ok (.bipush 127, 2) := by decide +kernel
theorem dX12_poke_24 : decode cX12_poke 24 = .ok (.invokestatic 133, 3) := by decide +kernel
theorem dX12_poke_27 : decode cX12_poke 27 = .ok (.ifCond .ne 7, 3) := by decide +kernel
theorem dX12_poke_30 : decode cX12_poke 30 = .ok (.sipush (-1000), 3) := by decide +kernel
theorem dX12_poke_33 : decode cX12_poke 33 = .ok (.ireturn, 1) := by decide +kernel
theorem dX12_poke_34 : decode cX12_poke 34 = .ok (.aload_n 0, 1) := by decide +kernel
theorem dX12_poke_35 : decode cX12_poke 35 = .ok (.getfield 19, 3) := by decide +kernel
theorem dX12_poke_38 : decode cX12_poke 38 = .ok (.iload_n 1, 1) := by decide +kernel
theorem dX12_poke_39 : decode cX12_poke 39 = .ok (.iaload, 1) := by decide +kernel
theorem dX12_poke_40 : decode cX12_poke 40 = .ok (.istore_n 3, 1) := by decide +kernel
theorem dX12_poke_41 : decode cX12_poke 41 = .ok (.aload_n 0, 1) := by decide +kernel
theorem dX12_poke_42 : decode cX12_poke 42 = .ok (.getfield 19, 3) := by decide +kernel
theorem dX12_poke_45 : decode cX12_poke 45 = .ok (.iload_n 1, 1) := by decide +kernel
theorem dX12_poke_46 : decode cX12_poke 46 = .ok (.iload_n 2, 1) := by decide +kernel
theorem dX12_poke_47 : decode cX12_poke 47 = .ok (.iastore, 1) := by decide +kernel
theorem dX12_poke_48 : decode cX12_poke 48 = .ok (.iload_n 3, 1) := by decide +kernel
theorem dX12_poke_49 : decode cX12_poke 49 = .ok (.ireturn, 1) := by decide +kernel
theorem dX12_cut_0 : decode cX12_cut 0 = .ok (.aload_n 0, 1) := by decide +kernel
theorem dX12_cut_1 : decode cX12_cut 1 = .ok (.iconst 0, 1) := by decide +kernel
theorem dX12_cut_2 : decode cX12_cut 2 = .ok (.putfield 119, 3) := by decide +kernel
theorem dX12_cut_5 : decode cX12_cut 5 = .ok (.iload_n 1, 1) := by decide +kernel
theorem dX12_cut_6 : decode cX12_cut 6 = .ok (.iconst 0, 1) := by decide +kernel
theorem dX12_cut_7 : decode cX12_cut 7 = .ok (.aload_n 0, 1) := by decide +kernel
theorem dX12_cut_8 : decode cX12_cut 8 = .ok (.getfield 130, 3) := by decide +kernel
theorem dX12_cut_11 : decode cX12_cut 11 = .ok (.invokestatic 133, 3) := by decide +kernel
theorem dX12_cut_14 : decode cX12_cut 14 = .ok (.ifCond .ne 7, 3) := by decide +kernel
theorem dX12_cut_17 : decode cX12_cut 17 = .ok (.sipush (-1000), 3) := by decide +kernel
theorem dX12_cut_20 : decode cX12_cut 20 = .ok (.ireturn, 1) := by decide +kernel
theorem dX12_cut_21 : decode cX12_cut 21 = .ok (.aload_n 0, 1) := by decide +kernel
theorem dX12_cut_22 : decode cX12_cut 22 = .ok (.dup, 1) := by decide +kernel
theorem dX12_cut_23 : decode cX12_cut 23 = .ok (.getfield 130, 3) := by decide +kernel
theorem dX12_cut_26 : decode cX12_cut 26 = .ok (.iload_n 1, 1) := by decide +kernel
theorem dX12_cut_27 : decode cX12_cut 27 = .ok (.isub, 1) := by decide +kernel
theorem dX12_cut_28 : decode cX12_cut 28 = .ok (.putfield 130, 3) := by decide +kernel
theorem dX12_cut_31 : decode cX12_cut 31 = .ok (.aload_n 0, 1) := by decide +kernel
theorem dX12_cut_32 : decode cX12_cut 32 = .ok (.getfield 130, 3) := by decide +kernel
theorem dX12_cut_35 : decode cX12_cut 35 = .ok (.ireturn, 1) := by decide +kernel
theorem dX12_sample_0 : decode cX12_sample 0 = .ok (.aload_n 0, 1) := by decide +kernel
theorem dX12_sample_1 : decode cX12_sample 1 = .ok (.iconst 0, 1) := by decide +kernel
theorem dX12_sample_2 : decode cX12_sample 2 = .ok (.putfield 119, 3) := by decide +kernel
theorem dX12_sample_5 : decode cX12_sample 5 = .ok (.aload_n 0, 1) := by decide +kernel
theorem dX12_sample_6 : decode cX12_sample 6 = .ok (.iload_n 1, 1) := by decide +kernel
theorem dX12_sample_7 : decode cX12_sample 7 = .ok (.iconst 0, 1) := by decide +kernel
theorem dX12_sample_8 : decode cX12_sample 8 = .ok (.aload_n 0, 1) := by decide +kernel
theorem dX12_sample_9 : decode cX12_sample 9 = .ok (.getfield 130, 3) := by decide +kernel
theorem dX12_sample_12 : decode cX12_sample 12 = .ok (.iconst 1, 1) := by decide +kernel
theorem dX12_sample_13 : decode cX12_sample 13 = .ok (.isub, 1) := by decide +kernel
theorem dX12_sample_14 : decode cX12_sample 14 = .ok (.invokestatic 133, 3) := by decide +kernel
theorem dX12_sample_17 : decode cX12_sample 17 = .ok (.iconst 1, 1) := by decide +kernel
theorem dX12_sample_18 : decode cX12_sample 18 = .ok (.invokevirtual 148, 3) := by decide +kernel
theorem dX12_sample_21 : decode cX12_sample 21 = .ok (.ifCond .eq 12, 3) := by decide +kernel
theorem dX12_sample_24 : decode cX12_sample 24 = .ok (.aload_n 0, 1) := by decide +kernel
theorem dX12_sample_25 : decode cX12_sample 25 = .ok (.getfield 19, 3) := by decide +kernel
theorem dX12_sample_28 : decode cX12_sample 28 = .ok (.iload_n 1, 1) := by decide +kernel
theorem dX12_sample_29 : decode cX12_sample 29 = .ok (.iaload, 1) := by decide +kernel
theorem dX12_sample_30 : decode cX12_sample 30 = .ok (.goto 4, 3) := by decide +kernel
theorem dX12_sample_33 : decode cX12_sample 33 = .ok (.iconst 0, 1) := by decide +kernel
theorem dX12_sample_34 : decode cX12_sample 34 = .ok (.ireturn, 1) := by decide +kernel
theorem dX12_at_0 : decode cX12_at 0 = .ok (.iload_n 1, 1) := by decide +kernel
theorem dX12_at_1 : decode cX12_at 1 = .ok (.iconst 0, 1) := by decide +kernel
theorem dX12_at_2 : decode cX12_at 2 = .ok (.aload_n 0, 1) := by decide +kernel
theorem dX12_at_3 : decode cX12_at 3 = .ok (.getfield 130, 3) := by decide +kernel
theorem dX12_at_6 : decode cX12_at 6 = .ok (.iconst 1, 1) := by decide +kernel
theorem dX12_at_7 : decode cX12_at 7 = .ok (.isub, 1) := by decide +kernel
theorem dX12_at_8 : decode cX12_at 8 = .ok (.invokestatic 133, 3) := by decide +kernel
theorem dX12_at_11 : decode cX12_at 11 = .ok (.ifCond .eq 12, 3) := by decide +kernel
theorem dX12_at_14 : decode cX12_at 14 = .ok (.aload_n 0, 1) := by decide +kernel
theorem dX12_at_15 : decode cX12_at 15 = .ok (.getfield 19, 3) := by decide +kernel
theorem dX12_at_18 : decode cX12_at 18 = .ok (.iload_n 1, 1) := by decide +kernel
theorem dX12_at_19 : decode cX12_at 19 = .ok (.iaload, 1) := by decide +kernel
theorem dX12_at_20 : decode cX12_at 20 = .ok (.goto 4, 3) := by decide +kernel
theorem dX12_at_23 : decode cX12_at 23 = .ok (.iconst 0, 1) := by decide +kernel
theorem dX12_at_24 : decode cX12_at 24 = .ok (.ireturn, 1) := by decide +kernel
theorem dX12_canBe_0 : decode cX12_canBe 0 = .ok (.iload_n 1, 1) := by decide +kernel
theorem dX12_canBe_1 : decode cX12_canBe 1 = .ok (.iconst 2, 1) := by decide +kernel
theorem dX12_canBe_2 : decode cX12_canBe 2 = .ok (.bipush 15, 2) := by decide +kernel
theorem dX12_canBe_4 : decode cX12_canBe 4 = .ok (.invokestatic 133, 3) := by decide +kernel
theorem dX12_canBe_7 : decode cX12_canBe 7 = .ok (.ifCond .eq 22, 3) := by decide +kernel
theorem dX12_canBe_10 : decode cX12_canBe 10 = .ok (.iload_n 2, 1) := by decide +kernel
theorem dX12_canBe_11 : decode cX12_canBe 11 = .ok (.aload_n 0, 1) := by decide +kernel
theorem dX12_canBe_12 : decode cX12_canBe 12 = .ok (.getfield 13, 3) := by decide +kernel
theorem dX12_canBe_15 : decode cX12_canBe 15 = .ok (.iload_n 1, 1) := by decide +kernel
theorem dX12_canBe_16 : decode cX12_canBe 16 = .ok (.iaload, 1) := by decide +kernel
theorem dX12_canBe_17 : decode cX12_canBe 17 = .ok (.aload_n 0, 1) := by decide +kernel
theorem dX12_canBe_18 : decode cX12_canBe 18 = .ok (.getfield 16, 3) := by decide +kernel
theorem dX12_canBe_21 : decode cX12_canBe 21 = .ok (.iload_n 1, 1) := by decide +kernel
theorem dX12_canBe_22 : decode cX12_canBe 22 = .ok (.iaload, 1) := by decide +kernel
theorem dX12_canBe_23 : decode cX12_canBe 23 = .ok (.invokestatic 133, 3) := by decide +kernel
theorem dX12_canBe_26 : decode cX12_canBe 26 = .ok (.ifCond .ne 5, 3) := by decide +kernel
theorem dX12_canBe_29 : decode cX12_canBe 29 = .ok (.iconst 0, 1) := by decide +kernel
theorem dX12_canBe_30 : decode cX12_canBe 30 = .ok (.ireturn, 1) := by decide +kernel
theorem dX12_canBe_31 : decode cX12_canBe 31 = .ok (.iload_n 1, 1) := by decide +kernel
theorem dX12_canBe_32 : decode cX12_canBe 32 = .ok (.iconst 4, 1) := by decide +kernel
theorem dX12_canBe_33 : decode cX12_canBe 33 = .ok (.if_icmp .ne 19, 3) := by decide +kernel
theorem dX12_canBe_36 : decode cX12_canBe 36 = .ok (.iload_n 2, 1) := by decide +kernel
theorem dX12_canBe_37 : decode cX12_canBe 37 = .ok (.aload_n 0, 1) := by decide +kernel
theorem dX12_canBe_38 : decode cX12_canBe 38 = .ok (.getfield 7, 3) := by decide +kernel
theorem dX12_canBe_41 : decode cX12_canBe 41 = .ok (.iconst 5, 1) := by decide +kernel
theorem dX12_canBe_42 : decode cX12_canBe 42 = .ok (.iaload, 1) := by decide +kernel
theorem dX12_canBe_43 : decode cX12_canBe 43 = .ok (.if_icmp .ge 7, 3) := by decide +kernel
theorem dX12_canBe_46 : decode cX12_canBe 46 = .ok (.iconst 1, 1) := by decide +kernel
theorem dX12_canBe_47 : decode cX12_canBe 47 = .ok (.goto 4, 3) := by decide +kernel
theorem dX12_canBe_50 : decode cX12_canBe 50 = .ok (.iconst 0, 1) := by decide +kernel
theorem dX12_canBe_51 : decode cX12_canBe 51 = .ok (.ireturn, 1) := by decide +kernel
theorem dX12_canBe_52 : decode cX12_canBe 52 = .ok (.iload_n 1, 1) := by decide +kernel
theorem dX12_canBe_53 : decode cX12_canBe 53 = .ok (.iconst 5, 1) := by decide +kernel
theorem dX12_canBe_54 : decode cX12_canBe 54 = .ok (.if_icmp .ne 13, 3) := by decide +kernel
theorem dX12_canBe_57 : decode cX12_canBe 57 = .ok (.iload_n 2, 1) := by decide +kernel
theorem dX12_canBe_58 : decode cX12_canBe 58 = .ok (.aload_n 0, 1) := by decide +kernel
theorem dX12_canBe_59 : decode cX12_canBe 59 = .ok (.getfield 7, 3) := by decide +kernel
theorem dX12_canBe_62 : decode cX12_canBe 62 = .ok (.iconst 4, 1) := by decide +kernel
theorem dX12_canBe_63 : decode cX12_canBe 63 = .ok (.iaload, 1) := by decide +kernel
theorem dX12_canBe_64 : decode cX12_canBe 64 = .ok (.if_icmp .le 7, 3) := by decide +kernel
theorem dX12_canBe_67 : decode cX12_canBe 67 = .ok (.iconst 1, 1) := by decide +kernel
theorem dX12_canBe_68 : decode cX12_canBe 68 = .ok (.goto 4, 3) := by decide +kernel
theorem dX12_canBe_71 : decode cX12_canBe 71 = .ok (.iconst 0, 1) := by decide +kernel
theorem dX12_canBe_72 : decode cX12_canBe 72 = .ok (.ireturn, 1) := by decide +kernel
theorem dX12_bound_0 : decode cX12_bound 0 = .ok (.aload_n 0, 1) := by decide +kernel
theorem dX12_bound_1 : decode cX12_bound 1 = .ok (.iconst 0, 1) := by decide +kernel
theorem dX12_bound_2 : decode cX12_bound 2 = .ok (.putfield 119, 3) := by decide +kernel
theorem dX12_bound_5 : decode cX12_bound 5 = .ok (.aload_n 0, 1) := by decide +kernel
theorem dX12_bound_6 : decode cX12_bound 6 = .ok (.iload_n 1, 1) := by decide +kernel
theorem dX12_bound_7 : decode cX12_bound 7 = .ok (.iload_n 2, 1) := by decide +kernel
theorem dX12_bound_8 : decode cX12_bound 8 = .ok (.invokevirtual 152, 3) := by decide +kernel
theorem dX12_bound_11 : decode cX12_bound 11 = .ok (.ifCond .ne 7, 3) := by decide +kernel
theorem dX12_bound_14 : decode cX12_bound 14 = .ok (.sipush (-1000), 3) := by decide +kernel
theorem dX12_bound_17 : decode cX12_bound 17 = .ok (.ireturn, 1) := by decide +kernel
theorem dX12_bound_18 : decode cX12_bound 18 = .ok (.aload_n 0, 1) := by decide +kernel
theorem dX12_bound_19 : decode cX12_bound 19 = .ok (.getfield 7, 3) := by decide +kernel
theorem dX12_bound_22 : decode cX12_bound 22 = .ok (.iload_n 1, 1) := by decide +kernel
theorem dX12_bound_23 : decode cX12_bound 23 = .ok (.iaload, 1) := by decide +kernel
theorem dX12_bound_24 : decode cX12_bound 24 = .ok (.istore_n 3, 1) := by decide +kernel
theorem dX12_bound_25 : decode cX12_bound 25 = .ok (.aload_n 0, 1) := by decide +kernel
theorem dX12_bound_26 : decode cX12_bound 26 = .ok (.getfield 7, 3) := by decide +kernel
theorem dX12_bound_29 : decode cX12_bound 29 = .ok (.iload_n 1, 1) := by decide +kernel
theorem dX12_bound_30 : decode cX12_bound 30 = .ok (.iload_n 2, 1) := by decide +kernel
theorem dX12_bound_31 : decode cX12_bound 31 = .ok (.iastore, 1) := by decide +kernel
theorem dX12_bound_32 : decode cX12_bound 32 = .ok (.iload_n 3, 1) := by decide +kernel
theorem dX12_bound_33 : decode cX12_bound 33 = .ok (.ireturn, 1) := by decide +kernel
theorem dX12_frames_0 : decode cX12_frames 0 = .ok (.aload_n 0, 1) := by decide +kernel
theorem dX12_frames_1 : decode cX12_frames 1 = .ok (.getfield 130, 3) := by decide +kernel
theorem dX12_frames_4 : decode cX12_frames 4 = .ok (.aload_n 0, 1) := by decide +kernel
theorem dX12_frames_5 : decode cX12_frames 5 = .ok (.getfield 7, 3) := by decide +kernel
theorem dX12_frames_8 : decode cX12_frames 8 = .ok (.iconst 3, 1) := by decide +kernel
theorem dX12_frames_9 : decode cX12_frames 9 = .ok (.iaload, 1) := by decide +kernel
theorem dX12_frames_10 : decode cX12_frames 10 = .ok (.isub, 1) := by decide +kernel
theorem dX12_frames_11 : decode cX12_frames 11 = .ok (.aload_n 0, 1) := by decide +kernel
theorem dX12_frames_12 : decode cX12_frames 12 = .ok (.getfield 7, 3) := by decide +kernel
theorem dX12_frames_15 : decode cX12_frames 15 = .ok (.iconst 5, 1) := by decide +kernel
theorem dX12_frames_16 : decode cX12_frames 16 = .ok (.iaload, 1) := by decide +kernel
theorem dX12_frames_17 : decode cX12_frames 17 = .ok (.isub, 1) := by decide +kernel
theorem dX12_frames_18 : decode cX12_frames 18 = .ok (.iconst 1, 1) := by decide +kernel
theorem dX12_frames_19 : decode cX12_frames 19 = .ok (.isub, 1) := by decide +kernel
theorem dX12_frames_20 : decode cX12_frames 20 = .ok (.istore_n 1, 1) := by decide +kernel
theorem dX12_frames_21 : decode cX12_frames 21 = .ok (.iload_n 1, 1) := by decide +kernel
theorem dX12_frames_22 : decode cX12_frames 22 = .ok (.ifCond .ge 7, 3) := by decide +kernel
theorem dX12_frames_25 : decode cX12_frames 25 = .ok (.iconst 0, 1) := by decide +kernel
theorem dX12_frames_26 : decode cX12_frames 26 = .ok (.goto 13, 3) := by decide +kernel
theorem dX12_frames_29 : decode cX12_frames 29 = .ok (.iload_n 1, 1) := by decide +kernel
theorem dX12_frames_30 : decode cX12_frames 30 = .ok (.aload_n 0, 1) := by decide +kernel
theorem dX12_frames_31 : decode cX12_frames 31 = .ok (.getfield 7, 3) := by decide +kernel
theorem dX12_frames_34 : decode cX12_frames 34 = .ok (.iconst 2, 1) := by decide +kernel
theorem dX12_frames_35 : decode cX12_frames 35 = .ok (.iaload, 1) := by decide +kernel
theorem dX12_frames_36 : decode cX12_frames 36 = .ok (.idiv, 1) := by decide +kernel
theorem dX12_frames_37 : decode cX12_frames 37 = .ok (.iconst 1, 1) := by decide +kernel
theorem dX12_frames_38 : decode cX12_frames 38 = .ok (.iadd, 1) := by decide +kernel
theorem dX12_frames_39 : decode cX12_frames 39 = .ok (.ireturn, 1) := by decide +kernel
theorem dX12_count_0 : decode cX12_count 0 = .ok (.aload_n 0, 1) := by decide +kernel
theorem dX12_count_1 : decode cX12_count 1 = .ok (.iconst 0, 1) := by decide +kernel
theorem dX12_count_2 : decode cX12_count 2 = .ok (.putfield 119, 3) := by decide +kernel
theorem dX12_count_5 : decode cX12_count 5 = .ok (.aload_n 0, 1) := by decide +kernel
theorem dX12_count_6 : decode cX12_count 6 = .ok (.iload_n 1, 1) := by decide +kernel
theorem dX12_count_7 : decode cX12_count 7 = .ok (.iconst 0, 1) := by decide +kernel
theorem dX12_count_8 : decode cX12_count 8 = .ok (.bipush 17, 2) := by decide +kernel
theorem dX12_count_10 : decode cX12_count 10 = .ok (.invokestatic 133, 3) := by decide +kernel
theorem dX12_count_13 : decode cX12_count 13 = .ok (.iconst 1, 1) := by decide +kernel
theorem dX12_count_14 : decode cX12_count 14 = .ok (.invokevirtual 148, 3) := by decide +kernel
theorem dX12_count_17 : decode cX12_count 17 = .ok (.ifCond .ne 5, 3) := by decide +kernel
theorem dX12_count_20 : decode cX12_count 20 = .ok (.iconst 0, 1) := by decide +kernel
theorem dX12_count_21 : decode cX12_count 21 = .ok (.ireturn, 1) := by decide +kernel
theorem dX12_count_22 : decode cX12_count 22 = .ok (.iload_n 1, 1) := by decide +kernel
theorem dX12_count_23 : decode cX12_count 23 = .ok (.lookupswitch 61 #[(0, 41), (1, 46), (16, 51), (17, 56)], 41) := by decide +kernel
theorem dX12_count_64 : decode cX12_count 64 = .ok (.aload_n 0, 1) := by decide +kernel
theorem dX12_count_65 : decode cX12_count 65 = .ok (.getfield 130, 3) := by decide +kernel
theorem dX12_count_68 : decode cX12_count 68 = .ok (.ireturn, 1) := by decide +kernel
theorem dX12_count_69 : decode cX12_count 69 = .ok (.aload_n 0, 1) := by decide +kernel
theorem dX12_count_70 : decode cX12_count 70 = .ok (.invokevirtual 156, 3) := by decide +kernel
theorem dX12_count_73 : decode cX12_count 73 = .ok (.ireturn, 1) := by decide +kernel
theorem dX12_count_74 : decode cX12_count 74 = .ok (.aload_n 0, 1) := by decide +kernel
theorem dX12_count_75 : decode cX12_count 75 = .ok (.getfield 123, 3) := by decide +kernel
theorem dX12_count_78 : decode cX12_count 78 = .ok (.ireturn, 1) := by decide +kernel
theorem dX12_count_79 : decode cX12_count 79 = .ok (.aload_n 0, 1) := by decide +kernel
theorem dX12_count_80 : decode cX12_count 80 = .ok (.getfield 160, 3) := by decide +kernel
theorem dX12_count_83 : decode cX12_count 83 = .ok (.ireturn, 1) := by decide +kernel
theorem dX12_count_84 : decode cX12_count 84 = .ok (.aload_n 0, 1) := by decide +kernel
theorem dX12_count_85 : decode cX12_count 85 = .ok (.getfield 7, 3) := by decide +kernel
theorem dX12_count_88 : decode cX12_count 88 = .ok (.iload_n 1, 1) := by decide +kernel
theorem dX12_count_89 : decode cX12_count 89 = .ok (.iaload, 1) := by decide +kernel
theorem dX12_count_90 : decode cX12_count 90 = .ok (.ireturn, 1) := by decide +kernel
theorem dX12_laysDiffs_0 : decode cX12_laysDiffs 0 = .ok (.iload_n 1, 1) := by decide +kernel
theorem dX12_laysDiffs_1 : decode cX12_laysDiffs 1 = .ok (.aload_n 0, 1) := by decide +kernel
theorem dX12_laysDiffs_2 : decode cX12_laysDiffs 2 = .ok (.getfield 7, 3) := by decide +kernel
theorem dX12_laysDiffs_5 : decode cX12_laysDiffs 5 = .ok (.iconst 2, 1) := by decide +kernel
theorem dX12_laysDiffs_6 : decode cX12_laysDiffs 6 = .ok (.iaload, 1) := by decide +kernel
theorem dX12_laysDiffs_7 : decode cX12_laysDiffs 7 = .ok (.imul, 1) := by decide +kernel
theorem dX12_laysDiffs_8 : decode cX12_laysDiffs 8 = .ok (.istore_n 2, 1) := by decide +kernel
theorem dX12_laysDiffs_9 : decode cX12_laysDiffs 9 = .ok (.iconst 0, 1) := by decide +kernel
theorem dX12_laysDiffs_10 : decode cX12_laysDiffs 10 = .ok (.istore_n 3, 1) := by decide +kernel
theorem dX12_laysDiffs_11 : decode cX12_laysDiffs 11 = .ok (.iconst 0, 1) := by decide +kernel
theorem dX12_laysDiffs_12 : decode cX12_laysDiffs 12 = .ok (.istore 4, 2) := by decide +kernel
theorem dX12_laysDiffs_14 : decode cX12_laysDiffs 14 = .ok (.iload 4, 2) := by decide +kernel
theorem dX12_laysDiffs_16 : decode cX12_laysDiffs 16 = .ok (.aload_n 0, 1) := by decide +kernel
theorem dX12_laysDiffs_17 : decode cX12_laysDiffs 17 = .ok (.getfield 7, 3) := by decide +kernel
theorem dX12_laysDiffs_20 : decode cX12_laysDiffs 20 = .ok (.iconst 5, 1) := by decide +kernel
theorem dX12_laysDiffs_21 : decode cX12_laysDiffs 21 = .ok (.iaload, 1) := by decide +kernel
theorem dX12_laysDiffs_22 : decode cX12_laysDiffs 22 = .ok (.iconst 1, 1) := by decide +kernel
theorem dX12_laysDiffs_23 : decode cX12_laysDiffs 23 = .ok (.iadd, 1) := by decide +kernel
theorem dX12_laysDiffs_24 : decode cX12_laysDiffs 24 = .ok (.if_icmp .gt 117, 3) := by decide +kernel
theorem dX12_laysDiffs_27 : decode cX12_laysDiffs 27 = .ok (.iconst 0, 1) := by decide +kernel
theorem dX12_laysDiffs_28 : decode cX12_laysDiffs 28 = .ok (.istore 5, 2) := by decide +kernel
theorem dX12_laysDiffs_30 : decode cX12_laysDiffs 30 = .ok (.iconst 0, 1) := by decide +kernel
theorem dX12_laysDiffs_31 : decode cX12_laysDiffs 31 = .ok (.istore 6, 2) := by decide +kernel
theorem dX12_laysDiffs_33 : decode cX12_laysDiffs 33 = .ok (.iload 6, 2) := by decide +kernel
theorem dX12_laysDiffs_35 : decode cX12_laysDiffs 35 = .ok (.aload_n 0, 1) := by decide +kernel
theorem dX12_laysDiffs_36 : decode cX12_laysDiffs 36 = .ok (.getfield 7, 3) := by decide +kernel
theorem dX12_laysDiffs_39 : decode cX12_laysDiffs 39 = .ok (.iconst 3, 1) := by decide +kernel
theorem dX12_laysDiffs_40 : decode cX12_laysDiffs 40 = .ok (.iaload, 1) := by decide +kernel
theorem dX12_laysDiffs_41 : decode cX12_laysDiffs 41 = .ok (.if_icmp .ge 38, 3) := by decide +kernel
theorem dX12_laysDiffs_44 : decode cX12_laysDiffs 44 = .ok (.iload 5, 2) := by decide +kernel
theorem dX12_laysDiffs_46 : decode cX12_laysDiffs 46 = .ok (.aload_n 0, 1) := by decide +kernel
theorem dX12_laysDiffs_47 : decode cX12_laysDiffs 47 = .ok (.getfield 19, 3) := by decide +kernel
theorem dX12_laysDiffs_50 : decode cX12_laysDiffs 50 = .ok (.iload_n 2, 1) := by decide +kernel
theorem dX12_laysDiffs_51 : decode cX12_laysDiffs 51 = .ok (.iload 6, 2) := by decide +kernel
theorem dX12_laysDiffs_53 : decode cX12_laysDiffs 53 = .ok (.iadd, 1) := by decide +kernel
theorem dX12_laysDiffs_54 : decode cX12_laysDiffs 54 = .ok (.iaload, 1) := by decide +kernel
theorem dX12_laysDiffs_55 : decode cX12_laysDiffs 55 = .ok (.aload_n 0, 1) := by decide +kernel
theorem dX12_laysDiffs_56 : decode cX12_laysDiffs 56 = .ok (.getfield 19, 3) := by decide +kernel
theorem dX12_laysDiffs_59 : decode cX12_laysDiffs 59 = .ok (.iload_n 2, 1) := by decide +kernel
theorem dX12_laysDiffs_60 : decode cX12_laysDiffs 60 = .ok (.iload 6, 2) := by decide +kernel
theorem dX12_laysDiffs_62 : decode cX12_laysDiffs 62 = .ok (.iadd, 1) := by decide +kernel
theorem dX12_laysDiffs_63 : decode cX12_laysDiffs 63 = .ok (.iload 4, 2) := by decide +kernel
theorem dX12_laysDiffs_65 : decode cX12_laysDiffs 65 = .ok (.iadd, 1) := by decide +kernel
theorem dX12_laysDiffs_66 : decode cX12_laysDiffs 66 = .ok (.iaload, 1) := by decide +kernel
theorem dX12_laysDiffs_67 : decode cX12_laysDiffs 67 = .ok (.invokestatic 163, 3) := by decide +kernel
theorem dX12_laysDiffs_70 : decode cX12_laysDiffs 70 = .ok (.iadd, 1) := by decide +kernel
theorem dX12_laysDiffs_71 : decode cX12_laysDiffs 71 = .ok (.istore 5, 2) := by decide +kernel
theorem dX12_laysDiffs_73 : decode cX12_laysDiffs 73 = .ok (.iinc 6 1, 3) := by decide +kernel
theorem dX12_laysDiffs_76 : decode cX12_laysDiffs 76 = .ok (.goto (-43), 3) := by decide +kernel
theorem dX12_laysDiffs_79 : decode cX12_laysDiffs 79 = .ok (.aload_n 0, 1) := by decide +kernel
theorem dX12_laysDiffs_80 : decode cX12_laysDiffs 80 = .ok (.getfield 28, 3) := by decide +kernel
theorem dX12_laysDiffs_83 : decode cX12_laysDiffs 83 = .ok (.iload 4, 2) := by decide +kernel
theorem dX12_laysDiffs_85 : decode cX12_laysDiffs 85 = .ok (.iload 5, 2) := by decide +kernel
theorem dX12_laysDiffs_87 : decode cX12_laysDiffs 87 = .ok (.iastore, 1) := by decide +kernel
theorem dX12_laysDiffs_88 : decode cX12_laysDiffs 88 = .ok (.iload_n 3, 1) := by decide +kernel
theorem dX12_laysDiffs_89 : decode cX12_laysDiffs 89 = .ok (.iload 4, 2) := by decide +kernel
theorem dX12_laysDiffs_91 : decode cX12_laysDiffs 91 = .ok (.ifCond .ne 7, 3) := by decide +kernel
theorem dX12_laysDiffs_94 : decode cX12_laysDiffs 94 = .ok (.iconst 0, 1) := by decide +kernel
theorem dX12_laysDiffs_95 : decode cX12_laysDiffs 95 = .ok (.goto 5, 3) := by decide +kernel
theorem dX12_laysDiffs_98 : decode cX12_laysDiffs 98 = .ok (.iload 5, 2) := by decide +kernel
theorem dX12_laysDiffs_100 : decode cX12_laysDiffs 100 = .ok (.iadd, 1) := by decide +kernel
theorem dX12_laysDiffs_101 : decode cX12_laysDiffs 101 = .ok (.istore_n 3, 1) := by decide +kernel
theorem dX12_laysDiffs_102 : decode cX12_laysDiffs 102 = .ok (.aload_n 0, 1) := by decide +kernel
theorem dX12_laysDiffs_103 : decode cX12_laysDiffs 103 = .ok (.getfield 31, 3) := by decide +kernel
theorem dX12_laysDiffs_106 : decode cX12_laysDiffs 106 = .ok (.iload 4, 2) := by decide +kernel
theorem dX12_laysDiffs_108 : decode cX12_laysDiffs 108 = .ok (.iload 4, 2) := by decide +kernel
theorem dX12_laysDiffs_110 : decode cX12_laysDiffs 110 = .ok (.ifCond .eq 7, 3) := by decide +kernel
theorem dX12_laysDiffs_113 : decode cX12_laysDiffs 113 = .ok (.iload_n 3, 1) := by decide +kernel
theorem dX12_laysDiffs_114 : decode cX12_laysDiffs 114 = .ok (.ifCond .ne 9, 3) := by decide +kernel
theorem dX12_laysDiffs_117 : decode cX12_laysDiffs 117 = .ok (.sipush 1000, 3) := by decide +kernel
theorem dX12_laysDiffs_120 : decode cX12_laysDiffs 120 = .ok (.goto 14, 3) := by decide +kernel
theorem dX12_laysDiffs_123 : decode cX12_laysDiffs 123 = .ok (.sipush 1000, 3) := by decide +kernel
theorem dX12_laysDiffs_126 : decode cX12_laysDiffs 126 = .ok (.iload 4, 2) := by decide +kernel
theorem dX12_laysDiffs_128 : decode cX12_laysDiffs 128 = .ok (.imul, 1) := by decide +kernel
theorem dX12_laysDiffs_129 : decode cX12_laysDiffs 129 = .ok (.iload 5, 2) := by decide +kernel
theorem dX12_laysDiffs_131 : decode cX12_laysDiffs 131 = .ok (.imul, 1) := by decide +kernel
theorem dX12_laysDiffs_132 : decode cX12_laysDiffs 132 = .ok (.iload_n 3, 1) := by decide +kernel
theorem dX12_laysDiffs_133 : decode cX12_laysDiffs 133 = .ok (.idiv, 1) := by decide +kernel
theorem dX12_laysDiffs_134 : decode cX12_laysDiffs 134 = .ok (.iastore, 1) := by decide +kernel
theorem dX12_laysDiffs_135 : decode cX12_laysDiffs 135 = .ok (.iinc 4 1, 3) := by decide +kernel
theorem dX12_laysDiffs_138 : decode cX12_laysDiffs 138 = .ok (.goto (-124), 3) := by decide +kernel
theorem dX12_laysDiffs_141 : decode cX12_laysDiffs 141 = .ok (.return_, 1) := by decide +kernel
theorem dX12_loudOf_0 : decode cX12_loudOf 0 = .ok (.iconst 0, 1) := by decide +kernel
theorem dX12_loudOf_1 : decode cX12_loudOf 1 = .ok (.istore_n 2, 1) := by decide +kernel
theorem dX12_loudOf_2 : decode cX12_loudOf 2 = .ok (.iconst 0, 1) := by decide +kernel
theorem dX12_loudOf_3 : decode cX12_loudOf 3 = .ok (.istore_n 3, 1) := by decide +kernel
theorem dX12_loudOf_4 : decode cX12_loudOf 4 = .ok (.iload_n 3, 1) := by decide +kernel
theorem dX12_loudOf_5 : decode cX12_loudOf 5 = .ok (.aload_n 0, 1) := by decide +kernel
theorem dX12_loudOf_6 : decode cX12_loudOf 6 = .ok (.getfield 7, 3) := by decide +kernel
theorem dX12_loudOf_9 : decode cX12_loudOf 9 = .ok (.iconst 3, 1) := by decide +kernel
theorem dX12_loudOf_10 : decode cX12_loudOf 10 = .ok (.iaload, 1) := by decide +kernel
theorem dX12_loudOf_11 : decode cX12_loudOf 11 = .ok (.if_icmp .ge 31, 3) := by decide +kernel
theorem dX12_loudOf_14 : decode cX12_loudOf 14 = .ok (.iload_n 2, 1) := by decide +kernel
theorem dX12_loudOf_15 : decode cX12_loudOf 15 = .ok (.aload_n 0, 1) := by decide +kernel
theorem dX12_loudOf_16 : decode cX12_loudOf 16 = .ok (.getfield 19, 3) := by decide +kernel
theorem dX12_loudOf_19 : decode cX12_loudOf 19 = .ok (.iload_n 1, 1) := by decide +kernel
theorem dX12_loudOf_20 : decode cX12_loudOf 20 = .ok (.aload_n 0, 1) := by decide +kernel
theorem dX12_loudOf_21 : decode cX12_loudOf 21 = .ok (.getfield 7, 3) := by decide +kernel
theorem dX12_loudOf_24 : decode cX12_loudOf 24 = .ok (.iconst 2, 1) := by decide +kernel
theorem dX12_loudOf_25 : decode cX12_loudOf 25 = .ok (.iaload, 1) := by decide +kernel
theorem dX12_loudOf_26 : decode cX12_loudOf 26 = .ok (.imul, 1) := by decide +kernel
theorem dX12_loudOf_27 : decode cX12_loudOf 27 = .ok (.iload_n 3, 1) := by decide +kernel
theorem dX12_loudOf_28 : decode cX12_loudOf 28 = .ok (.iadd, 1) := by decide +kernel
theorem dX12_loudOf_29 : decode cX12_loudOf 29 = .ok (.iaload, 1) := by decide +kernel
theorem dX12_loudOf_30 : decode cX12_loudOf 30 = .ok (.iconst 0, 1) := by decide +kernel
theorem dX12_loudOf_31 : decode cX12_loudOf 31 = .ok (.invokestatic 163, 3) := by decide +kernel
theorem dX12_loudOf_34 : decode cX12_loudOf 34 = .ok (.iadd, 1) := by decide +kernel
theorem dX12_loudOf_35 : decode cX12_loudOf 35 = .ok (.istore_n 2, 1) := by decide +kernel
theorem dX12_loudOf_36 : decode cX12_loudOf 36 = .ok (.iinc 3 1, 3) := by decide +kernel
theorem dX12_loudOf_39 : decode cX12_loudOf 39 = .ok (.goto (-35), 3) := by decide +kernel
theorem dX12_loudOf_42 : decode cX12_loudOf 42 = .ok (.iload_n 2, 1) := by decide +kernel
theorem dX12_loudOf_43 : decode cX12_loudOf 43 = .ok (.ireturn, 1) := by decide +kernel
theorem dX12_isFrame_0 : decode cX12_isFrame 0 = .ok (.aload_n 0, 1) := by decide +kernel
theorem dX12_isFrame_1 : decode cX12_isFrame 1 = .ok (.iload_n 1, 1) := by decide +kernel
theorem dX12_isFrame_2 : decode cX12_isFrame 2 = .ok (.iconst 0, 1) := by decide +kernel
theorem dX12_isFrame_3 : decode cX12_isFrame 3 = .ok (.aload_n 0, 1) := by decide +kernel
theorem dX12_isFrame_4 : decode cX12_isFrame 4 = .ok (.invokevirtual 156, 3) := by decide +kernel
theorem dX12_isFrame_7 : decode cX12_isFrame 7 = .ok (.iconst 1, 1) := by decide +kernel
theorem dX12_isFrame_8 : decode cX12_isFrame 8 = .ok (.isub, 1) := by decide +kernel
theorem dX12_isFrame_9 : decode cX12_isFrame 9 = .ok (.invokestatic 133, 3) := by decide +kernel
theorem dX12_isFrame_12 : decode cX12_isFrame 12 = .ok (.iconst 1, 1) := by decide +kernel
theorem dX12_isFrame_13 : decode cX12_isFrame 13 = .ok (.invokevirtual 148, 3) := by decide +kernel
theorem dX12_isFrame_16 : decode cX12_isFrame 16 = .ok (.ireturn, 1) := by decide +kernel
theorem dX12_isLag_0 : decode cX12_isLag 0 = .ok (.aload_n 0, 1) := by decide +kernel
theorem dX12_isLag_1 : decode cX12_isLag 1 = .ok (.iload_n 1, 1) := by decide +kernel
theorem dX12_isLag_2 : decode cX12_isLag 2 = .ok (.iconst 0, 1) := by decide +kernel
theorem dX12_isLag_3 : decode cX12_isLag 3 = .ok (.aload_n 0, 1) := by decide +kernel
theorem dX12_isLag_4 : decode cX12_isLag 4 = .ok (.getfield 7, 3) := by decide +kernel
theorem dX12_isLag_7 : decode cX12_isLag 7 = .ok (.iconst 5, 1) := by decide +kernel
theorem dX12_isLag_8 : decode cX12_isLag 8 = .ok (.iaload, 1) := by decide +kernel
theorem dX12_isLag_9 : decode cX12_isLag 9 = .ok (.iconst 1, 1) := by decide +kernel
theorem dX12_isLag_10 : decode cX12_isLag 10 = .ok (.iadd, 1) := by decide +kernel
theorem dX12_isLag_11 : decode cX12_isLag 11 = .ok (.invokestatic 133, 3) := by decide +kernel
theorem dX12_isLag_14 : decode cX12_isLag 14 = .ok (.iconst 1, 1) := by decide +kernel
theorem dX12_isLag_15 : decode cX12_isLag 15 = .ok (.invokevirtual 148, 3) := by decide +kernel
theorem dX12_isLag_18 : decode cX12_isLag 18 = .ok (.ireturn, 1) := by decide +kernel
theorem dX12_diff_0 : decode cX12_diff 0 = .ok (.aload_n 0, 1) := by decide +kernel
theorem dX12_diff_1 : decode cX12_diff 1 = .ok (.iconst 0, 1) := by decide +kernel
theorem dX12_diff_2 : decode cX12_diff 2 = .ok (.putfield 119, 3) := by decide +kernel
theorem dX12_diff_5 : decode cX12_diff 5 = .ok (.aload_n 0, 1) := by decide +kernel
theorem dX12_diff_6 : decode cX12_diff 6 = .ok (.iload_n 1, 1) := by decide +kernel
theorem dX12_diff_7 : decode cX12_diff 7 = .ok (.invokevirtual 167, 3) := by decide +kernel
theorem dX12_diff_10 : decode cX12_diff 10 = .ok (.ifCond .eq 11, 3) := by decide +kernel
theorem dX12_diff_13 : decode cX12_diff 13 = .ok (.aload_n 0, 1) := by decide +kernel
theorem dX12_diff_14 : decode cX12_diff 14 = .ok (.iload_n 2, 1) := by decide +kernel
theorem dX12_diff_15 : decode cX12_diff 15 = .ok (.invokevirtual 171, 3) := by decide +kernel
theorem dX12_diff_18 : decode cX12_diff 18 = .ok (.ifCond .ne 5, 3) := by decide +kernel
theorem dX12_diff_21 : decode cX12_diff 21 = .ok (.iconst 0, 1) := by decide +kernel
theorem dX12_diff_22 : decode cX12_diff 22 = .ok (.ireturn, 1) := by decide +kernel
theorem dX12_diff_23 : decode cX12_diff 23 = .ok (.aload_n 0, 1) := by decide +kernel
theorem dX12_diff_24 : decode cX12_diff 24 = .ok (.iload_n 1, 1) := by decide +kernel
theorem dX12_diff_25 : decode cX12_diff 25 = .ok (.invokevirtual 174, 3) := by decide +kernel
theorem dX12_diff_28 : decode cX12_diff 28 = .ok (.aload_n 0, 1) := by decide +kernel
theorem dX12_diff_29 : decode cX12_diff 29 = .ok (.getfield 28, 3) := by decide +kernel
theorem dX12_diff_32 : decode cX12_diff 32 = .ok (.iload_n 2, 1) := by decide +kernel
theorem dX12_diff_33 : decode cX12_diff 33 = .ok (.iaload, 1) := by decide +kernel
theorem dX12_diff_34 : decode cX12_diff 34 = .ok (.ireturn, 1) := by decide +kernel
theorem dX12_rel_0 : decode cX12_rel 0 = .ok (.aload_n 0, 1) := by decide +kernel
theorem dX12_rel_1 : decode cX12_rel 1 = .ok (.iconst 0, 1) := by decide +kernel
theorem dX12_rel_2 : decode cX12_rel 2 = .ok (.putfield 119, 3) := by decide +kernel
theorem dX12_rel_5 : decode cX12_rel 5 = .ok (.aload_n 0, 1) := by decide +kernel
theorem dX12_rel_6 : decode cX12_rel 6 = .ok (.iload_n 1, 1) := by decide +kernel
theorem dX12_rel_7 : decode cX12_rel 7 = .ok (.invokevirtual 167, 3) := by decide +kernel
theorem dX12_rel_10 : decode cX12_rel 10 = .ok (.ifCond .eq 11, 3) := by decide +kernel
theorem dX12_rel_13 : decode cX12_rel 13 = .ok (.aload_n 0, 1) := by decide +kernel
theorem dX12_rel_14 : decode cX12_rel 14 = .ok (.iload_n 2, 1) := by decide +kernel
theorem dX12_rel_15 : decode cX12_rel 15 = .ok (.invokevirtual 171, 3) := by decide +kernel
theorem dX12_rel_18 : decode cX12_rel 18 = .ok (.ifCond .ne 5, 3) := by decide +kernel
theorem dX12_rel_21 : decode cX12_rel 21 = .ok (.iconst 0, 1) := by decide +kernel
theorem dX12_rel_22 : decode cX12_rel 22 = .ok (.ireturn, 1) := by decide +kernel
theorem dX12_rel_23 : decode cX12_rel 23 = .ok (.aload_n 0, 1) := by decide +kernel
theorem dX12_rel_24 : decode cX12_rel 24 = .ok (.iload_n 1, 1) := by decide +kernel
theorem dX12_rel_25 : decode cX12_rel 25 = .ok (.invokevirtual 174, 3) := by decide +kernel
theorem dX12_rel_28 : decode cX12_rel 28 = .ok (.aload_n 0, 1) := by decide +kernel
theorem dX12_rel_29 : decode cX12_rel 29 = .ok (.getfield 31, 3) := by decide +kernel
theorem dX12_rel_32 : decode cX12_rel 32 = .ok (.iload_n 2, 1) := by decide +kernel
theorem dX12_rel_33 : decode cX12_rel 33 = .ok (.iaload, 1) := by decide +kernel
theorem dX12_rel_34 : decode cX12_rel 34 = .ok (.ireturn, 1) := by decide +kernel
theorem dX12_loud_0 : decode cX12_loud 0 = .ok (.aload_n 0, 1) := by decide +kernel
theorem dX12_loud_1 : decode cX12_loud 1 = .ok (.iconst 0, 1) := by decide +kernel
theorem dX12_loud_2 : decode cX12_loud 2 = .ok (.putfield 119, 3) := by decide +kernel
theorem dX12_loud_5 : decode cX12_loud 5 = .ok (.aload_n 0, 1) := by decide +kernel
theorem dX12_loud_6 : decode cX12_loud 6 = .ok (.iload_n 1, 1) := by decide +kernel
theorem dX12_loud_7 : decode cX12_loud 7 = .ok (.invokevirtual 167, 3) := by decide +kernel
theorem dX12_loud_10 : decode cX12_loud 10 = .ok (.ifCond .eq 11, 3) := by decide +kernel
theorem dX12_loud_13 : decode cX12_loud 13 = .ok (.aload_n 0, 1) := by decide +kernel
theorem dX12_loud_14 : decode cX12_loud 14 = .ok (.iload_n 1, 1) := by decide +kernel
theorem dX12_loud_15 : decode cX12_loud 15 = .ok (.invokevirtual 177, 3) := by decide +kernel
theorem dX12_loud_18 : decode cX12_loud 18 = .ok (.goto 4, 3) := by decide +kernel
theorem dX12_loud_21 : decode cX12_loud 21 = .ok (.iconst 0, 1) := by decide +kernel
theorem dX12_loud_22 : decode cX12_loud 22 = .ok (.ireturn, 1) := by decide +kernel
theorem dX12_isDipAt_0 : decode cX12_isDipAt 0 = .ok (.aload_n 0, 1) := by decide +kernel
theorem dX12_isDipAt_1 : decode cX12_isDipAt 1 = .ok (.getfield 31, 3) := by decide +kernel
theorem dX12_isDipAt_4 : decode cX12_isDipAt 4 = .ok (.iload_n 1, 1) := by decide +kernel
theorem dX12_isDipAt_5 : decode cX12_isDipAt 5 = .ok (.iaload, 1) := by decide +kernel
theorem dX12_isDipAt_6 : decode cX12_isDipAt 6 = .ok (.aload_n 0, 1) := by decide +kernel
theorem dX12_isDipAt_7 : decode cX12_isDipAt 7 = .ok (.getfield 7, 3) := by decide +kernel
theorem dX12_isDipAt_10 : decode cX12_isDipAt 10 = .ok (.bipush 6, 2) := by decide +kernel
theorem dX12_isDipAt_12 : decode cX12_isDipAt 12 = .ok (.iaload, 1) := by decide +kernel
theorem dX12_isDipAt_13 : decode cX12_isDipAt 13 = .ok (.if_icmp .gt 41, 3) := by decide +kernel
theorem dX12_isDipAt_16 : decode cX12_isDipAt 16 = .ok (.aload_n 0, 1) := by decide +kernel
theorem dX12_isDipAt_17 : decode cX12_isDipAt 17 = .ok (.getfield 31, 3) := by decide +kernel
theorem dX12_isDipAt_20 : decode cX12_isDipAt 20 = .ok (.iload_n 1, 1) := by decide +kernel
theorem dX12_isDipAt_21 : decode cX12_isDipAt 21 = .ok (.iaload, 1) := by decide +kernel
theorem dX12_isDipAt_22 : decode cX12_isDipAt 22 = .ok (.aload_n 0, 1) := by decide +kernel
theorem dX12_isDipAt_23 : decode cX12_isDipAt 23 = .ok (.getfield 31, 3) := by decide +kernel
theorem dX12_isDipAt_26 : decode cX12_isDipAt 26 = .ok (.iload_n 1, 1) := by decide +kernel
theorem dX12_isDipAt_27 : decode cX12_isDipAt 27 = .ok (.iconst 1, 1) := by decide +kernel
theorem dX12_isDipAt_28 : decode cX12_isDipAt 28 = .ok (.isub, 1) := by decide +kernel
theorem dX12_isDipAt_29 : decode cX12_isDipAt 29 = .ok (.iaload, 1) := by decide +kernel
theorem dX12_isDipAt_30 : decode cX12_isDipAt 30 = .ok (.if_icmp .ge 24, 3) := by decide +kernel
theorem dX12_isDipAt_33 : decode cX12_isDipAt 33 = .ok (.aload_n 0, 1) := by decide +kernel
theorem dX12_isDipAt_34 : decode cX12_isDipAt 34 = .ok (.getfield 31, 3) := by decide +kernel
theorem dX12_isDipAt_37 : decode cX12_isDipAt 37 = .ok (.iload_n 1, 1) := by decide +kernel
theorem dX12_isDipAt_38 : decode cX12_isDipAt 38 = .ok (.iaload, 1) := by decide +kernel
theorem dX12_isDipAt_39 : decode cX12_isDipAt 39 = .ok (.aload_n 0, 1) := by decide +kernel
theorem dX12_isDipAt_40 : decode cX12_isDipAt 40 = .ok (.getfield 31, 3) := by decide +kernel
theorem dX12_isDipAt_43 : decode cX12_isDipAt 43 = .ok (.iload_n 1, 1) := by decide +kernel
theorem dX12_isDipAt_44 : decode cX12_isDipAt 44 = .ok (.iconst 1, 1) := by decide +kernel
theorem dX12_isDipAt_45 : decode cX12_isDipAt 45 = .ok (.iadd, 1) := by decide +kernel
theorem dX12_isDipAt_46 : decode cX12_isDipAt 46 = .ok (.iaload, 1) := by decide +kernel
theorem dX12_isDipAt_47 : decode cX12_isDipAt 47 = .ok (.if_icmp .gt 7, 3) := by decide +kernel
theorem dX12_isDipAt_50 : decode cX12_isDipAt 50 = .ok (.iconst 1, 1) := by decide +kernel
theorem dX12_isDipAt_51 : decode cX12_isDipAt 51 = .ok (.goto 4, 3) := by decide +kernel
theorem dX12_isDipAt_54 : decode cX12_isDipAt 54 = .ok (.iconst 0, 1) := by decide +kernel
theorem dX12_isDipAt_55 : decode cX12_isDipAt 55 = .ok (.ireturn, 1) := by decide +kernel
theorem dX12_laysDips_0 : decode cX12_laysDips 0 = .ok (.aload_n 0, 1) := by decide +kernel
theorem dX12_laysDips_1 : decode cX12_laysDips 1 = .ok (.iload_n 1, 1) := by decide +kernel
theorem dX12_laysDips_2 : decode cX12_laysDips 2 = .ok (.invokevirtual 177, 3) := by decide +kernel
theorem dX12_laysDips_5 : decode cX12_laysDips 5 = .ok (.aload_n 0, 1) := by decide +kernel
theorem dX12_laysDips_6 : decode cX12_laysDips 6 = .ok (.getfield 7, 3) := by decide +kernel
theorem dX12_laysDips_9 : decode cX12_laysDips 9 = .ok (.bipush 14, 2) := by decide +kernel
theorem dX12_laysDips_11 : decode cX12_laysDips 11 = .ok (.iaload, 1) := by decide +kernel
theorem dX12_laysDips_12 : decode cX12_laysDips 12 = .ok (.if_icmp .lt 7, 3) := by decide +kernel
theorem dX12_laysDips_15 : decode cX12_laysDips 15 = .ok (.iconst 1, 1) := by decide +kernel
theorem dX12_laysDips_16 : decode cX12_laysDips 16 = .ok (.goto 4, 3) := by decide +kernel
theorem dX12_laysDips_19 : decode cX12_laysDips 19 = .ok (.iconst 0, 1) := by decide +kernel
theorem dX12_laysDips_20 : decode cX12_laysDips 20 = .ok (.istore_n 2, 1) := by decide +kernel
theorem dX12_laysDips_21 : decode cX12_laysDips 21 = .ok (.aload_n 0, 1) := by decide +kernel
theorem dX12_laysDips_22 : decode cX12_laysDips 22 = .ok (.getfield 7, 3) := by decide +kernel
theorem dX12_laysDips_25 : decode cX12_laysDips 25 = .ok (.iconst 4, 1) := by decide +kernel
theorem dX12_laysDips_26 : decode cX12_laysDips 26 = .ok (.iaload, 1) := by decide +kernel
theorem dX12_laysDips_27 : decode cX12_laysDips 27 = .ok (.istore_n 3, 1) := by decide +kernel
theorem dX12_laysDips_28 : decode cX12_laysDips 28 = .ok (.iload_n 3, 1) := by decide +kernel
theorem dX12_laysDips_29 : decode cX12_laysDips 29 = .ok (.aload_n 0, 1) := by decide +kernel
theorem dX12_laysDips_30 : decode cX12_laysDips 30 = .ok (.getfield 7, 3) := by decide +kernel
theorem dX12_laysDips_33 : decode cX12_laysDips 33 = .ok (.iconst 5, 1) := by decide +kernel
theorem dX12_laysDips_34 : decode cX12_laysDips 34 = .ok (.iaload, 1) := by decide +kernel
theorem dX12_laysDips_35 : decode cX12_laysDips 35 = .ok (.if_icmp .gt 32, 3) := by decide +kernel
theorem dX12_laysDips_38 : decode cX12_laysDips 38 = .ok (.aload_n 0, 1) := by decide +kernel
theorem dX12_laysDips_39 : decode cX12_laysDips 39 = .ok (.getfield 43, 3) := by decide +kernel
theorem dX12_laysDips_42 : decode cX12_laysDips 42 = .ok (.iload_n 3, 1) := by decide +kernel
theorem dX12_laysDips_43 : decode cX12_laysDips 43 = .ok (.iload_n 2, 1) := by decide +kernel
theorem dX12_laysDips_44 : decode cX12_laysDips 44 = .ok (.ifCond .eq 15, 3) := by decide +kernel
theorem dX12_laysDips_47 : decode cX12_laysDips 47 = .ok (.aload_n 0, 1) := by decide +kernel
theorem dX12_laysDips_48 : decode cX12_laysDips 48 = .ok (.iload_n 3, 1) := by decide +kernel
theorem dX12_laysDips_49 : decode cX12_laysDips 49 = .ok (.invokevirtual 180, 3) := by decide +kernel
theorem dX12_laysDips_52 : decode cX12_laysDips 52 = .ok (.ifCond .eq 7, 3) := by decide +kernel
theorem dX12_laysDips_55 : decode cX12_laysDips 55 = .ok (.iconst 1, 1) := by decide +kernel
theorem dX12_laysDips_56 : decode cX12_laysDips 56 = .ok (.goto 4, 3) := by decide +kernel
theorem dX12_laysDips_59 : decode cX12_laysDips 59 = .ok (.iconst 0, 1) := by decide +kernel
theorem dX12_laysDips_60 : decode cX12_laysDips 60 = .ok (.bastore, 1) := by decide +kernel
theorem dX12_laysDips_61 : decode cX12_laysDips 61 = .ok (.iinc 3 1, 3) := by decide +kernel
theorem dX12_laysDips_64 : decode cX12_laysDips 64 = .ok (.goto (-36), 3) := by decide +kernel
theorem dX12_laysDips_67 : decode cX12_laysDips 67 = .ok (.return_, 1) := by decide +kernel
theorem dX12_aheadOf_0 : decode cX12_aheadOf 0 = .ok (.iconst 0, 1) := by decide +kernel
theorem dX12_aheadOf_1 : decode cX12_aheadOf 1 = .ok (.istore_n 2, 1) := by decide +kernel
theorem dX12_aheadOf_2 : decode cX12_aheadOf 2 = .ok (.aload_n 0, 1) := by decide +kernel
theorem dX12_aheadOf_3 : decode cX12_aheadOf 3 = .ok (.getfield 7, 3) := by decide +kernel
theorem dX12_aheadOf_6 : decode cX12_aheadOf 6 = .ok (.iconst 4, 1) := by decide +kernel
theorem dX12_aheadOf_7 : decode cX12_aheadOf 7 = .ok (.iaload, 1) := by decide +kernel
theorem dX12_aheadOf_8 : decode cX12_aheadOf 8 = .ok (.istore_n 3, 1) := by decide +kernel
theorem dX12_aheadOf_9 : decode cX12_aheadOf 9 = .ok (.iload_n 3, 1) := by decide +kernel
theorem dX12_aheadOf_10 : decode cX12_aheadOf 10 = .ok (.aload_n 0, 1) := by decide +kernel
theorem dX12_aheadOf_11 : decode cX12_aheadOf 11 = .ok (.getfield 7, 3) := by decide +kernel
theorem dX12_aheadOf_14 : decode cX12_aheadOf 14 = .ok (.iconst 5, 1) := by decide +kernel
theorem dX12_aheadOf_15 : decode cX12_aheadOf 15 = .ok (.iaload, 1) := by decide +kernel
theorem dX12_aheadOf_16 : decode cX12_aheadOf 16 = .ok (.if_icmp .gt 56, 3) := by decide +kernel
theorem dX12_aheadOf_19 : decode cX12_aheadOf 19 = .ok (.aload_n 0, 1) := by decide +kernel
theorem dX12_aheadOf_20 : decode cX12_aheadOf 20 = .ok (.getfield 43, 3) := by decide +kernel
theorem dX12_aheadOf_23 : decode cX12_aheadOf 23 = .ok (.iload_n 3, 1) := by decide +kernel
theorem dX12_aheadOf_24 : decode cX12_aheadOf 24 = .ok (.baload, 1) := by decide +kernel
theorem dX12_aheadOf_25 : decode cX12_aheadOf 25 = .ok (.ifCond .eq 41, 3) := by decide +kernel
theorem dX12_aheadOf_28 : decode cX12_aheadOf 28 = .ok (.aload_n 0, 1) := by decide +kernel
theorem dX12_aheadOf_29 : decode cX12_aheadOf 29 = .ok (.getfield 31, 3) := by decide +kernel
theorem dX12_aheadOf_32 : decode cX12_aheadOf 32 = .ok (.iload_n 3, 1) := by decide +kernel
theorem dX12_aheadOf_33 : decode cX12_aheadOf 33 = .ok (.iaload, 1) := by decide +kernel
theorem dX12_aheadOf_34 : decode cX12_aheadOf 34 = .ok (.aload_n 0, 1) := by decide +kernel
theorem dX12_aheadOf_35 : decode cX12_aheadOf 35 = .ok (.getfield 31, 3) := by decide +kernel
theorem dX12_aheadOf_38 : decode cX12_aheadOf 38 = .ok (.iload_n 1, 1) := by decide +kernel
theorem dX12_aheadOf_39 : decode cX12_aheadOf 39 = .ok (.iaload, 1) := by decide +kernel
theorem dX12_aheadOf_40 : decode cX12_aheadOf 40 = .ok (.if_icmp .lt 23, 3) := by decide +kernel
theorem dX12_aheadOf_43 : decode cX12_aheadOf 43 = .ok (.aload_n 0, 1) := by decide +kernel
theorem dX12_aheadOf_44 : decode cX12_aheadOf 44 = .ok (.getfield 31, 3) := by decide +kernel
theorem dX12_aheadOf_47 : decode cX12_aheadOf 47 = .ok (.iload_n 3, 1) := by decide +kernel
theorem dX12_aheadOf_48 : decode cX12_aheadOf 48 = .ok (.iaload, 1) := by decide +kernel
theorem dX12_aheadOf_49 : decode cX12_aheadOf 49 = .ok (.aload_n 0, 1) := by decide +kernel
theorem dX12_aheadOf_50 : decode cX12_aheadOf 50 = .ok (.getfield 31, 3) := by decide +kernel
theorem dX12_aheadOf_53 : decode cX12_aheadOf 53 = .ok (.iload_n 1, 1) := by decide +kernel
theorem dX12_aheadOf_54 : decode cX12_aheadOf 54 = .ok (.iaload, 1) := by decide +kernel
theorem dX12_aheadOf_55 : decode cX12_aheadOf 55 = .ok (.if_icmp .ne 11, 3) := by decide +kernel
theorem dX12_aheadOf_58 : decode cX12_aheadOf 58 = .ok (.iload_n 3, 1) := by decide +kernel
theorem dX12_aheadOf_59 : decode cX12_aheadOf 59 = .ok (.iload_n 1, 1) := by decide +kernel
theorem dX12_aheadOf_60 : decode cX12_aheadOf 60 = .ok (.if_icmp .ge 6, 3) := by decide +kernel
theorem dX12_aheadOf_63 : decode cX12_aheadOf 63 = .ok (.iinc 2 1, 3) := by decide +kernel
theorem dX12_aheadOf_66 : decode cX12_aheadOf 66 = .ok (.iinc 3 1, 3) := by decide +kernel
theorem dX12_aheadOf_69 : decode cX12_aheadOf 69 = .ok (.goto (-60), 3) := by decide +kernel
theorem dX12_aheadOf_72 : decode cX12_aheadOf 72 = .ok (.iload_n 2, 1) := by decide +kernel
theorem dX12_aheadOf_73 : decode cX12_aheadOf 73 = .ok (.ireturn, 1) := by decide +kernel
theorem dX12_laysFrame_0 : decode cX12_laysFrame 0 = .ok (.aload_n 0, 1) := by decide +kernel
theorem dX12_laysFrame_1 : decode cX12_laysFrame 1 = .ok (.iload_n 1, 1) := by decide +kernel
theorem dX12_laysFrame_2 : decode cX12_laysFrame 2 = .ok (.invokevirtual 174, 3) := by decide +kernel
theorem dX12_laysFrame_5 : decode cX12_laysFrame 5 = .ok (.aload_n 0, 1) := by decide +kernel
theorem dX12_laysFrame_6 : decode cX12_laysFrame 6 = .ok (.iload_n 1, 1) := by decide +kernel
theorem dX12_laysFrame_7 : decode cX12_laysFrame 7 = .ok (.invokevirtual 183, 3) := by decide +kernel
theorem dX12_laysFrame_10 : decode cX12_laysFrame 10 = .ok (.iconst 0, 1) := by decide +kernel
theorem dX12_laysFrame_11 : decode cX12_laysFrame 11 = .ok (.istore_n 2, 1) := by decide +kernel
theorem dX12_laysFrame_12 : decode cX12_laysFrame 12 = .ok (.aload_n 0, 1) := by decide +kernel
theorem dX12_laysFrame_13 : decode cX12_laysFrame 13 = .ok (.getfield 7, 3) := by decide +kernel
theorem dX12_laysFrame_16 : decode cX12_laysFrame 16 = .ok (.iconst 4, 1) := by decide +kernel
theorem dX12_laysFrame_17 : decode cX12_laysFrame 17 = .ok (.iaload, 1) := by decide +kernel
theorem dX12_laysFrame_18 : decode cX12_laysFrame 18 = .ok (.istore_n 3, 1) := by decide +kernel
theorem dX12_laysFrame_19 : decode cX12_laysFrame 19 = .ok (.iload_n 3, 1) := by decide +kernel
theorem dX12_laysFrame_20 : decode cX12_laysFrame 20 = .ok (.aload_n 0, 1) := by decide +kernel
theorem dX12_laysFrame_21 : decode cX12_laysFrame 21 = .ok (.getfield 7, 3) := by decide +kernel
theorem dX12_laysFrame_24 : decode cX12_laysFrame 24 = .ok (.iconst 5, 1) := by decide +kernel
theorem dX12_laysFrame_25 : decode cX12_laysFrame 25 = .ok (.iaload, 1) := by decide +kernel
theorem dX12_laysFrame_26 : decode cX12_laysFrame 26 = .ok (.if_icmp .gt 78, 3) := by decide +kernel
theorem dX12_laysFrame_29 : decode cX12_laysFrame 29 = .ok (.aload_n 0, 1) := by decide +kernel
theorem dX12_laysFrame_30 : decode cX12_laysFrame 30 = .ok (.getfield 43, 3) := by decide +kernel
theorem dX12_laysFrame_33 : decode cX12_laysFrame 33 = .ok (.iload_n 3, 1) := by decide +kernel
theorem dX12_laysFrame_34 : decode cX12_laysFrame 34 = .ok (.baload, 1) := by decide +kernel
theorem dX12_laysFrame_35 : decode cX12_laysFrame 35 = .ok (.ifCond .eq 63, 3) := by decide +kernel
theorem dX12_laysFrame_38 : decode cX12_laysFrame 38 = .ok (.aload_n 0, 1) := by decide +kernel
theorem dX12_laysFrame_39 : decode cX12_laysFrame 39 = .ok (.iload_n 3, 1) := by decide +kernel
theorem dX12_laysFrame_40 : decode cX12_laysFrame 40 = .ok (.invokevirtual 186, 3) := by decide +kernel
theorem dX12_laysFrame_43 : decode cX12_laysFrame 43 = .ok (.aload_n 0, 1) := by decide +kernel
theorem dX12_laysFrame_44 : decode cX12_laysFrame 44 = .ok (.getfield 7, 3) := by decide +kernel
theorem dX12_laysFrame_47 : decode cX12_laysFrame 47 = .ok (.bipush 7, 2) := by decide +kernel
theorem dX12_laysFrame_49 : decode cX12_laysFrame 49 = .ok (.iaload, 1) := by decide +kernel
theorem dX12_laysFrame_50 : decode cX12_laysFrame 50 = .ok (.if_icmp .lt 6, 3) := by decide +kernel
theorem dX12_laysFrame_53 : decode cX12_laysFrame 53 = .ok (.goto 45, 3) := by decide +kernel
theorem dX12_laysFrame_56 : decode cX12_laysFrame 56 = .ok (.aload_n 0, 1) := by decide +kernel
theorem dX12_laysFrame_57 : decode cX12_laysFrame 57 = .ok (.getfield 34, 3) := by decide +kernel
theorem dX12_laysFrame_60 : decode cX12_laysFrame 60 = .ok (.bipush 6, 2) := by decide +kernel
theorem dX12_laysFrame_62 : decode cX12_laysFrame 62 = .ok (.iload_n 1, 1) := by decide +kernel
theorem dX12_laysFrame_63 : decode cX12_laysFrame 63 = .ok (.imul, 1) := by decide +kernel
theorem dX12_laysFrame_64 : decode cX12_laysFrame 64 = .ok (.iload_n 2, 1) := by decide +kernel
theorem dX12_laysFrame_65 : decode cX12_laysFrame 65 = .ok (.iadd, 1) := by decide +kernel
theorem dX12_laysFrame_66 : decode cX12_laysFrame 66 = .ok (.iload_n 3, 1) := by decide +kernel
theorem dX12_laysFrame_67 : decode cX12_laysFrame 67 = .ok (.iastore, 1) := by decide +kernel
theorem dX12_laysFrame_68 : decode cX12_laysFrame 68 = .ok (.aload_n 0, 1) := by decide +kernel
theorem dX12_laysFrame_69 : decode cX12_laysFrame 69 = .ok (.getfield 37, 3) := by decide +kernel
theorem dX12_laysFrame_72 : decode cX12_laysFrame 72 = .ok (.bipush 6, 2) := by decide +kernel
theorem dX12_laysFrame_74 : decode cX12_laysFrame 74 = .ok (.iload_n 1, 1) := by decide +kernel
theorem dX12_laysFrame_75 : decode cX12_laysFrame 75 = .ok (.imul, 1) := by decide +kernel
theorem dX12_laysFrame_76 : decode cX12_laysFrame 76 = .ok (.iload_n 2, 1) := by decide +kernel
theorem dX12_laysFrame_77 : decode cX12_laysFrame 77 = .ok (.iadd, 1) := by decide +kernel
theorem dX12_laysFrame_78 : decode cX12_laysFrame 78 = .ok (.aload_n 0, 1) := by decide +kernel
theorem dX12_laysFrame_79 : decode cX12_laysFrame 79 = .ok (.getfield 31, 3) := by decide +kernel
theorem dX12_laysFrame_82 : decode cX12_laysFrame 82 = .ok (.iload_n 3, 1) := by decide +kernel
theorem dX12_laysFrame_83 : decode cX12_laysFrame 83 = .ok (.iaload, 1) := by decide +kernel
theorem dX12_laysFrame_84 : decode cX12_laysFrame 84 = .ok (.aload_n 0, 1) := by decide +kernel
theorem dX12_laysFrame_85 : decode cX12_laysFrame 85 = .ok (.getfield 7, 3) := by decide +kernel
theorem dX12_laysFrame_88 : decode cX12_laysFrame 88 = .ok (.bipush 8, 2) := by decide +kernel
theorem dX12_laysFrame_90 : decode cX12_laysFrame 90 = .ok (.iaload, 1) := by decide +kernel
theorem dX12_laysFrame_91 : decode cX12_laysFrame 91 = .ok (.iload_n 3, 1) := by decide +kernel
theorem dX12_laysFrame_92 : decode cX12_laysFrame 92 = .ok (.imul, 1) := by decide +kernel
theorem dX12_laysFrame_93 : decode cX12_laysFrame 93 = .ok (.iadd, 1) := by decide +kernel
theorem dX12_laysFrame_94 : decode cX12_laysFrame 94 = .ok (.iastore, 1) := by decide +kernel
theorem dX12_laysFrame_95 : decode cX12_laysFrame 95 = .ok (.iinc 2 1, 3) := by decide +kernel
theorem dX12_laysFrame_98 : decode cX12_laysFrame 98 = .ok (.iinc 3 1, 3) := by decide +kernel
theorem dX12_laysFrame_101 : decode cX12_laysFrame 101 = .ok (.goto (-82), 3) := by decide +kernel
theorem dX12_laysFrame_104 : decode cX12_laysFrame 104 = .ok (.aload_n 0, 1) := by decide +kernel
theorem dX12_laysFrame_105 : decode cX12_laysFrame 105 = .ok (.getfield 34, 3) := by decide +kernel
theorem dX12_laysFrame_108 : decode cX12_laysFrame 108 = .ok (.bipush 6, 2) := by decide +kernel
theorem dX12_laysFrame_110 : decode cX12_laysFrame 110 = .ok (.iload_n 1, 1) := by decide +kernel
theorem dX12_laysFrame_111 : decode cX12_laysFrame 111 = .ok (.imul, 1) := by decide +kernel
theorem dX12_laysFrame_112 : decode cX12_laysFrame 112 = .ok (.iload_n 2, 1) := by decide +kernel
theorem dX12_laysFrame_113 : decode cX12_laysFrame 113 = .ok (.iadd, 1) := by decide +kernel
theorem dX12_laysFrame_114 : decode cX12_laysFrame 114 = .ok (.iconst 0, 1) := by decide +kernel
theorem dX12_laysFrame_115 : decode cX12_laysFrame 115 = .ok (.iastore, 1) := by decide +kernel
theorem dX12_laysFrame_116 : decode cX12_laysFrame 116 = .ok (.aload_n 0, 1) := by decide +kernel
theorem dX12_laysFrame_117 : decode cX12_laysFrame 117 = .ok (.getfield 37, 3) := by decide +kernel
theorem dX12_laysFrame_120 : decode cX12_laysFrame 120 = .ok (.bipush 6, 2) := by decide +kernel
theorem dX12_laysFrame_122 : decode cX12_laysFrame 122 = .ok (.iload_n 1, 1) := by decide +kernel
theorem dX12_laysFrame_123 : decode cX12_laysFrame 123 = .ok (.imul, 1) := by decide +kernel
theorem dX12_laysFrame_124 : decode cX12_laysFrame 124 = .ok (.iload_n 2, 1) := by decide +kernel
theorem dX12_laysFrame_125 : decode cX12_laysFrame 125 = .ok (.iadd, 1) := by decide +kernel
theorem dX12_laysFrame_126 : decode cX12_laysFrame 126 = .ok (.aload_n 0, 1) := by decide +kernel
theorem dX12_laysFrame_127 : decode cX12_laysFrame 127 = .ok (.getfield 7, 3) := by decide +kernel
theorem dX12_laysFrame_130 : decode cX12_laysFrame 130 = .ok (.bipush 9, 2) := by decide +kernel
theorem dX12_laysFrame_132 : decode cX12_laysFrame 132 = .ok (.iaload, 1) := by decide +kernel
theorem dX12_laysFrame_133 : decode cX12_laysFrame 133 = .ok (.iastore, 1) := by decide +kernel
theorem dX12_laysFrame_134 : decode cX12_laysFrame 134 = .ok (.aload_n 0, 1) := by decide +kernel
theorem dX12_laysFrame_135 : decode cX12_laysFrame 135 = .ok (.getfield 40, 3) := by decide +kernel
theorem dX12_laysFrame_138 : decode cX12_laysFrame 138 = .ok (.iload_n 1, 1) := by decide +kernel
theorem dX12_laysFrame_139 : decode cX12_laysFrame 139 = .ok (.iload_n 2, 1) := by decide +kernel
theorem dX12_laysFrame_140 : decode cX12_laysFrame 140 = .ok (.iconst 1, 1) := by decide +kernel
theorem dX12_laysFrame_141 : decode cX12_laysFrame 141 = .ok (.iadd, 1) := by decide +kernel
theorem dX12_laysFrame_142 : decode cX12_laysFrame 142 = .ok (.iastore, 1) := by decide +kernel
theorem dX12_laysFrame_143 : decode cX12_laysFrame 143 = .ok (.return_, 1) := by decide +kernel
theorem dX12_laysAll_0 : decode cX12_laysAll 0 = .ok (.aload_n 0, 1) := by decide +kernel
theorem dX12_laysAll_1 : decode cX12_laysAll 1 = .ok (.aload_n 0, 1) := by decide +kernel
theorem dX12_laysAll_2 : decode cX12_laysAll 2 = .ok (.invokevirtual 156, 3) := by decide +kernel
theorem dX12_laysAll_5 : decode cX12_laysAll 5 = .ok (.putfield 189, 3) := by decide +kernel
theorem dX12_laysAll_8 : decode cX12_laysAll 8 = .ok (.iconst 0, 1) := by decide +kernel
theorem dX12_laysAll_9 : decode cX12_laysAll 9 = .ok (.istore_n 1, 1) := by decide +kernel
theorem dX12_laysAll_10 : decode cX12_laysAll 10 = .ok (.iload_n 1, 1) := by decide +kernel
theorem dX12_laysAll_11 : decode cX12_laysAll 11 = .ok (.aload_n 0, 1) := by decide +kernel
theorem dX12_laysAll_12 : decode cX12_laysAll 12 = .ok (.getfield 189, 3) := by decide +kernel
theorem dX12_laysAll_15 : decode cX12_laysAll 15 = .ok (.if_icmp .ge 14, 3) := by decide +kernel
theorem dX12_laysAll_18 : decode cX12_laysAll 18 = .ok (.aload_n 0, 1) := by decide +kernel
theorem dX12_laysAll_19 : decode cX12_laysAll 19 = .ok (.iload_n 1, 1) := by decide +kernel
theorem dX12_laysAll_20 : decode cX12_laysAll 20 = .ok (.invokevirtual 192, 3) := by decide +kernel
theorem dX12_laysAll_23 : decode cX12_laysAll 23 = .ok (.iinc 1 1, 3) := by decide +kernel
theorem dX12_laysAll_26 : decode cX12_laysAll 26 = .ok (.goto (-16), 3) := by decide +kernel
theorem dX12_laysAll_29 : decode cX12_laysAll 29 = .ok (.return_, 1) := by decide +kernel
theorem dX12_lagAt1_0 : decode cX12_lagAt1 0 = .ok (.aload_n 0, 1) := by decide +kernel
theorem dX12_lagAt1_1 : decode cX12_lagAt1 1 = .ok (.getfield 34, 3) := by decide +kernel
theorem dX12_lagAt1_4 : decode cX12_lagAt1 4 = .ok (.bipush 6, 2) := by decide +kernel
theorem dX12_lagAt1_6 : decode cX12_lagAt1 6 = .ok (.iload_n 1, 1) := by decide +kernel
theorem dX12_lagAt1_7 : decode cX12_lagAt1 7 = .ok (.imul, 1) := by decide +kernel
theorem dX12_lagAt1_8 : decode cX12_lagAt1 8 = .ok (.iload_n 2, 1) := by decide +kernel
theorem dX12_lagAt1_9 : decode cX12_lagAt1 9 = .ok (.iadd, 1) := by decide +kernel
theorem dX12_lagAt1_10 : decode cX12_lagAt1 10 = .ok (.iaload, 1) := by decide +kernel
theorem dX12_lagAt1_11 : decode cX12_lagAt1 11 = .ok (.ireturn, 1) := by decide +kernel
theorem dX12_ownAt_0 : decode cX12_ownAt 0 = .ok (.aload_n 0, 1) := by decide +kernel
theorem dX12_ownAt_1 : decode cX12_ownAt 1 = .ok (.getfield 37, 3) := by decide +kernel
theorem dX12_ownAt_4 : decode cX12_ownAt 4 = .ok (.bipush 6, 2) := by decide +kernel
theorem dX12_ownAt_6 : decode cX12_ownAt 6 = .ok (.iload_n 1, 1) := by decide +kernel
theorem dX12_ownAt_7 : decode cX12_ownAt 7 = .ok (.imul, 1) := by decide +kernel
theorem dX12_ownAt_8 : decode cX12_ownAt 8 = .ok (.iload_n 2, 1) := by decide +kernel
theorem dX12_ownAt_9 : decode cX12_ownAt 9 = .ok (.iadd, 1) := by decide +kernel
theorem dX12_ownAt_10 : decode cX12_ownAt 10 = .ok (.iaload, 1) := by decide +kernel
theorem dX12_ownAt_11 : decode cX12_ownAt 11 = .ok (.ireturn, 1) := by decide +kernel
theorem dX12_doubleOf_0 : decode cX12_doubleOf 0 = .ok (.aload_n 0, 1) := by decide +kernel
theorem dX12_doubleOf_1 : decode cX12_doubleOf 1 = .ok (.iload_n 1, 1) := by decide +kernel
theorem dX12_doubleOf_2 : decode cX12_doubleOf 2 = .ok (.iload_n 2, 1) := by decide +kernel
theorem dX12_doubleOf_3 : decode cX12_doubleOf 3 = .ok (.invokevirtual 195, 3) := by decide +kernel
theorem dX12_doubleOf_6 : decode cX12_doubleOf 6 = .ok (.istore_n 3, 1) := by decide +kernel
theorem dX12_doubleOf_7 : decode cX12_doubleOf 7 = .ok (.iload_n 3, 1) := by decide +kernel
theorem dX12_doubleOf_8 : decode cX12_doubleOf 8 = .ok (.ifCond .ne 5, 3) := by decide +kernel
theorem dX12_doubleOf_11 : decode cX12_doubleOf 11 = .ok (.iconst (-1), 1) := by decide +kernel
theorem dX12_doubleOf_12 : decode cX12_doubleOf 12 = .ok (.ireturn, 1) := by decide +kernel
theorem dX12_doubleOf_13 : decode cX12_doubleOf 13 = .ok (.iconst 0, 1) := by decide +kernel
theorem dX12_doubleOf_14 : decode cX12_doubleOf 14 = .ok (.istore 4, 2) := by decide +kernel
theorem dX12_doubleOf_16 : decode cX12_doubleOf 16 = .ok (.iload 4, 2) := by decide +kernel
theorem dX12_doubleOf_18 : decode cX12_doubleOf 18 = .ok (.aload_n 0, 1) := by decide +kernel
theorem dX12_doubleOf_19 : decode cX12_doubleOf 19 = .ok (.getfield 40, 3) := by decide +kernel
theorem dX12_doubleOf_22 : decode cX12_doubleOf 22 = .ok (.iload_n 1, 1) := by decide +kernel
theorem dX12_doubleOf_23 : decode cX12_doubleOf 23 = .ok (.iaload, 1) := by decide +kernel
theorem dX12_doubleOf_24 : decode cX12_doubleOf 24 = .ok (.if_icmp .ge 44, 3) := by decide +kernel
theorem dX12_doubleOf_27 : decode cX12_doubleOf 27 = .ok (.aload_n 0, 1) := by decide +kernel
theorem dX12_doubleOf_28 : decode cX12_doubleOf 28 = .ok (.iload_n 1, 1) := by decide +kernel
theorem dX12_doubleOf_29 : decode cX12_doubleOf 29 = .ok (.iload 4, 2) := by decide +kernel
theorem dX12_doubleOf_31 : decode cX12_doubleOf 31 = .ok (.invokevirtual 195, 3) := by decide +kernel
theorem dX12_doubleOf_34 : decode cX12_doubleOf 34 = .ok (.istore 5, 2) := by decide +kernel
theorem dX12_doubleOf_36 : decode cX12_doubleOf 36 = .ok (.iload 4, 2) := by decide +kernel
theorem dX12_doubleOf_38 : decode cX12_doubleOf 38 = .ok (.iload_n 2, 1) := by decide +kernel
theorem dX12_doubleOf_39 : decode cX12_doubleOf 39 = .ok (.if_icmp .eq 23, 3) := by decide +kernel
theorem dX12_doubleOf_42 : decode cX12_doubleOf 42 = .ok (.iload 5, 2) := by decide +kernel
theorem dX12_doubleOf_44 : decode cX12_doubleOf 44 = .ok (.ifCond .le 18, 3) := by decide +kernel
theorem dX12_doubleOf_47 : decode cX12_doubleOf 47 = .ok (.iload_n 3, 1) := by decide +kernel
theorem dX12_doubleOf_48 : decode cX12_doubleOf 48 = .ok (.iconst 2, 1) := by decide +kernel
theorem dX12_doubleOf_49 : decode cX12_doubleOf 49 = .ok (.iload 5, 2) := by decide +kernel
theorem dX12_doubleOf_51 : decode cX12_doubleOf 51 = .ok (.imul, 1) := by decide +kernel
theorem dX12_doubleOf_52 : decode cX12_doubleOf 52 = .ok (.invokestatic 163, 3) := by decide +kernel
theorem dX12_doubleOf_55 : decode cX12_doubleOf 55 = .ok (.iconst 1, 1) := by decide +kernel
theorem dX12_doubleOf_56 : decode cX12_doubleOf 56 = .ok (.if_icmp .gt 6, 3) := by decide +kernel
theorem dX12_doubleOf_59 : decode cX12_doubleOf 59 = .ok (.iload 4, 2) := by decide +kernel
theorem dX12_doubleOf_61 : decode cX12_doubleOf 61 = .ok (.ireturn, 1) := by decide +kernel
theorem dX12_doubleOf_62 : decode cX12_doubleOf 62 = .ok (.iinc 4 1, 3) := by decide +kernel
theorem dX12_doubleOf_65 : decode cX12_doubleOf 65 = .ok (.goto (-49), 3) := by decide +kernel
theorem dX12_doubleOf_68 : decode cX12_doubleOf 68 = .ok (.iconst (-1), 1) := by decide +kernel
theorem dX12_doubleOf_69 : decode cX12_doubleOf 69 = .ok (.ireturn, 1) := by decide +kernel
theorem dX12_candidates_0 : decode cX12_candidates 0 = .ok (.aload_n 0, 1) := by decide +kernel
theorem dX12_candidates_1 : decode cX12_candidates 1 = .ok (.iconst 0, 1) := by decide +kernel
theorem dX12_candidates_2 : decode cX12_candidates 2 = .ok (.putfield 119, 3) := by decide +kernel
theorem dX12_candidates_5 : decode cX12_candidates 5 = .ok (.aload_n 0, 1) := by decide +kernel
theorem dX12_candidates_6 : decode cX12_candidates 6 = .ok (.iload_n 1, 1) := by decide +kernel
theorem dX12_candidates_7 : decode cX12_candidates 7 = .ok (.invokevirtual 167, 3) := by decide +kernel
theorem dX12_candidates_10 : decode cX12_candidates 10 = .ok (.ifCond .ne 5, 3) := by decide +kernel
theorem dX12_candidates_13 : decode cX12_candidates 13 = .ok (.iconst 0, 1) := by decide +kernel
theorem dX12_candidates_14 : decode cX12_candidates 14 = .ok (.ireturn, 1) := by decide +kernel
theorem dX12_candidates_15 : decode cX12_candidates 15 = .ok (.aload_n 0, 1) := by decide +kernel
theorem dX12_candidates_16 : decode cX12_candidates 16 = .ok (.iload_n 1, 1) := by decide +kernel
theorem dX12_candidates_17 : decode cX12_candidates 17 = .ok (.invokevirtual 192, 3) := by decide +kernel
theorem dX12_candidates_20 : decode cX12_candidates 20 = .ok (.aload_n 0, 1) := by decide +kernel
theorem dX12_candidates_21 : decode cX12_candidates 21 = .ok (.getfield 40, 3) := by decide +kernel
theorem dX12_candidates_24 : decode cX12_candidates 24 = .ok (.iload_n 1, 1) := by decide +kernel
theorem dX12_candidates_25 : decode cX12_candidates 25 = .ok (.iaload, 1) := by decide +kernel
theorem dX12_candidates_26 : decode cX12_candidates 26 = .ok (.ireturn, 1) := by decide +kernel
theorem dX12_isCandidate_0 : decode cX12_isCandidate 0 = .ok (.aload_n 0, 1) := by decide +kernel
theorem dX12_isCandidate_1 : decode cX12_isCandidate 1 = .ok (.iload_n 1, 1) := by decide +kernel
theorem dX12_isCandidate_2 : decode cX12_isCandidate 2 = .ok (.invokevirtual 167, 3) := by decide +kernel
theorem dX12_isCandidate_5 : decode cX12_isCandidate 5 = .ok (.ifCond .ne 5, 3) := by decide +kernel
theorem dX12_isCandidate_8 : decode cX12_isCandidate 8 = .ok (.iconst 0, 1) := by decide +kernel
theorem dX12_isCandidate_9 : decode cX12_isCandidate 9 = .ok (.ireturn, 1) := by decide +kernel
theorem dX12_isCandidate_10 : decode cX12_isCandidate 10 = .ok (.aload_n 0, 1) := by decide +kernel
theorem dX12_isCandidate_11 : decode cX12_isCandidate 11 = .ok (.iload_n 1, 1) := by decide +kernel
theorem dX12_isCandidate_12 : decode cX12_isCandidate 12 = .ok (.invokevirtual 192, 3) := by decide +kernel
theorem dX12_isCandidate_15 : decode cX12_isCandidate 15 = .ok (.aload_n 0, 1) := by decide +kernel
theorem dX12_isCandidate_16 : decode cX12_isCandidate 16 = .ok (.iload_n 2, 1) := by decide +kernel
theorem dX12_isCandidate_17 : decode cX12_isCandidate 17 = .ok (.iconst 0, 1) := by decide +kernel
theorem dX12_isCandidate_18 : decode cX12_isCandidate 18 = .ok (.aload_n 0, 1) := by decide +kernel
theorem dX12_isCandidate_19 : decode cX12_isCandidate 19 = .ok (.getfield 40, 3) := by decide +kernel
theorem dX12_isCandidate_22 : decode cX12_isCandidate 22 = .ok (.iload_n 1, 1) := by decide +kernel
theorem dX12_isCandidate_23 : decode cX12_isCandidate 23 = .ok (.iaload, 1) := by decide +kernel
theorem dX12_isCandidate_24 : decode cX12_isCandidate 24 = .ok (.iconst 1, 1) := by decide +kernel
theorem dX12_isCandidate_25 : decode cX12_isCandidate 25 = .ok (.isub, 1) := by decide +kernel
theorem dX12_isCandidate_26 : decode cX12_isCandidate 26 = .ok (.invokestatic 133, 3) := by decide +kernel
theorem dX12_isCandidate_29 : decode cX12_isCandidate 29 = .ok (.iconst 1, 1) := by decide +kernel
theorem dX12_isCandidate_30 : decode cX12_isCandidate 30 = .ok (.invokevirtual 148, 3) := by decide +kernel
theorem dX12_isCandidate_33 : decode cX12_isCandidate 33 = .ok (.ireturn, 1) := by decide +kernel
theorem dX12_candidate_0 : decode cX12_candidate 0 = .ok (.aload_n 0, 1) := by decide +kernel
theorem dX12_candidate_1 : decode cX12_candidate 1 = .ok (.iconst 0, 1) := by decide +kernel
theorem dX12_candidate_2 : decode cX12_candidate 2 = .ok (.putfield 119, 3) := by decide +kernel
theorem dX12_candidate_5 : decode cX12_candidate 5 = .ok (.aload_n 0, 1) := by decide +kernel
theorem dX12_candidate_6 : decode cX12_candidate 6 = .ok (.iload_n 1, 1) := by decide +kernel
theorem dX12_candidate_7 : decode cX12_candidate 7 = .ok (.iload_n 2, 1) := by decide +kernel
theorem dX12_candidate_8 : decode cX12_candidate 8 = .ok (.invokevirtual 198, 3) := by decide +kernel
theorem dX12_candidate_11 : decode cX12_candidate 11 = .ok (.ifCond .eq 17, 3) := by decide +kernel
theorem dX12_candidate_14 : decode cX12_candidate 14 = .ok (.aload_n 0, 1) := by decide +kernel
theorem dX12_candidate_15 : decode cX12_candidate 15 = .ok (.iload_n 3, 1) := by decide +kernel
theorem dX12_candidate_16 : decode cX12_candidate 16 = .ok (.iconst 0, 1) := by decide +kernel
theorem dX12_candidate_17 : decode cX12_candidate 17 = .ok (.iconst 3, 1) := by decide +kernel
theorem dX12_candidate_18 : decode cX12_candidate 18 = .ok (.invokestatic 133, 3) := by decide +kernel
theorem dX12_candidate_21 : decode cX12_candidate 21 = .ok (.iconst 1, 1) := by decide +kernel
theorem dX12_candidate_22 : decode cX12_candidate 22 = .ok (.invokevirtual 148, 3) := by decide +kernel
theorem dX12_candidate_25 : decode cX12_candidate 25 = .ok (.ifCond .ne 5, 3) := by decide +kernel
theorem dX12_candidate_28 : decode cX12_candidate 28 = .ok (.iconst 0, 1) := by decide +kernel
theorem dX12_candidate_29 : decode cX12_candidate 29 = .ok (.ireturn, 1) := by decide +kernel
theorem dX12_candidate_30 : decode cX12_candidate 30 = .ok (.iload_n 3, 1) := by decide +kernel
theorem dX12_candidate_31 : decode cX12_candidate 31 = .ok (.tableswitch 46 0 2 #[25, 32, 39], 25) := by decide +kernel
theorem dX12_candidate_56 : decode cX12_candidate 56 = .ok (.aload_n 0, 1) := by decide +kernel
theorem dX12_candidate_57 : decode cX12_candidate 57 = .ok (.iload_n 1, 1) := by decide +kernel
theorem dX12_candidate_58 : decode cX12_candidate 58 = .ok (.iload_n 2, 1) := by decide +kernel
theorem dX12_candidate_59 : decode cX12_candidate 59 = .ok (.invokevirtual 195, 3) := by decide +kernel
theorem dX12_candidate_62 : decode cX12_candidate 62 = .ok (.ireturn, 1) := by decide +kernel
theorem dX12_candidate_63 : decode cX12_candidate 63 = .ok (.aload_n 0, 1) := by decide +kernel
theorem dX12_candidate_64 : decode cX12_candidate 64 = .ok (.iload_n 1, 1) := by decide +kernel
theorem dX12_candidate_65 : decode cX12_candidate 65 = .ok (.iload_n 2, 1) := by decide +kernel
theorem dX12_candidate_66 : decode cX12_candidate 66 = .ok (.invokevirtual 201, 3) := by decide +kernel
theorem dX12_candidate_69 : decode cX12_candidate 69 = .ok (.ireturn, 1) := by decide +kernel
theorem dX12_candidate_70 : decode cX12_candidate 70 = .ok (.aload_n 0, 1) := by decide +kernel
theorem dX12_candidate_71 : decode cX12_candidate 71 = .ok (.iload_n 1, 1) := by decide +kernel
theorem dX12_candidate_72 : decode cX12_candidate 72 = .ok (.iload_n 2, 1) := by decide +kernel
theorem dX12_candidate_73 : decode cX12_candidate 73 = .ok (.invokevirtual 204, 3) := by decide +kernel
theorem dX12_candidate_76 : decode cX12_candidate 76 = .ok (.ireturn, 1) := by decide +kernel
theorem dX12_candidate_77 : decode cX12_candidate 77 = .ok (.iconst 0, 1) := by decide +kernel
theorem dX12_candidate_78 : decode cX12_candidate 78 = .ok (.istore 4, 2) := by decide +kernel
theorem dX12_candidate_80 : decode cX12_candidate 80 = .ok (.iconst 0, 1) := by decide +kernel
theorem dX12_candidate_81 : decode cX12_candidate 81 = .ok (.istore 5, 2) := by decide +kernel
theorem dX12_candidate_83 : decode cX12_candidate 83 = .ok (.iload 5, 2) := by decide +kernel
theorem dX12_candidate_85 : decode cX12_candidate 85 = .ok (.aload_n 0, 1) := by decide +kernel
theorem dX12_candidate_86 : decode cX12_candidate 86 = .ok (.getfield 40, 3) := by decide +kernel
theorem dX12_candidate_89 : decode cX12_candidate 89 = .ok (.iload_n 1, 1) := by decide +kernel
theorem dX12_candidate_90 : decode cX12_candidate 90 = .ok (.iaload, 1) := by decide +kernel
theorem dX12_candidate_91 : decode cX12_candidate 91 = .ok (.if_icmp .ge 35, 3) := by decide +kernel
theorem dX12_candidate_94 : decode cX12_candidate 94 = .ok (.iload 4, 2) := by decide +kernel
theorem dX12_candidate_96 : decode cX12_candidate 96 = .ok (.aload_n 0, 1) := by decide +kernel
theorem dX12_candidate_97 : decode cX12_candidate 97 = .ok (.iload_n 1, 1) := by decide +kernel
theorem dX12_candidate_98 : decode cX12_candidate 98 = .ok (.iload 5, 2) := by decide +kernel
theorem dX12_candidate_100 : decode cX12_candidate 100 = .ok (.invokevirtual 201, 3) := by decide +kernel
theorem dX12_candidate_103 : decode cX12_candidate 103 = .ok (.aload_n 0, 1) := by decide +kernel
theorem dX12_candidate_104 : decode cX12_candidate 104 = .ok (.iload_n 1, 1) := by decide +kernel
theorem dX12_candidate_105 : decode cX12_candidate 105 = .ok (.iload_n 2, 1) := by decide +kernel
theorem dX12_candidate_106 : decode cX12_candidate 106 = .ok (.invokevirtual 201, 3) := by decide +kernel
theorem dX12_candidate_109 : decode cX12_candidate 109 = .ok (.if_icmp .ge 7, 3) := by decide +kernel
theorem dX12_candidate_112 : decode cX12_candidate 112 = .ok (.iconst 1, 1) := by decide +kernel
theorem dX12_candidate_113 : decode cX12_candidate 113 = .ok (.goto 4, 3) := by decide +kernel
theorem dX12_candidate_116 : decode cX12_candidate 116 = .ok (.iconst 0, 1) := by decide +kernel
theorem dX12_candidate_117 : decode cX12_candidate 117 = .ok (.iadd, 1) := by decide +kernel
theorem dX12_candidate_118 : decode cX12_candidate 118 = .ok (.istore 4, 2) := by decide +kernel
theorem dX12_candidate_120 : decode cX12_candidate 120 = .ok (.iinc 5 1, 3) := by decide +kernel
theorem dX12_candidate_123 : decode cX12_candidate 123 = .ok (.goto (-40), 3) := by decide +kernel
theorem dX12_candidate_126 : decode cX12_candidate 126 = .ok (.iload 4, 2) := by decide +kernel
theorem dX12_candidate_128 : decode cX12_candidate 128 = .ok (.ireturn, 1) := by decide +kernel
theorem dX12_fine_0 : decode cX12_fine 0 = .ok (.aload_n 0, 1) := by decide +kernel
theorem dX12_fine_1 : decode cX12_fine 1 = .ok (.iconst 0, 1) := by decide +kernel
theorem dX12_fine_2 : decode cX12_fine 2 = .ok (.putfield 119, 3) := by decide +kernel
theorem dX12_fine_5 : decode cX12_fine 5 = .ok (.aload_n 0, 1) := by decide +kernel
theorem dX12_fine_6 : decode cX12_fine 6 = .ok (.iload_n 1, 1) := by decide +kernel
theorem dX12_fine_7 : decode cX12_fine 7 = .ok (.iload_n 2, 1) := by decide +kernel
theorem dX12_fine_8 : decode cX12_fine 8 = .ok (.invokevirtual 198, 3) := by decide +kernel
theorem dX12_fine_11 : decode cX12_fine 11 = .ok (.ifCond .eq 25, 3) := by decide +kernel
theorem dX12_fine_14 : decode cX12_fine 14 = .ok (.aload_n 0, 1) := by decide +kernel
theorem dX12_fine_15 : decode cX12_fine 15 = .ok (.aload_n 0, 1) := by decide +kernel
theorem dX12_fine_16 : decode cX12_fine 16 = .ok (.iload_n 1, 1) := by decide +kernel
theorem dX12_fine_17 : decode cX12_fine 17 = .ok (.iload_n 2, 1) := by decide +kernel
theorem dX12_fine_18 : decode cX12_fine 18 = .ok (.invokevirtual 195, 3) := by decide +kernel
theorem dX12_fine_21 : decode cX12_fine 21 = .ok (.ifCond .le 7, 3) := by decide +kernel
theorem dX12_fine_24 : decode cX12_fine 24 = .ok (.iconst 1, 1) := by decide +kernel
theorem dX12_fine_25 : decode cX12_fine 25 = .ok (.goto 4, 3) := by decide +kernel
theorem dX12_fine_28 : decode cX12_fine 28 = .ok (.iconst 0, 1) := by decide +kernel
theorem dX12_fine_29 : decode cX12_fine 29 = .ok (.iconst 1, 1) := by decide +kernel
theorem dX12_fine_30 : decode cX12_fine 30 = .ok (.invokevirtual 148, 3) := by decide +kernel
theorem dX12_fine_33 : decode cX12_fine 33 = .ok (.ifCond .ne 5, 3) := by decide +kernel
theorem dX12_fine_36 : decode cX12_fine 36 = .ok (.iconst 0, 1) := by decide +kernel
theorem dX12_fine_37 : decode cX12_fine 37 = .ok (.ireturn, 1) := by decide +kernel
theorem dX12_fine_38 : decode cX12_fine 38 = .ok (.aload_n 0, 1) := by decide +kernel
theorem dX12_fine_39 : decode cX12_fine 39 = .ok (.iload_n 1, 1) := by decide +kernel
theorem dX12_fine_40 : decode cX12_fine 40 = .ok (.iload_n 2, 1) := by decide +kernel
theorem dX12_fine_41 : decode cX12_fine 41 = .ok (.invokevirtual 195, 3) := by decide +kernel
theorem dX12_fine_44 : decode cX12_fine 44 = .ok (.istore 4, 2) := by decide +kernel
theorem dX12_fine_46 : decode cX12_fine 46 = .ok (.iconst 2, 1) := by decide +kernel
theorem dX12_fine_47 : decode cX12_fine 47 = .ok (.aload_n 0, 1) := by decide +kernel
theorem dX12_fine_48 : decode cX12_fine 48 = .ok (.getfield 28, 3) := by decide +kernel
theorem dX12_fine_51 : decode cX12_fine 51 = .ok (.iload 4, 2) := by decide +kernel
theorem dX12_fine_53 : decode cX12_fine 53 = .ok (.iconst 1, 1) := by decide +kernel
theorem dX12_fine_54 : decode cX12_fine 54 = .ok (.isub, 1) := by decide +kernel
theorem dX12_fine_55 : decode cX12_fine 55 = .ok (.iaload, 1) := by decide +kernel
theorem dX12_fine_56 : decode cX12_fine 56 = .ok (.iconst 2, 1) := by decide +kernel
theorem dX12_fine_57 : decode cX12_fine 57 = .ok (.aload_n 0, 1) := by decide +kernel
theorem dX12_fine_58 : decode cX12_fine 58 = .ok (.getfield 28, 3) := by decide +kernel
theorem dX12_fine_61 : decode cX12_fine 61 = .ok (.iload 4, 2) := by decide +kernel
theorem dX12_fine_63 : decode cX12_fine 63 = .ok (.iaload, 1) := by decide +kernel
theorem dX12_fine_64 : decode cX12_fine 64 = .ok (.imul, 1) := by decide +kernel
theorem dX12_fine_65 : decode cX12_fine 65 = .ok (.isub, 1) := by decide +kernel
theorem dX12_fine_66 : decode cX12_fine 66 = .ok (.aload_n 0, 1) := by decide +kernel
theorem dX12_fine_67 : decode cX12_fine 67 = .ok (.getfield 28, 3) := by decide +kernel
theorem dX12_fine_70 : decode cX12_fine 70 = .ok (.iload 4, 2) := by decide +kernel
theorem dX12_fine_72 : decode cX12_fine 72 = .ok (.iconst 1, 1) := by decide +kernel
theorem dX12_fine_73 : decode cX12_fine 73 = .ok (.iadd, 1) := by decide +kernel
theorem dX12_fine_74 : decode cX12_fine 74 = .ok (.iaload, 1) := by decide +kernel
theorem dX12_fine_75 : decode cX12_fine 75 = .ok (.iadd, 1) := by decide +kernel
theorem dX12_fine_76 : decode cX12_fine 76 = .ok (.imul, 1) := by decide +kernel
theorem dX12_fine_77 : decode cX12_fine 77 = .ok (.istore 5, 2) := by decide +kernel
theorem dX12_fine_79 : decode cX12_fine 79 = .ok (.iload 5, 2) := by decide +kernel
theorem dX12_fine_81 : decode cX12_fine 81 = .ok (.ifCond .ne 14, 3) := by decide +kernel
theorem dX12_fine_84 : decode cX12_fine 84 = .ok (.iload_n 3, 1) := by decide +kernel
theorem dX12_fine_85 : decode cX12_fine 85 = .ok (.ifCond .eq 7, 3) := by decide +kernel
theorem dX12_fine_88 : decode cX12_fine 88 = .ok (.iconst 1, 1) := by decide +kernel
theorem dX12_fine_89 : decode cX12_fine 89 = .ok (.goto 5, 3) := by decide +kernel
theorem dX12_fine_92 : decode cX12_fine 92 = .ok (.iload 4, 2) := by decide +kernel
theorem dX12_fine_94 : decode cX12_fine 94 = .ok (.ireturn, 1) := by decide +kernel
theorem dX12_fine_95 : decode cX12_fine 95 = .ok (.iload 4, 2) := by decide +kernel
theorem dX12_fine_97 : decode cX12_fine 97 = .ok (.iload 5, 2) := by decide +kernel
theorem dX12_fine_99 : decode cX12_fine 99 = .ok (.imul, 1) := by decide +kernel
theorem dX12_fine_100 : decode cX12_fine 100 = .ok (.aload_n 0, 1) := by decide +kernel
theorem dX12_fine_101 : decode cX12_fine 101 = .ok (.getfield 28, 3) := by decide +kernel
theorem dX12_fine_104 : decode cX12_fine 104 = .ok (.iload 4, 2) := by decide +kernel
theorem dX12_fine_106 : decode cX12_fine 106 = .ok (.iconst 1, 1) := by decide +kernel
theorem dX12_fine_107 : decode cX12_fine 107 = .ok (.isub, 1) := by decide +kernel
theorem dX12_fine_108 : decode cX12_fine 108 = .ok (.iaload, 1) := by decide +kernel
theorem dX12_fine_109 : decode cX12_fine 109 = .ok (.iadd, 1) := by decide +kernel
theorem dX12_fine_110 : decode cX12_fine 110 = .ok (.aload_n 0, 1) := by decide +kernel
theorem dX12_fine_111 : decode cX12_fine 111 = .ok (.getfield 28, 3) := by decide +kernel
theorem dX12_fine_114 : decode cX12_fine 114 = .ok (.iload 4, 2) := by decide +kernel
theorem dX12_fine_116 : decode cX12_fine 116 = .ok (.iconst 1, 1) := by decide +kernel
theorem dX12_fine_117 : decode cX12_fine 117 = .ok (.iadd, 1) := by decide +kernel
theorem dX12_fine_118 : decode cX12_fine 118 = .ok (.iaload, 1) := by decide +kernel
theorem dX12_fine_119 : decode cX12_fine 119 = .ok (.isub, 1) := by decide +kernel
theorem dX12_fine_120 : decode cX12_fine 120 = .ok (.istore 6, 2) := by decide +kernel
theorem dX12_fine_122 : decode cX12_fine 122 = .ok (.iload 6, 2) := by decide +kernel
theorem dX12_fine_124 : decode cX12_fine 124 = .ok (.iload 5, 2) := by decide +kernel
theorem dX12_fine_126 : decode cX12_fine 126 = .ok (.invokestatic 207, 3) := by decide +kernel
theorem dX12_fine_129 : decode cX12_fine 129 = .ok (.istore 7, 2) := by decide +kernel
theorem dX12_fine_131 : decode cX12_fine 131 = .ok (.iload 5, 2) := by decide +kernel
theorem dX12_fine_133 : decode cX12_fine 133 = .ok (.ifCond .ge 9, 3) := by decide +kernel
theorem dX12_fine_136 : decode cX12_fine 136 = .ok (.iload 7, 2) := by decide +kernel
theorem dX12_fine_138 : decode cX12_fine 138 = .ok (.ineg, 1) := by decide +kernel
theorem dX12_fine_139 : decode cX12_fine 139 = .ok (.goto 5, 3) := by decide +kernel
theorem dX12_fine_142 : decode cX12_fine 142 = .ok (.iload 7, 2) := by decide +kernel
theorem dX12_fine_144 : decode cX12_fine 144 = .ok (.istore 7, 2) := by decide +kernel
theorem dX12_fine_146 : decode cX12_fine 146 = .ok (.iload_n 3, 1) := by decide +kernel
theorem dX12_fine_147 : decode cX12_fine 147 = .ok (.ifCond .eq 11, 3) := by decide +kernel
theorem dX12_fine_150 : decode cX12_fine 150 = .ok (.iload 5, 2) := by decide +kernel
theorem dX12_fine_152 : decode cX12_fine 152 = .ok (.iload 7, 2) := by decide +kernel
theorem dX12_fine_154 : decode cX12_fine 154 = .ok (.idiv, 1) := by decide +kernel
theorem dX12_fine_155 : decode cX12_fine 155 = .ok (.goto 8, 3) := by decide +kernel
theorem dX12_fine_158 : decode cX12_fine 158 = .ok (.iload 6, 2) := by decide +kernel
theorem dX12_fine_160 : decode cX12_fine 160 = .ok (.iload 7, 2) := by decide +kernel
theorem dX12_fine_162 : decode cX12_fine 162 = .ok (.idiv, 1) := by decide +kernel
theorem dX12_fine_163 : decode cX12_fine 163 = .ok (.ireturn, 1) := by decide +kernel
theorem dX12_step_0 : decode cX12_step 0 = .ok (.iload_n 1, 1) := by decide +kernel
theorem dX12_step_1 : decode cX12_step 1 = .ok (.ifCond .eq 7, 3) := by decide +kernel
theorem dX12_step_4 : decode cX12_step 4 = .ok (.iload_n 2, 1) := by decide +kernel
theorem dX12_step_5 : decode cX12_step 5 = .ok (.ifCond .ne 17, 3) := by decide +kernel
theorem dX12_step_8 : decode cX12_step 8 = .ok (.iload_n 1, 1) := by decide +kernel
theorem dX12_step_9 : decode cX12_step 9 = .ok (.iload_n 2, 1) := by decide +kernel
theorem dX12_step_10 : decode cX12_step 10 = .ok (.if_icmp .ne 7, 3) := by decide +kernel
theorem dX12_step_13 : decode cX12_step 13 = .ok (.iconst 0, 1) := by decide +kernel
theorem dX12_step_14 : decode cX12_step 14 = .ok (.goto 7, 3) := by decide +kernel
theorem dX12_step_17 : decode cX12_step 17 = .ok (.aload_n 0, 1) := by decide +kernel
theorem dX12_step_18 : decode cX12_step 18 = .ok (.getfield 210, 3) := by decide +kernel
theorem dX12_step_21 : decode cX12_step 21 = .ok (.ireturn, 1) := by decide +kernel
theorem dX12_step_22 : decode cX12_step 22 = .ok (.aload_n 0, 1) := by decide +kernel
theorem dX12_step_23 : decode cX12_step 23 = .ok (.getfield 7, 3) := by decide +kernel
theorem dX12_step_26 : decode cX12_step 26 = .ok (.bipush 10, 2) := by decide +kernel
theorem dX12_step_28 : decode cX12_step 28 = .ok (.iaload, 1) := by decide +kernel
theorem dX12_step_29 : decode cX12_step 29 = .ok (.iload_n 1, 1) := by decide +kernel
theorem dX12_step_30 : decode cX12_step 30 = .ok (.iload_n 2, 1) := by decide +kernel
theorem dX12_step_31 : decode cX12_step 31 = .ok (.invokestatic 163, 3) := by decide +kernel
theorem dX12_step_34 : decode cX12_step 34 = .ok (.imul, 1) := by decide +kernel
theorem dX12_step_35 : decode cX12_step 35 = .ok (.iload_n 1, 1) := by decide +kernel
theorem dX12_step_36 : decode cX12_step 36 = .ok (.iload_n 2, 1) := by decide +kernel
theorem dX12_step_37 : decode cX12_step 37 = .ok (.invokestatic 213, 3) := by decide +kernel
theorem dX12_step_40 : decode cX12_step 40 = .ok (.ifCond .eq 10, 3) := by decide +kernel
theorem dX12_step_43 : decode cX12_step 43 = .ok (.aload_n 0, 1) := by decide +kernel
theorem dX12_step_44 : decode cX12_step 44 = .ok (.getfield 216, 3) := by decide +kernel
theorem dX12_step_47 : decode cX12_step 47 = .ok (.goto 4, 3) := by decide +kernel
theorem dX12_step_50 : decode cX12_step 50 = .ok (.iconst 0, 1) := by decide +kernel
theorem dX12_step_51 : decode cX12_step 51 = .ok (.iadd, 1) := by decide +kernel
theorem dX12_step_52 : decode cX12_step 52 = .ok (.ireturn, 1) := by decide +kernel
theorem dX12_isOctave_0 : decode cX12_isOctave 0 = .ok (.iload_n 0, 1) := by decide +kernel
theorem dX12_isOctave_1 : decode cX12_isOctave 1 = .ok (.iload_n 1, 1) := by decide +kernel
theorem dX12_isOctave_2 : decode cX12_isOctave 2 = .ok (.if_icmp .ge 7, 3) := by decide +kernel
theorem dX12_isOctave_5 : decode cX12_isOctave 5 = .ok (.iload_n 0, 1) := by decide +kernel
theorem dX12_isOctave_6 : decode cX12_isOctave 6 = .ok (.goto 4, 3) := by decide +kernel
theorem dX12_isOctave_9 : decode cX12_isOctave 9 = .ok (.iload_n 1, 1) := by decide +kernel
theorem dX12_isOctave_10 : decode cX12_isOctave 10 = .ok (.istore_n 2, 1) := by decide +kernel
theorem dX12_isOctave_11 : decode cX12_isOctave 11 = .ok (.iload_n 0, 1) := by decide +kernel
theorem dX12_isOctave_12 : decode cX12_isOctave 12 = .ok (.iload_n 1, 1) := by decide +kernel
theorem dX12_isOctave_13 : decode cX12_isOctave 13 = .ok (.if_icmp .ge 7, 3) := by decide +kernel
theorem dX12_isOctave_16 : decode cX12_isOctave 16 = .ok (.iload_n 1, 1) := by decide +kernel
theorem dX12_isOctave_17 : decode cX12_isOctave 17 = .ok (.goto 4, 3) := by decide +kernel
theorem dX12_isOctave_20 : decode cX12_isOctave 20 = .ok (.iload_n 0, 1) := by decide +kernel
theorem dX12_isOctave_21 : decode cX12_isOctave 21 = .ok (.istore_n 3, 1) := by decide +kernel
theorem dX12_isOctave_22 : decode cX12_isOctave 22 = .ok (.iload_n 3, 1) := by decide +kernel
theorem dX12_isOctave_23 : decode cX12_isOctave 23 = .ok (.iconst 2, 1) := by decide +kernel
theorem dX12_isOctave_24 : decode cX12_isOctave 24 = .ok (.iload_n 2, 1) := by decide +kernel
theorem dX12_isOctave_25 : decode cX12_isOctave 25 = .ok (.imul, 1) := by decide +kernel
theorem dX12_isOctave_26 : decode cX12_isOctave 26 = .ok (.iconst 1, 1) := by decide +kernel
theorem dX12_isOctave_27 : decode cX12_isOctave 27 = .ok (.isub, 1) := by decide +kernel
theorem dX12_isOctave_28 : decode cX12_isOctave 28 = .ok (.if_icmp .lt 7, 3) := by decide +kernel
theorem dX12_isOctave_31 : decode cX12_isOctave 31 = .ok (.iconst 1, 1) := by decide +kernel
theorem dX12_isOctave_32 : decode cX12_isOctave 32 = .ok (.goto 4, 3) := by decide +kernel
theorem dX12_isOctave_35 : decode cX12_isOctave 35 = .ok (.iconst 0, 1) := by decide +kernel
theorem dX12_isOctave_36 : decode cX12_isOctave 36 = .ok (.ireturn, 1) := by decide +kernel
theorem dX12_between_0 : decode cX12_between 0 = .ok (.aload_n 0, 1) := by decide +kernel
theorem dX12_between_1 : decode cX12_between 1 = .ok (.aload_n 0, 1) := by decide +kernel
theorem dX12_between_2 : decode cX12_between 2 = .ok (.iload_n 1, 1) := by decide +kernel
theorem dX12_between_3 : decode cX12_between 3 = .ok (.iload_n 2, 1) := by decide +kernel
theorem dX12_between_4 : decode cX12_between 4 = .ok (.invokevirtual 195, 3) := by decide +kernel
theorem dX12_between_7 : decode cX12_between 7 = .ok (.aload_n 0, 1) := by decide +kernel
theorem dX12_between_8 : decode cX12_between 8 = .ok (.iload_n 1, 1) := by decide +kernel
theorem dX12_between_9 : decode cX12_between 9 = .ok (.iconst 1, 1) := by decide +kernel
theorem dX12_between_10 : decode cX12_between 10 = .ok (.iadd, 1) := by decide +kernel
theorem dX12_between_11 : decode cX12_between 11 = .ok (.iload_n 3, 1) := by decide +kernel
theorem dX12_between_12 : decode cX12_between 12 = .ok (.invokevirtual 195, 3) := by decide +kernel
theorem dX12_between_15 : decode cX12_between 15 = .ok (.invokevirtual 219, 3) := by decide +kernel
theorem dX12_between_18 : decode cX12_between 18 = .ok (.ireturn, 1) := by decide +kernel
theorem dX12_opens_0 : decode cX12_opens 0 = .ok (.iconst 0, 1) := by decide +kernel
theorem dX12_opens_1 : decode cX12_opens 1 = .ok (.istore_n 1, 1) := by decide +kernel
theorem dX12_opens_2 : decode cX12_opens 2 = .ok (.iload_n 1, 1) := by decide +kernel
theorem dX12_opens_3 : decode cX12_opens 3 = .ok (.sipush 660, 3) := by decide +kernel
theorem dX12_opens_6 : decode cX12_opens 6 = .ok (.if_icmp .ge 16, 3) := by decide +kernel
theorem dX12_opens_9 : decode cX12_opens 9 = .ok (.aload_n 0, 1) := by decide +kernel
theorem dX12_opens_10 : decode cX12_opens 10 = .ok (.getfield 53, 3) := by decide +kernel
theorem dX12_opens_13 : decode cX12_opens 13 = .ok (.iload_n 1, 1) := by decide +kernel
theorem dX12_opens_14 : decode cX12_opens 14 = .ok (.iconst 0, 1) := by decide +kernel
theorem dX12_opens_15 : decode cX12_opens 15 = .ok (.bastore, 1) := by decide +kernel
theorem dX12_opens_16 : decode cX12_opens 16 = .ok (.iinc 1 1, 3) := by decide +kernel
theorem dX12_opens_19 : decode cX12_opens 19 = .ok (.goto (-17), 3) := by decide +kernel
theorem dX12_opens_22 : decode cX12_opens 22 = .ok (.aload_n 0, 1) := by decide +kernel
theorem dX12_opens_23 : decode cX12_opens 23 = .ok (.aload_n 0, 1) := by decide +kernel
theorem dX12_opens_24 : decode cX12_opens 24 = .ok (.getfield 7, 3) := by decide +kernel
theorem dX12_opens_27 : decode cX12_opens 27 = .ok (.bipush 11, 2) := by decide +kernel
theorem dX12_opens_29 : decode cX12_opens 29 = .ok (.iaload, 1) := by decide +kernel
theorem dX12_opens_30 : decode cX12_opens 30 = .ok (.putfield 216, 3) := by decide +kernel
theorem dX12_opens_33 : decode cX12_opens 33 = .ok (.aload_n 0, 1) := by decide +kernel
theorem dX12_opens_34 : decode cX12_opens 34 = .ok (.aload_n 0, 1) := by decide +kernel
theorem dX12_opens_35 : decode cX12_opens 35 = .ok (.getfield 7, 3) := by decide +kernel
theorem dX12_opens_38 : decode cX12_opens 38 = .ok (.bipush 12, 2) := by decide +kernel
theorem dX12_opens_40 : decode cX12_opens 40 = .ok (.iaload, 1) := by decide +kernel
theorem dX12_opens_41 : decode cX12_opens 41 = .ok (.putfield 210, 3) := by decide +kernel
theorem dX12_opens_44 : decode cX12_opens 44 = .ok (.return_, 1) := by decide +kernel
theorem dX12_leavesOnly_0 : decode cX12_leavesOnly 0 = .ok (.iconst 0, 1) := by decide +kernel
theorem dX12_leavesOnly_1 : decode cX12_leavesOnly 1 = .ok (.istore_n 3, 1) := by decide +kernel
theorem dX12_leavesOnly_2 : decode cX12_leavesOnly 2 = .ok (.iload_n 3, 1) := by decide +kernel
theorem dX12_leavesOnly_3 : decode cX12_leavesOnly 3 = .ok (.aload_n 0, 1) := by decide +kernel
theorem dX12_leavesOnly_4 : decode cX12_leavesOnly 4 = .ok (.getfield 40, 3) := by decide +kernel
theorem dX12_leavesOnly_7 : decode cX12_leavesOnly 7 = .ok (.iload_n 1, 1) := by decide +kernel
theorem dX12_leavesOnly_8 : decode cX12_leavesOnly 8 = .ok (.iaload, 1) := by decide +kernel
theorem dX12_leavesOnly_9 : decode cX12_leavesOnly 9 = .ok (.if_icmp .ge 26, 3) := by decide +kernel
theorem dX12_leavesOnly_12 : decode cX12_leavesOnly 12 = .ok (.iload_n 3, 1) := by decide +kernel
theorem dX12_leavesOnly_13 : decode cX12_leavesOnly 13 = .ok (.iload_n 2, 1) := by decide +kernel
theorem dX12_leavesOnly_14 : decode cX12_leavesOnly 14 = .ok (.if_icmp .eq 15, 3) := by decide +kernel
theorem dX12_leavesOnly_17 : decode cX12_leavesOnly 17 = .ok (.aload_n 0, 1) := by decide +kernel
theorem dX12_leavesOnly_18 : decode cX12_leavesOnly 18 = .ok (.getfield 53, 3) := by decide +kernel
theorem dX12_leavesOnly_21 : decode cX12_leavesOnly 21 = .ok (.bipush 6, 2) := by decide +kernel
theorem dX12_leavesOnly_23 : decode cX12_leavesOnly 23 = .ok (.iload_n 1, 1) := by decide +kernel
theorem dX12_leavesOnly_24 : decode cX12_leavesOnly 24 = .ok (.imul, 1) := by decide +kernel
theorem dX12_leavesOnly_25 : decode cX12_leavesOnly 25 = .ok (.iload_n 3, 1) := by decide +kernel
theorem dX12_leavesOnly_26 : decode cX12_leavesOnly 26 = .ok (.iadd, 1) := by decide +kernel
theorem dX12_leavesOnly_27 : decode cX12_leavesOnly 27 = .ok (.iconst 1, 1) := by decide +kernel
theorem dX12_leavesOnly_28 : decode cX12_leavesOnly 28 = .ok (.bastore, 1) := by decide +kernel
theorem dX12_leavesOnly_29 : decode cX12_leavesOnly 29 = .ok (.iinc 3 1, 3) := by decide +kernel
theorem dX12_leavesOnly_32 : decode cX12_leavesOnly 32 = .ok (.goto (-30), 3) := by decide +kernel
theorem dX12_leavesOnly_35 : decode cX12_leavesOnly 35 = .ok (.return_, 1) := by decide +kernel
theorem dX12_leastBehind_0 : decode cX12_leastBehind 0 = .ok (.ldc 222, 2) := by decide +kernel
theorem dX12_leastBehind_2 : decode cX12_leastBehind 2 = .ok (.istore_n 3, 1) := by decide +kernel
theorem dX12_leastBehind_3 : decode cX12_leastBehind 3 = .ok (.iconst 0, 1) := by decide +kernel
theorem dX12_leastBehind_4 : decode cX12_leastBehind 4 = .ok (.istore 4, 2) := by decide +kernel
theorem dX12_leastBehind_6 : decode cX12_leastBehind 6 = .ok (.iload 4, 2) := by decide +kernel
theorem dX12_leastBehind_8 : decode cX12_leastBehind 8 = .ok (.aload_n 0, 1) := by decide +kernel
theorem dX12_leastBehind_9 : decode cX12_leastBehind 9 = .ok (.getfield 40, 3) := by decide +kernel
theorem dX12_leastBehind_12 : decode cX12_leastBehind 12 = .ok (.iload_n 1, 1) := by decide +kernel
theorem dX12_leastBehind_13 : decode cX12_leastBehind 13 = .ok (.iconst 1, 1) := by decide +kernel
theorem dX12_leastBehind_14 : decode cX12_leastBehind 14 = .ok (.iadd, 1) := by decide +kernel
theorem dX12_leastBehind_15 : decode cX12_leastBehind 15 = .ok (.iaload, 1) := by decide +kernel
theorem dX12_leastBehind_16 : decode cX12_leastBehind 16 = .ok (.if_icmp .ge 59, 3) := by decide +kernel
theorem dX12_leastBehind_19 : decode cX12_leastBehind 19 = .ok (.aload_n 0, 1) := by decide +kernel
theorem dX12_leastBehind_20 : decode cX12_leastBehind 20 = .ok (.getfield 47, 3) := by decide +kernel
theorem dX12_leastBehind_23 : decode cX12_leastBehind 23 = .ok (.bipush 6, 2) := by decide +kernel
theorem dX12_leastBehind_25 : decode cX12_leastBehind 25 = .ok (.iload_n 1, 1) := by decide +kernel
theorem dX12_leastBehind_26 : decode cX12_leastBehind 26 = .ok (.iconst 1, 1) := by decide +kernel
theorem dX12_leastBehind_27 : decode cX12_leastBehind 27 = .ok (.iadd, 1) := by decide +kernel
theorem dX12_leastBehind_28 : decode cX12_leastBehind 28 = .ok (.imul, 1) := by decide +kernel
theorem dX12_leastBehind_29 : decode cX12_leastBehind 29 = .ok (.iload 4, 2) := by decide +kernel
theorem dX12_leastBehind_31 : decode cX12_leastBehind 31 = .ok (.iadd, 1) := by decide +kernel
theorem dX12_leastBehind_32 : decode cX12_leastBehind 32 = .ok (.iaload, 1) := by decide +kernel
theorem dX12_leastBehind_33 : decode cX12_leastBehind 33 = .ok (.istore 5, 2) := by decide +kernel
theorem dX12_leastBehind_35 : decode cX12_leastBehind 35 = .ok (.iload 5, 2) := by decide +kernel
theorem dX12_leastBehind_37 : decode cX12_leastBehind 37 = .ok (.ldc 222, 2) := by decide +kernel
theorem dX12_leastBehind_39 : decode cX12_leastBehind 39 = .ok (.if_icmp .ge 30, 3) := by decide +kernel
theorem dX12_leastBehind_42 : decode cX12_leastBehind 42 = .ok (.aload_n 0, 1) := by decide +kernel
theorem dX12_leastBehind_43 : decode cX12_leastBehind 43 = .ok (.iload_n 1, 1) := by decide +kernel
theorem dX12_leastBehind_44 : decode cX12_leastBehind 44 = .ok (.iload_n 2, 1) := by decide +kernel
theorem dX12_leastBehind_45 : decode cX12_leastBehind 45 = .ok (.iload 4, 2) := by decide +kernel
theorem dX12_leastBehind_47 : decode cX12_leastBehind 47 = .ok (.invokevirtual 223, 3) := by decide +kernel
theorem dX12_leastBehind_50 : decode cX12_leastBehind 50 = .ok (.iload 5, 2) := by decide +kernel
theorem dX12_leastBehind_52 : decode cX12_leastBehind 52 = .ok (.iadd, 1) := by decide +kernel
theorem dX12_leastBehind_53 : decode cX12_leastBehind 53 = .ok (.iload_n 3, 1) := by decide +kernel
theorem dX12_leastBehind_54 : decode cX12_leastBehind 54 = .ok (.if_icmp .ge 15, 3) := by decide +kernel
theorem dX12_leastBehind_57 : decode cX12_leastBehind 57 = .ok (.aload_n 0, 1) := by decide +kernel
theorem dX12_leastBehind_58 : decode cX12_leastBehind 58 = .ok (.iload_n 1, 1) := by decide +kernel
theorem dX12_leastBehind_59 : decode cX12_leastBehind 59 = .ok (.iload_n 2, 1) := by decide +kernel
theorem dX12_leastBehind_60 : decode cX12_leastBehind 60 = .ok (.iload 4, 2) := by decide +kernel
theorem dX12_leastBehind_62 : decode cX12_leastBehind 62 = .ok (.invokevirtual 223, 3) := by decide +kernel
theorem dX12_leastBehind_65 : decode cX12_leastBehind 65 = .ok (.iload 5, 2) := by decide +kernel
theorem dX12_leastBehind_67 : decode cX12_leastBehind 67 = .ok (.iadd, 1) := by decide +kernel
theorem dX12_leastBehind_68 : decode cX12_leastBehind 68 = .ok (.istore_n 3, 1) := by decide +kernel
theorem dX12_leastBehind_69 : decode cX12_leastBehind 69 = .ok (.iinc 4 1, 3) := by decide +kernel
theorem dX12_leastBehind_72 : decode cX12_leastBehind 72 = .ok (.goto (-66), 3) := by decide +kernel
theorem dX12_leastBehind_75 : decode cX12_leastBehind 75 = .ok (.iload_n 3, 1) := by decide +kernel
theorem dX12_leastBehind_76 : decode cX12_leastBehind 76 = .ok (.ireturn, 1) := by decide +kernel
theorem dX12_laysCosts_0 : decode cX12_laysCosts 0 = .ok (.aload_n 0, 1) := by decide +kernel
theorem dX12_laysCosts_1 : decode cX12_laysCosts 1 = .ok (.iload_n 1, 1) := by decide +kernel
theorem dX12_laysCosts_2 : decode cX12_laysCosts 2 = .ok (.putfield 227, 3) := by decide +kernel
theorem dX12_laysCosts_5 : decode cX12_laysCosts 5 = .ok (.iload_n 1, 1) := by decide +kernel
theorem dX12_laysCosts_6 : decode cX12_laysCosts 6 = .ok (.istore_n 2, 1) := by decide +kernel
theorem dX12_laysCosts_7 : decode cX12_laysCosts 7 = .ok (.iload_n 2, 1) := by decide +kernel
theorem dX12_laysCosts_8 : decode cX12_laysCosts 8 = .ok (.ifCond .lt 90, 3) := by decide +kernel
theorem dX12_laysCosts_11 : decode cX12_laysCosts 11 = .ok (.iconst 0, 1) := by decide +kernel
theorem dX12_laysCosts_12 : decode cX12_laysCosts 12 = .ok (.istore_n 3, 1) := by decide +kernel
theorem dX12_laysCosts_13 : decode cX12_laysCosts 13 = .ok (.iload_n 3, 1) := by decide +kernel
theorem dX12_laysCosts_14 : decode cX12_laysCosts 14 = .ok (.aload_n 0, 1) := by decide +kernel
theorem dX12_laysCosts_15 : decode cX12_laysCosts 15 = .ok (.getfield 40, 3) := by decide +kernel
theorem dX12_laysCosts_18 : decode cX12_laysCosts 18 = .ok (.iload_n 2, 1) := by decide +kernel
theorem dX12_laysCosts_19 : decode cX12_laysCosts 19 = .ok (.iaload, 1) := by decide +kernel
theorem dX12_laysCosts_20 : decode cX12_laysCosts 20 = .ok (.if_icmp .ge 72, 3) := by decide +kernel
theorem dX12_laysCosts_23 : decode cX12_laysCosts 23 = .ok (.iload_n 2, 1) := by decide +kernel
theorem dX12_laysCosts_24 : decode cX12_laysCosts 24 = .ok (.iload_n 1, 1) := by decide +kernel
theorem dX12_laysCosts_25 : decode cX12_laysCosts 25 = .ok (.if_icmp .ne 7, 3) := by decide +kernel
theorem dX12_laysCosts_28 : decode cX12_laysCosts 28 = .ok (.iconst 0, 1) := by decide +kernel
theorem dX12_laysCosts_29 : decode cX12_laysCosts 29 = .ok (.goto 9, 3) := by decide +kernel
theorem dX12_laysCosts_32 : decode cX12_laysCosts 32 = .ok (.aload_n 0, 1) := by decide +kernel
theorem dX12_laysCosts_33 : decode cX12_laysCosts 33 = .ok (.iload_n 2, 1) := by decide +kernel
theorem dX12_laysCosts_34 : decode cX12_laysCosts 34 = .ok (.iload_n 3, 1) := by decide +kernel
theorem dX12_laysCosts_35 : decode cX12_laysCosts 35 = .ok (.invokevirtual 230, 3) := by decide +kernel
theorem dX12_laysCosts_38 : decode cX12_laysCosts 38 = .ok (.istore 4, 2) := by decide +kernel
theorem dX12_laysCosts_40 : decode cX12_laysCosts 40 = .ok (.aload_n 0, 1) := by decide +kernel
theorem dX12_laysCosts_41 : decode cX12_laysCosts 41 = .ok (.getfield 47, 3) := by decide +kernel
theorem dX12_laysCosts_44 : decode cX12_laysCosts 44 = .ok (.bipush 6, 2) := by decide +kernel
theorem dX12_laysCosts_46 : decode cX12_laysCosts 46 = .ok (.iload_n 2, 1) := by decide +kernel
theorem dX12_laysCosts_47 : decode cX12_laysCosts 47 = .ok (.imul, 1) := by decide +kernel
theorem dX12_laysCosts_48 : decode cX12_laysCosts 48 = .ok (.iload_n 3, 1) := by decide +kernel
theorem dX12_laysCosts_49 : decode cX12_laysCosts 49 = .ok (.iadd, 1) := by decide +kernel
theorem dX12_laysCosts_50 : decode cX12_laysCosts 50 = .ok (.aload_n 0, 1) := by decide +kernel
theorem dX12_laysCosts_51 : decode cX12_laysCosts 51 = .ok (.getfield 53, 3) := by decide +kernel
theorem dX12_laysCosts_54 : decode cX12_laysCosts 54 = .ok (.bipush 6, 2) := by decide +kernel
theorem dX12_laysCosts_56 : decode cX12_laysCosts 56 = .ok (.iload_n 2, 1) := by decide +kernel
theorem dX12_laysCosts_57 : decode cX12_laysCosts 57 = .ok (.imul, 1) := by decide +kernel
theorem dX12_laysCosts_58 : decode cX12_laysCosts 58 = .ok (.iload_n 3, 1) := by decide +kernel
theorem dX12_laysCosts_59 : decode cX12_laysCosts 59 = .ok (.iadd, 1) := by decide +kernel
theorem dX12_laysCosts_60 : decode cX12_laysCosts 60 = .ok (.baload, 1) := by decide +kernel
theorem dX12_laysCosts_61 : decode cX12_laysCosts 61 = .ok (.ifCond .ne 10, 3) := by decide +kernel
theorem dX12_laysCosts_64 : decode cX12_laysCosts 64 = .ok (.iload 4, 2) := by decide +kernel
theorem dX12_laysCosts_66 : decode cX12_laysCosts 66 = .ok (.ldc 222, 2) := by decide +kernel
theorem dX12_laysCosts_68 : decode cX12_laysCosts 68 = .ok (.if_icmp .ne 8, 3) := by decide +kernel
theorem dX12_laysCosts_71 : decode cX12_laysCosts 71 = .ok (.ldc 222, 2) := by decide +kernel
theorem dX12_laysCosts_73 : decode cX12_laysCosts 73 = .ok (.goto 12, 3) := by decide +kernel
theorem dX12_laysCosts_76 : decode cX12_laysCosts 76 = .ok (.aload_n 0, 1) := by decide +kernel
theorem dX12_laysCosts_77 : decode cX12_laysCosts 77 = .ok (.iload_n 2, 1) := by decide +kernel
theorem dX12_laysCosts_78 : decode cX12_laysCosts 78 = .ok (.iload_n 3, 1) := by decide +kernel
theorem dX12_laysCosts_79 : decode cX12_laysCosts 79 = .ok (.invokevirtual 201, 3) := by decide +kernel
theorem dX12_laysCosts_82 : decode cX12_laysCosts 82 = .ok (.iload 4, 2) := by decide +kernel
theorem dX12_laysCosts_84 : decode cX12_laysCosts 84 = .ok (.iadd, 1) := by decide +kernel
theorem dX12_laysCosts_85 : decode cX12_laysCosts 85 = .ok (.iastore, 1) := by decide +kernel
theorem dX12_laysCosts_86 : decode cX12_laysCosts 86 = .ok (.iinc 3 1, 3) := by decide +kernel
theorem dX12_laysCosts_89 : decode cX12_laysCosts 89 = .ok (.goto (-76), 3) := by decide +kernel
theorem dX12_laysCosts_92 : decode cX12_laysCosts 92 = .ok (.iinc 2 (-1), 3) := by decide +kernel
theorem dX12_laysCosts_95 : decode cX12_laysCosts 95 = .ok (.goto (-88), 3) := by decide +kernel
theorem dX12_laysCosts_98 : decode cX12_laysCosts 98 = .ok (.return_, 1) := by decide +kernel
theorem dX12_leastOfAll_0 : decode cX12_leastOfAll 0 = .ok (.aload_n 0, 1) := by decide +kernel
theorem dX12_leastOfAll_1 : decode cX12_leastOfAll 1 = .ok (.getfield 227, 3) := by decide +kernel
theorem dX12_leastOfAll_4 : decode cX12_leastOfAll 4 = .ok (.ifCond .ge 5, 3) := by decide +kernel
theorem dX12_leastOfAll_7 : decode cX12_leastOfAll 7 = .ok (.iconst 0, 1) := by decide +kernel
theorem dX12_leastOfAll_8 : decode cX12_leastOfAll 8 = .ok (.ireturn, 1) := by decide +kernel
theorem dX12_leastOfAll_9 : decode cX12_leastOfAll 9 = .ok (.ldc 222, 2) := by decide +kernel
theorem dX12_leastOfAll_11 : decode cX12_leastOfAll 11 = .ok (.istore_n 1, 1) := by decide +kernel
theorem dX12_leastOfAll_12 : decode cX12_leastOfAll 12 = .ok (.iconst 0, 1) := by decide +kernel
theorem dX12_leastOfAll_13 : decode cX12_leastOfAll 13 = .ok (.istore_n 2, 1) := by decide +kernel
theorem dX12_leastOfAll_14 : decode cX12_leastOfAll 14 = .ok (.iload_n 2, 1) := by decide +kernel
theorem dX12_leastOfAll_15 : decode cX12_leastOfAll 15 = .ok (.aload_n 0, 1) := by decide +kernel
theorem dX12_leastOfAll_16 : decode cX12_leastOfAll 16 = .ok (.getfield 40, 3) := by decide +kernel
theorem dX12_leastOfAll_19 : decode cX12_leastOfAll 19 = .ok (.iconst 0, 1) := by decide +kernel
theorem dX12_leastOfAll_20 : decode cX12_leastOfAll 20 = .ok (.iaload, 1) := by decide +kernel
theorem dX12_leastOfAll_21 : decode cX12_leastOfAll 21 = .ok (.if_icmp .ge 30, 3) := by decide +kernel
theorem dX12_leastOfAll_24 : decode cX12_leastOfAll 24 = .ok (.aload_n 0, 1) := by decide +kernel
theorem dX12_leastOfAll_25 : decode cX12_leastOfAll 25 = .ok (.getfield 47, 3) := by decide +kernel
theorem dX12_leastOfAll_28 : decode cX12_leastOfAll 28 = .ok (.iload_n 2, 1) := by decide +kernel
theorem dX12_leastOfAll_29 : decode cX12_leastOfAll 29 = .ok (.iaload, 1) := by decide +kernel
theorem dX12_leastOfAll_30 : decode cX12_leastOfAll 30 = .ok (.iload_n 1, 1) := by decide +kernel
theorem dX12_leastOfAll_31 : decode cX12_leastOfAll 31 = .ok (.if_icmp .ge 12, 3) := by decide +kernel
theorem dX12_leastOfAll_34 : decode cX12_leastOfAll 34 = .ok (.aload_n 0, 1) := by decide +kernel
theorem dX12_leastOfAll_35 : decode cX12_leastOfAll 35 = .ok (.getfield 47, 3) := by decide +kernel
theorem dX12_leastOfAll_38 : decode cX12_leastOfAll 38 = .ok (.iload_n 2, 1) := by decide +kernel
theorem dX12_leastOfAll_39 : decode cX12_leastOfAll 39 = .ok (.iaload, 1) := by decide +kernel
theorem dX12_leastOfAll_40 : decode cX12_leastOfAll 40 = .ok (.goto 4, 3) := by decide +kernel
theorem dX12_leastOfAll_43 : decode cX12_leastOfAll 43 = .ok (.iload_n 1, 1) := by decide +kernel
theorem dX12_leastOfAll_44 : decode cX12_leastOfAll 44 = .ok (.istore_n 1, 1) := by decide +kernel
theorem dX12_leastOfAll_45 : decode cX12_leastOfAll 45 = .ok (.iinc 2 1, 3) := by decide +kernel
theorem dX12_leastOfAll_48 : decode cX12_leastOfAll 48 = .ok (.goto (-34), 3) := by decide +kernel
theorem dX12_leastOfAll_51 : decode cX12_leastOfAll 51 = .ok (.iload_n 1, 1) := by decide +kernel
theorem dX12_leastOfAll_52 : decode cX12_leastOfAll 52 = .ok (.ireturn, 1) := by decide +kernel
theorem dX12_goesAlong_0 : decode cX12_goesAlong 0 = .ok (.aload_n 0, 1) := by decide +kernel
theorem dX12_goesAlong_1 : decode cX12_goesAlong 1 = .ok (.invokevirtual 233, 3) := by decide +kernel
theorem dX12_goesAlong_4 : decode cX12_goesAlong 4 = .ok (.istore_n 1, 1) := by decide +kernel
theorem dX12_goesAlong_5 : decode cX12_goesAlong 5 = .ok (.iconst 0, 1) := by decide +kernel
theorem dX12_goesAlong_6 : decode cX12_goesAlong 6 = .ok (.istore_n 2, 1) := by decide +kernel
theorem dX12_goesAlong_7 : decode cX12_goesAlong 7 = .ok (.iload_n 2, 1) := by decide +kernel
theorem dX12_goesAlong_8 : decode cX12_goesAlong 8 = .ok (.aload_n 0, 1) := by decide +kernel
theorem dX12_goesAlong_9 : decode cX12_goesAlong 9 = .ok (.getfield 227, 3) := by decide +kernel
theorem dX12_goesAlong_12 : decode cX12_goesAlong 12 = .ok (.if_icmp .gt 53, 3) := by decide +kernel
theorem dX12_goesAlong_15 : decode cX12_goesAlong 15 = .ok (.iconst 0, 1) := by decide +kernel
theorem dX12_goesAlong_16 : decode cX12_goesAlong 16 = .ok (.istore_n 3, 1) := by decide +kernel
theorem dX12_goesAlong_17 : decode cX12_goesAlong 17 = .ok (.aload_n 0, 1) := by decide +kernel
theorem dX12_goesAlong_18 : decode cX12_goesAlong 18 = .ok (.iload_n 2, 1) := by decide +kernel
theorem dX12_goesAlong_19 : decode cX12_goesAlong 19 = .ok (.iload_n 3, 1) := by decide +kernel
theorem dX12_goesAlong_20 : decode cX12_goesAlong 20 = .ok (.invokevirtual 236, 3) := by decide +kernel
theorem dX12_goesAlong_23 : decode cX12_goesAlong 23 = .ok (.iload_n 1, 1) := by decide +kernel
theorem dX12_goesAlong_24 : decode cX12_goesAlong 24 = .ok (.if_icmp .eq 9, 3) := by decide +kernel
theorem dX12_goesAlong_27 : decode cX12_goesAlong 27 = .ok (.iinc 3 1, 3) := by decide +kernel
theorem dX12_goesAlong_30 : decode cX12_goesAlong 30 = .ok (.goto (-13), 3) := by decide +kernel
theorem dX12_goesAlong_33 : decode cX12_goesAlong 33 = .ok (.aload_n 0, 1) := by decide +kernel
theorem dX12_goesAlong_34 : decode cX12_goesAlong 34 = .ok (.getfield 50, 3) := by decide +kernel
theorem dX12_goesAlong_37 : decode cX12_goesAlong 37 = .ok (.iload_n 2, 1) := by decide +kernel
theorem dX12_goesAlong_38 : decode cX12_goesAlong 38 = .ok (.iload_n 3, 1) := by decide +kernel
theorem dX12_goesAlong_39 : decode cX12_goesAlong 39 = .ok (.iastore, 1) := by decide +kernel
theorem dX12_goesAlong_40 : decode cX12_goesAlong 40 = .ok (.aload_n 0, 1) := by decide +kernel
theorem dX12_goesAlong_41 : decode cX12_goesAlong 41 = .ok (.getfield 47, 3) := by decide +kernel
theorem dX12_goesAlong_44 : decode cX12_goesAlong 44 = .ok (.bipush 6, 2) := by decide +kernel
theorem dX12_goesAlong_46 : decode cX12_goesAlong 46 = .ok (.iload_n 2, 1) := by decide +kernel
theorem dX12_goesAlong_47 : decode cX12_goesAlong 47 = .ok (.imul, 1) := by decide +kernel
theorem dX12_goesAlong_48 : decode cX12_goesAlong 48 = .ok (.iload_n 3, 1) := by decide +kernel
theorem dX12_goesAlong_49 : decode cX12_goesAlong 49 = .ok (.iadd, 1) := by decide +kernel
theorem dX12_goesAlong_50 : decode cX12_goesAlong 50 = .ok (.iaload, 1) := by decide +kernel
theorem dX12_goesAlong_51 : decode cX12_goesAlong 51 = .ok (.aload_n 0, 1) := by decide +kernel
theorem dX12_goesAlong_52 : decode cX12_goesAlong 52 = .ok (.iload_n 2, 1) := by decide +kernel
theorem dX12_goesAlong_53 : decode cX12_goesAlong 53 = .ok (.iload_n 3, 1) := by decide +kernel
theorem dX12_goesAlong_54 : decode cX12_goesAlong 54 = .ok (.invokevirtual 201, 3) := by decide +kernel
theorem dX12_goesAlong_57 : decode cX12_goesAlong 57 = .ok (.isub, 1) := by decide +kernel
theorem dX12_goesAlong_58 : decode cX12_goesAlong 58 = .ok (.istore_n 1, 1) := by decide +kernel
theorem dX12_goesAlong_59 : decode cX12_goesAlong 59 = .ok (.iinc 2 1, 3) := by decide +kernel
theorem dX12_goesAlong_62 : decode cX12_goesAlong 62 = .ok (.goto (-55), 3) := by decide +kernel
theorem dX12_goesAlong_65 : decode cX12_goesAlong 65 = .ok (.return_, 1) := by decide +kernel
theorem dX12_reached_0 : decode cX12_reached 0 = .ok (.aload_n 0, 1) := by decide +kernel
theorem dX12_reached_1 : decode cX12_reached 1 = .ok (.getfield 47, 3) := by decide +kernel
theorem dX12_reached_4 : decode cX12_reached 4 = .ok (.bipush 6, 2) := by decide +kernel
theorem dX12_reached_6 : decode cX12_reached 6 = .ok (.iload_n 1, 1) := by decide +kernel
theorem dX12_reached_7 : decode cX12_reached 7 = .ok (.imul, 1) := by decide +kernel
theorem dX12_reached_8 : decode cX12_reached 8 = .ok (.iload_n 2, 1) := by decide +kernel
theorem dX12_reached_9 : decode cX12_reached 9 = .ok (.iadd, 1) := by decide +kernel
theorem dX12_reached_10 : decode cX12_reached 10 = .ok (.iaload, 1) := by decide +kernel
theorem dX12_reached_11 : decode cX12_reached 11 = .ok (.istore_n 3, 1) := by decide +kernel
theorem dX12_reached_12 : decode cX12_reached 12 = .ok (.iload_n 3, 1) := by decide +kernel
theorem dX12_reached_13 : decode cX12_reached 13 = .ok (.ldc 222, 2) := by decide +kernel
theorem dX12_reached_15 : decode cX12_reached 15 = .ok (.if_icmp .ne 6, 3) := by decide +kernel
theorem dX12_reached_18 : decode cX12_reached 18 = .ok (.ldc 222, 2) := by decide +kernel
theorem dX12_reached_20 : decode cX12_reached 20 = .ok (.ireturn, 1) := by decide +kernel
theorem dX12_reached_21 : decode cX12_reached 21 = .ok (.iload_n 1, 1) := by decide +kernel
theorem dX12_reached_22 : decode cX12_reached 22 = .ok (.ifCond .ne 7, 3) := by decide +kernel
theorem dX12_reached_25 : decode cX12_reached 25 = .ok (.iload_n 3, 1) := by decide +kernel
theorem dX12_reached_26 : decode cX12_reached 26 = .ok (.goto 21, 3) := by decide +kernel
theorem dX12_reached_29 : decode cX12_reached 29 = .ok (.iload_n 3, 1) := by decide +kernel
theorem dX12_reached_30 : decode cX12_reached 30 = .ok (.aload_n 0, 1) := by decide +kernel
theorem dX12_reached_31 : decode cX12_reached 31 = .ok (.iload_n 1, 1) := by decide +kernel
theorem dX12_reached_32 : decode cX12_reached 32 = .ok (.iconst 1, 1) := by decide +kernel
theorem dX12_reached_33 : decode cX12_reached 33 = .ok (.isub, 1) := by decide +kernel
theorem dX12_reached_34 : decode cX12_reached 34 = .ok (.aload_n 0, 1) := by decide +kernel
theorem dX12_reached_35 : decode cX12_reached 35 = .ok (.getfield 50, 3) := by decide +kernel
theorem dX12_reached_38 : decode cX12_reached 38 = .ok (.iload_n 1, 1) := by decide +kernel
theorem dX12_reached_39 : decode cX12_reached 39 = .ok (.iconst 1, 1) := by decide +kernel
theorem dX12_reached_40 : decode cX12_reached 40 = .ok (.isub, 1) := by decide +kernel
theorem dX12_reached_41 : decode cX12_reached 41 = .ok (.iaload, 1) := by decide +kernel
theorem dX12_reached_42 : decode cX12_reached 42 = .ok (.iload_n 2, 1) := by decide +kernel
theorem dX12_reached_43 : decode cX12_reached 43 = .ok (.invokevirtual 223, 3) := by decide +kernel
theorem dX12_reached_46 : decode cX12_reached 46 = .ok (.iadd, 1) := by decide +kernel
theorem dX12_reached_47 : decode cX12_reached 47 = .ok (.ireturn, 1) := by decide +kernel
theorem dX12_laysPath_0 : decode cX12_laysPath 0 = .ok (.aload_n 0, 1) := by decide +kernel
theorem dX12_laysPath_1 : decode cX12_laysPath 1 = .ok (.invokevirtual 239, 3) := by decide +kernel
theorem dX12_laysPath_4 : decode cX12_laysPath 4 = .ok (.aload_n 0, 1) := by decide +kernel
theorem dX12_laysPath_5 : decode cX12_laysPath 5 = .ok (.invokevirtual 242, 3) := by decide +kernel
theorem dX12_laysPath_8 : decode cX12_laysPath 8 = .ok (.aload_n 0, 1) := by decide +kernel
theorem dX12_laysPath_9 : decode cX12_laysPath 9 = .ok (.aload_n 0, 1) := by decide +kernel
theorem dX12_laysPath_10 : decode cX12_laysPath 10 = .ok (.getfield 189, 3) := by decide +kernel
theorem dX12_laysPath_13 : decode cX12_laysPath 13 = .ok (.iconst 1, 1) := by decide +kernel
theorem dX12_laysPath_14 : decode cX12_laysPath 14 = .ok (.isub, 1) := by decide +kernel
theorem dX12_laysPath_15 : decode cX12_laysPath 15 = .ok (.invokevirtual 245, 3) := by decide +kernel
theorem dX12_laysPath_18 : decode cX12_laysPath 18 = .ok (.aload_n 0, 1) := by decide +kernel
theorem dX12_laysPath_19 : decode cX12_laysPath 19 = .ok (.invokevirtual 248, 3) := by decide +kernel
theorem dX12_laysPath_22 : decode cX12_laysPath 22 = .ok (.return_, 1) := by decide +kernel
theorem dX12_lagOnPath_0 : decode cX12_lagOnPath 0 = .ok (.aload_n 0, 1) := by decide +kernel
theorem dX12_lagOnPath_1 : decode cX12_lagOnPath 1 = .ok (.iload_n 1, 1) := by decide +kernel
theorem dX12_lagOnPath_2 : decode cX12_lagOnPath 2 = .ok (.aload_n 0, 1) := by decide +kernel
theorem dX12_lagOnPath_3 : decode cX12_lagOnPath 3 = .ok (.getfield 50, 3) := by decide +kernel
theorem dX12_lagOnPath_6 : decode cX12_lagOnPath 6 = .ok (.iload_n 1, 1) := by decide +kernel
theorem dX12_lagOnPath_7 : decode cX12_lagOnPath 7 = .ok (.iaload, 1) := by decide +kernel
theorem dX12_lagOnPath_8 : decode cX12_lagOnPath 8 = .ok (.invokevirtual 195, 3) := by decide +kernel
theorem dX12_lagOnPath_11 : decode cX12_lagOnPath 11 = .ok (.ireturn, 1) := by decide +kernel
theorem dX12_part_0 : decode cX12_part 0 = .ok (.iload_n 2, 1) := by decide +kernel
theorem dX12_part_1 : decode cX12_part 1 = .ok (.iconst 1, 1) := by decide +kernel
theorem dX12_part_2 : decode cX12_part 2 = .ok (.if_icmp .ne 17, 3) := by decide +kernel
theorem dX12_part_5 : decode cX12_part 5 = .ok (.aload_n 0, 1) := by decide +kernel
theorem dX12_part_6 : decode cX12_part 6 = .ok (.iload_n 1, 1) := by decide +kernel
theorem dX12_part_7 : decode cX12_part 7 = .ok (.aload_n 0, 1) := by decide +kernel
theorem dX12_part_8 : decode cX12_part 8 = .ok (.getfield 50, 3) := by decide +kernel
theorem dX12_part_11 : decode cX12_part 11 = .ok (.iload_n 1, 1) := by decide +kernel
theorem dX12_part_12 : decode cX12_part 12 = .ok (.iaload, 1) := by decide +kernel
theorem dX12_part_13 : decode cX12_part 13 = .ok (.invokevirtual 201, 3) := by decide +kernel
theorem dX12_part_16 : decode cX12_part 16 = .ok (.goto 4, 3) := by decide +kernel
theorem dX12_part_19 : decode cX12_part 19 = .ok (.iconst 0, 1) := by decide +kernel
theorem dX12_part_20 : decode cX12_part 20 = .ok (.istore_n 3, 1) := by decide +kernel
theorem dX12_part_21 : decode cX12_part 21 = .ok (.iload_n 1, 1) := by decide +kernel
theorem dX12_part_22 : decode cX12_part 22 = .ok (.ifCond .eq 8, 3) := by decide +kernel
theorem dX12_part_25 : decode cX12_part 25 = .ok (.iload_n 2, 1) := by decide +kernel
theorem dX12_part_26 : decode cX12_part 26 = .ok (.iconst 1, 1) := by decide +kernel
theorem dX12_part_27 : decode cX12_part 27 = .ok (.if_icmp .ne 5, 3) := by decide +kernel
theorem dX12_part_30 : decode cX12_part 30 = .ok (.iload_n 3, 1) := by decide +kernel
theorem dX12_part_31 : decode cX12_part 31 = .ok (.ireturn, 1) := by decide +kernel
theorem dX12_part_32 : decode cX12_part 32 = .ok (.aload_n 0, 1) := by decide +kernel
theorem dX12_part_33 : decode cX12_part 33 = .ok (.iload_n 1, 1) := by decide +kernel
theorem dX12_part_34 : decode cX12_part 34 = .ok (.iconst 1, 1) := by decide +kernel
theorem dX12_part_35 : decode cX12_part 35 = .ok (.isub, 1) := by decide +kernel
theorem dX12_part_36 : decode cX12_part 36 = .ok (.invokevirtual 251, 3) := by decide +kernel
theorem dX12_part_39 : decode cX12_part 39 = .ok (.istore 4, 2) := by decide +kernel
theorem dX12_part_41 : decode cX12_part 41 = .ok (.aload_n 0, 1) := by decide +kernel
theorem dX12_part_42 : decode cX12_part 42 = .ok (.iload_n 1, 1) := by decide +kernel
theorem dX12_part_43 : decode cX12_part 43 = .ok (.invokevirtual 251, 3) := by decide +kernel
theorem dX12_part_46 : decode cX12_part 46 = .ok (.istore 5, 2) := by decide +kernel
theorem dX12_part_48 : decode cX12_part 48 = .ok (.iload 4, 2) := by decide +kernel
theorem dX12_part_50 : decode cX12_part 50 = .ok (.ifCond .le 12, 3) := by decide +kernel
theorem dX12_part_53 : decode cX12_part 53 = .ok (.iload 5, 2) := by decide +kernel
theorem dX12_part_55 : decode cX12_part 55 = .ok (.ifCond .le 7, 3) := by decide +kernel
theorem dX12_part_58 : decode cX12_part 58 = .ok (.iconst 1, 1) := by decide +kernel
theorem dX12_part_59 : decode cX12_part 59 = .ok (.goto 4, 3) := by decide +kernel
theorem dX12_part_62 : decode cX12_part 62 = .ok (.iconst 0, 1) := by decide +kernel
theorem dX12_part_63 : decode cX12_part 63 = .ok (.istore 6, 2) := by decide +kernel
theorem dX12_part_65 : decode cX12_part 65 = .ok (.iload_n 2, 1) := by decide +kernel
theorem dX12_part_66 : decode cX12_part 66 = .ok (.iconst 2, 1) := by decide +kernel
theorem dX12_part_67 : decode cX12_part 67 = .ok (.if_icmp .ne 28, 3) := by decide +kernel
theorem dX12_part_70 : decode cX12_part 70 = .ok (.iload 6, 2) := by decide +kernel
theorem dX12_part_72 : decode cX12_part 72 = .ok (.ifCond .eq 21, 3) := by decide +kernel
theorem dX12_part_75 : decode cX12_part 75 = .ok (.aload_n 0, 1) := by decide +kernel
theorem dX12_part_76 : decode cX12_part 76 = .ok (.getfield 7, 3) := by decide +kernel
theorem dX12_part_79 : decode cX12_part 79 = .ok (.bipush 10, 2) := by decide +kernel
theorem dX12_part_81 : decode cX12_part 81 = .ok (.iaload, 1) := by decide +kernel
theorem dX12_part_82 : decode cX12_part 82 = .ok (.iload 4, 2) := by decide +kernel
theorem dX12_part_84 : decode cX12_part 84 = .ok (.iload 5, 2) := by decide +kernel
theorem dX12_part_86 : decode cX12_part 86 = .ok (.invokestatic 163, 3) := by decide +kernel
theorem dX12_part_89 : decode cX12_part 89 = .ok (.imul, 1) := by decide +kernel
theorem dX12_part_90 : decode cX12_part 90 = .ok (.goto 4, 3) := by decide +kernel
theorem dX12_part_93 : decode cX12_part 93 = .ok (.iconst 0, 1) := by decide +kernel
theorem dX12_part_94 : decode cX12_part 94 = .ok (.ireturn, 1) := by decide +kernel
theorem dX12_part_95 : decode cX12_part 95 = .ok (.iload_n 2, 1) := by decide +kernel
theorem dX12_part_96 : decode cX12_part 96 = .ok (.iconst 3, 1) := by decide +kernel
theorem dX12_part_97 : decode cX12_part 97 = .ok (.if_icmp .ne 27, 3) := by decide +kernel
theorem dX12_part_100 : decode cX12_part 100 = .ok (.iload 6, 2) := by decide +kernel
theorem dX12_part_102 : decode cX12_part 102 = .ok (.ifCond .eq 20, 3) := by decide +kernel
theorem dX12_part_105 : decode cX12_part 105 = .ok (.iload 4, 2) := by decide +kernel
theorem dX12_part_107 : decode cX12_part 107 = .ok (.iload 5, 2) := by decide +kernel
theorem dX12_part_109 : decode cX12_part 109 = .ok (.invokestatic 213, 3) := by decide +kernel
theorem dX12_part_112 : decode cX12_part 112 = .ok (.ifCond .eq 10, 3) := by decide +kernel
theorem dX12_part_115 : decode cX12_part 115 = .ok (.aload_n 0, 1) := by decide +kernel
theorem dX12_part_116 : decode cX12_part 116 = .ok (.getfield 216, 3) := by decide +kernel
theorem dX12_part_119 : decode cX12_part 119 = .ok (.goto 4, 3) := by decide +kernel
theorem dX12_part_122 : decode cX12_part 122 = .ok (.iconst 0, 1) := by decide +kernel
theorem dX12_part_123 : decode cX12_part 123 = .ok (.ireturn, 1) := by decide +kernel
theorem dX12_part_124 : decode cX12_part 124 = .ok (.iload 6, 2) := by decide +kernel
theorem dX12_part_126 : decode cX12_part 126 = .ok (.ifCond .ne 17, 3) := by decide +kernel
theorem dX12_part_129 : decode cX12_part 129 = .ok (.iload 4, 2) := by decide +kernel
theorem dX12_part_131 : decode cX12_part 131 = .ok (.iload 5, 2) := by decide +kernel
theorem dX12_part_133 : decode cX12_part 133 = .ok (.if_icmp .eq 10, 3) := by decide +kernel
theorem dX12_part_136 : decode cX12_part 136 = .ok (.aload_n 0, 1) := by decide +kernel
theorem dX12_part_137 : decode cX12_part 137 = .ok (.getfield 210, 3) := by decide +kernel
theorem dX12_part_140 : decode cX12_part 140 = .ok (.goto 4, 3) := by decide +kernel
theorem dX12_part_143 : decode cX12_part 143 = .ok (.iconst 0, 1) := by decide +kernel
theorem dX12_part_144 : decode cX12_part 144 = .ok (.ireturn, 1) := by decide +kernel
theorem dX12_cost_0 : decode cX12_cost 0 = .ok (.aload_n 0, 1) := by decide +kernel
theorem dX12_cost_1 : decode cX12_cost 1 = .ok (.iconst 0, 1) := by decide +kernel
theorem dX12_cost_2 : decode cX12_cost 2 = .ok (.putfield 119, 3) := by decide +kernel
theorem dX12_cost_5 : decode cX12_cost 5 = .ok (.aload_n 0, 1) := by decide +kernel
theorem dX12_cost_6 : decode cX12_cost 6 = .ok (.iload_n 1, 1) := by decide +kernel
theorem dX12_cost_7 : decode cX12_cost 7 = .ok (.iconst 0, 1) := by decide +kernel
theorem dX12_cost_8 : decode cX12_cost 8 = .ok (.iconst 4, 1) := by decide +kernel
theorem dX12_cost_9 : decode cX12_cost 9 = .ok (.invokestatic 133, 3) := by decide +kernel
theorem dX12_cost_12 : decode cX12_cost 12 = .ok (.iconst 1, 1) := by decide +kernel
theorem dX12_cost_13 : decode cX12_cost 13 = .ok (.invokevirtual 148, 3) := by decide +kernel
theorem dX12_cost_16 : decode cX12_cost 16 = .ok (.ifCond .ne 5, 3) := by decide +kernel
theorem dX12_cost_19 : decode cX12_cost 19 = .ok (.iconst 0, 1) := by decide +kernel
theorem dX12_cost_20 : decode cX12_cost 20 = .ok (.ireturn, 1) := by decide +kernel
theorem dX12_cost_21 : decode cX12_cost 21 = .ok (.aload_n 0, 1) := by decide +kernel
theorem dX12_cost_22 : decode cX12_cost 22 = .ok (.invokevirtual 254, 3) := by decide +kernel
theorem dX12_cost_25 : decode cX12_cost 25 = .ok (.iload_n 1, 1) := by decide +kernel
theorem dX12_cost_26 : decode cX12_cost 26 = .ok (.ifCond .ne 8, 3) := by decide +kernel
theorem dX12_cost_29 : decode cX12_cost 29 = .ok (.aload_n 0, 1) := by decide +kernel
theorem dX12_cost_30 : decode cX12_cost 30 = .ok (.invokevirtual 233, 3) := by decide +kernel
theorem dX12_cost_33 : decode cX12_cost 33 = .ok (.ireturn, 1) := by decide +kernel
theorem dX12_cost_34 : decode cX12_cost 34 = .ok (.iconst 0, 1) := by decide +kernel
theorem dX12_cost_35 : decode cX12_cost 35 = .ok (.istore_n 2, 1) := by decide +kernel
theorem dX12_cost_36 : decode cX12_cost 36 = .ok (.iconst 0, 1) := by decide +kernel
theorem dX12_cost_37 : decode cX12_cost 37 = .ok (.istore_n 3, 1) := by decide +kernel
theorem dX12_cost_38 : decode cX12_cost 38 = .ok (.iload_n 3, 1) := by decide +kernel
theorem dX12_cost_39 : decode cX12_cost 39 = .ok (.aload_n 0, 1) := by decide +kernel
theorem dX12_cost_40 : decode cX12_cost 40 = .ok (.getfield 189, 3) := by decide +kernel
theorem dX12_cost_43 : decode cX12_cost 43 = .ok (.if_icmp .ge 18, 3) := by decide +kernel
theorem dX12_cost_46 : decode cX12_cost 46 = .ok (.iload_n 2, 1) := by decide +kernel
theorem dX12_cost_47 : decode cX12_cost 47 = .ok (.aload_n 0, 1) := by decide +kernel
theorem dX12_cost_48 : decode cX12_cost 48 = .ok (.iload_n 3, 1) := by decide +kernel
theorem dX12_cost_49 : decode cX12_cost 49 = .ok (.iload_n 1, 1) := by decide +kernel
theorem dX12_cost_50 : decode cX12_cost 50 = .ok (.invokevirtual 257, 3) := by decide +kernel
theorem dX12_cost_53 : decode cX12_cost 53 = .ok (.iadd, 1) := by decide +kernel
theorem dX12_cost_54 : decode cX12_cost 54 = .ok (.istore_n 2, 1) := by decide +kernel
theorem dX12_cost_55 : decode cX12_cost 55 = .ok (.iinc 3 1, 3) := by decide +kernel
theorem dX12_cost_58 : decode cX12_cost 58 = .ok (.goto (-20), 3) := by decide +kernel
theorem dX12_cost_61 : decode cX12_cost 61 = .ok (.iload_n 2, 1) := by decide +kernel
theorem dX12_cost_62 : decode cX12_cost 62 = .ok (.ireturn, 1) := by decide +kernel
theorem dX12_path_0 : decode cX12_path 0 = .ok (.aload_n 0, 1) := by decide +kernel
theorem dX12_path_1 : decode cX12_path 1 = .ok (.iconst 0, 1) := by decide +kernel
theorem dX12_path_2 : decode cX12_path 2 = .ok (.putfield 119, 3) := by decide +kernel
theorem dX12_path_5 : decode cX12_path 5 = .ok (.aload_n 0, 1) := by decide +kernel
theorem dX12_path_6 : decode cX12_path 6 = .ok (.iload_n 1, 1) := by decide +kernel
theorem dX12_path_7 : decode cX12_path 7 = .ok (.invokevirtual 167, 3) := by decide +kernel
theorem dX12_path_10 : decode cX12_path 10 = .ok (.ifCond .ne 5, 3) := by decide +kernel
theorem dX12_path_13 : decode cX12_path 13 = .ok (.iconst 0, 1) := by decide +kernel
theorem dX12_path_14 : decode cX12_path 14 = .ok (.ireturn, 1) := by decide +kernel
theorem dX12_path_15 : decode cX12_path 15 = .ok (.aload_n 0, 1) := by decide +kernel
theorem dX12_path_16 : decode cX12_path 16 = .ok (.invokevirtual 254, 3) := by decide +kernel
theorem dX12_path_19 : decode cX12_path 19 = .ok (.aload_n 0, 1) := by decide +kernel
theorem dX12_path_20 : decode cX12_path 20 = .ok (.getfield 50, 3) := by decide +kernel
theorem dX12_path_23 : decode cX12_path 23 = .ok (.iload_n 1, 1) := by decide +kernel
theorem dX12_path_24 : decode cX12_path 24 = .ok (.iaload, 1) := by decide +kernel
theorem dX12_path_25 : decode cX12_path 25 = .ok (.ireturn, 1) := by decide +kernel
theorem dX12_lag_0 : decode cX12_lag 0 = .ok (.aload_n 0, 1) := by decide +kernel
theorem dX12_lag_1 : decode cX12_lag 1 = .ok (.iconst 0, 1) := by decide +kernel
theorem dX12_lag_2 : decode cX12_lag 2 = .ok (.putfield 119, 3) := by decide +kernel
theorem dX12_lag_5 : decode cX12_lag 5 = .ok (.aload_n 0, 1) := by decide +kernel
theorem dX12_lag_6 : decode cX12_lag 6 = .ok (.iload_n 1, 1) := by decide +kernel
theorem dX12_lag_7 : decode cX12_lag 7 = .ok (.invokevirtual 167, 3) := by decide +kernel
theorem dX12_lag_10 : decode cX12_lag 10 = .ok (.ifCond .ne 5, 3) := by decide +kernel
theorem dX12_lag_13 : decode cX12_lag 13 = .ok (.iconst 0, 1) := by decide +kernel
theorem dX12_lag_14 : decode cX12_lag 14 = .ok (.ireturn, 1) := by decide +kernel
theorem dX12_lag_15 : decode cX12_lag 15 = .ok (.aload_n 0, 1) := by decide +kernel
theorem dX12_lag_16 : decode cX12_lag 16 = .ok (.invokevirtual 254, 3) := by decide +kernel
theorem dX12_lag_19 : decode cX12_lag 19 = .ok (.aload_n 0, 1) := by decide +kernel
theorem dX12_lag_20 : decode cX12_lag 20 = .ok (.iload_n 1, 1) := by decide +kernel
theorem dX12_lag_21 : decode cX12_lag 21 = .ok (.invokevirtual 251, 3) := by decide +kernel
theorem dX12_lag_24 : decode cX12_lag 24 = .ok (.ireturn, 1) := by decide +kernel
theorem dX12_through_0 : decode cX12_through 0 = .ok (.aload_n 0, 1) := by decide +kernel
theorem dX12_through_1 : decode cX12_through 1 = .ok (.iconst 0, 1) := by decide +kernel
theorem dX12_through_2 : decode cX12_through 2 = .ok (.putfield 119, 3) := by decide +kernel
theorem dX12_through_5 : decode cX12_through 5 = .ok (.aload_n 0, 1) := by decide +kernel
theorem dX12_through_6 : decode cX12_through 6 = .ok (.iload_n 1, 1) := by decide +kernel
theorem dX12_through_7 : decode cX12_through 7 = .ok (.iload_n 2, 1) := by decide +kernel
theorem dX12_through_8 : decode cX12_through 8 = .ok (.invokevirtual 198, 3) := by decide +kernel
theorem dX12_through_11 : decode cX12_through 11 = .ok (.ifCond .ne 5, 3) := by decide +kernel
theorem dX12_through_14 : decode cX12_through 14 = .ok (.iconst 0, 1) := by decide +kernel
theorem dX12_through_15 : decode cX12_through 15 = .ok (.ireturn, 1) := by decide +kernel
theorem dX12_through_16 : decode cX12_through 16 = .ok (.aload_n 0, 1) := by decide +kernel
theorem dX12_through_17 : decode cX12_through 17 = .ok (.invokevirtual 239, 3) := by decide +kernel
theorem dX12_through_20 : decode cX12_through 20 = .ok (.aload_n 0, 1) := by decide +kernel
theorem dX12_through_21 : decode cX12_through 21 = .ok (.invokevirtual 242, 3) := by decide +kernel
theorem dX12_through_24 : decode cX12_through 24 = .ok (.aload_n 0, 1) := by decide +kernel
theorem dX12_through_25 : decode cX12_through 25 = .ok (.iload_n 1, 1) := by decide +kernel
theorem dX12_through_26 : decode cX12_through 26 = .ok (.iload_n 2, 1) := by decide +kernel
theorem dX12_through_27 : decode cX12_through 27 = .ok (.invokevirtual 260, 3) := by decide +kernel
theorem dX12_through_30 : decode cX12_through 30 = .ok (.aload_n 0, 1) := by decide +kernel
theorem dX12_through_31 : decode cX12_through 31 = .ok (.aload_n 0, 1) := by decide +kernel
theorem dX12_through_32 : decode cX12_through 32 = .ok (.getfield 189, 3) := by decide +kernel
theorem dX12_through_35 : decode cX12_through 35 = .ok (.iconst 1, 1) := by decide +kernel
theorem dX12_through_36 : decode cX12_through 36 = .ok (.isub, 1) := by decide +kernel
theorem dX12_through_37 : decode cX12_through 37 = .ok (.invokevirtual 245, 3) := by decide +kernel
theorem dX12_through_40 : decode cX12_through 40 = .ok (.aload_n 0, 1) := by decide +kernel
theorem dX12_through_41 : decode cX12_through 41 = .ok (.invokevirtual 233, 3) := by decide +kernel
theorem dX12_through_44 : decode cX12_through 44 = .ok (.ireturn, 1) := by decide +kernel
theorem dX12_both_0 : decode cX12_both 0 = .ok (.aload_n 0, 1) := by decide +kernel
theorem dX12_both_1 : decode cX12_both 1 = .ok (.iconst 0, 1) := by decide +kernel
theorem dX12_both_2 : decode cX12_both 2 = .ok (.putfield 119, 3) := by decide +kernel
theorem dX12_both_5 : decode cX12_both 5 = .ok (.aload_n 0, 1) := by decide +kernel
theorem dX12_both_6 : decode cX12_both 6 = .ok (.iload_n 1, 1) := by decide +kernel
theorem dX12_both_7 : decode cX12_both 7 = .ok (.iload_n 2, 1) := by decide +kernel
theorem dX12_both_8 : decode cX12_both 8 = .ok (.invokevirtual 198, 3) := by decide +kernel
theorem dX12_both_11 : decode cX12_both 11 = .ok (.ifCond .eq 31, 3) := by decide +kernel
theorem dX12_both_14 : decode cX12_both 14 = .ok (.aload_n 0, 1) := by decide +kernel
theorem dX12_both_15 : decode cX12_both 15 = .ok (.iload_n 3, 1) := by decide +kernel
theorem dX12_both_16 : decode cX12_both 16 = .ok (.iload 4, 2) := by decide +kernel
theorem dX12_both_18 : decode cX12_both 18 = .ok (.invokevirtual 198, 3) := by decide +kernel
theorem dX12_both_21 : decode cX12_both 21 = .ok (.ifCond .eq 21, 3) := by decide +kernel
theorem dX12_both_24 : decode cX12_both 24 = .ok (.aload_n 0, 1) := by decide +kernel
theorem dX12_both_25 : decode cX12_both 25 = .ok (.iload_n 3, 1) := by decide +kernel
theorem dX12_both_26 : decode cX12_both 26 = .ok (.iload_n 1, 1) := by decide +kernel
theorem dX12_both_27 : decode cX12_both 27 = .ok (.if_icmp .le 7, 3) := by decide +kernel
theorem dX12_both_30 : decode cX12_both 30 = .ok (.iconst 1, 1) := by decide +kernel
theorem dX12_both_31 : decode cX12_both 31 = .ok (.goto 4, 3) := by decide +kernel
theorem dX12_both_34 : decode cX12_both 34 = .ok (.iconst 0, 1) := by decide +kernel
theorem dX12_both_35 : decode cX12_both 35 = .ok (.iconst 2, 1) := by decide +kernel
theorem dX12_both_36 : decode cX12_both 36 = .ok (.invokevirtual 148, 3) := by decide +kernel
theorem dX12_both_39 : decode cX12_both 39 = .ok (.ifCond .ne 5, 3) := by decide +kernel
theorem dX12_both_42 : decode cX12_both 42 = .ok (.iconst 0, 1) := by decide +kernel
theorem dX12_both_43 : decode cX12_both 43 = .ok (.ireturn, 1) := by decide +kernel
theorem dX12_both_44 : decode cX12_both 44 = .ok (.aload_n 0, 1) := by decide +kernel
theorem dX12_both_45 : decode cX12_both 45 = .ok (.invokevirtual 239, 3) := by decide +kernel
theorem dX12_both_48 : decode cX12_both 48 = .ok (.aload_n 0, 1) := by decide +kernel
theorem dX12_both_49 : decode cX12_both 49 = .ok (.invokevirtual 242, 3) := by decide +kernel
theorem dX12_both_52 : decode cX12_both 52 = .ok (.aload_n 0, 1) := by decide +kernel
theorem dX12_both_53 : decode cX12_both 53 = .ok (.iload_n 1, 1) := by decide +kernel
theorem dX12_both_54 : decode cX12_both 54 = .ok (.iload_n 2, 1) := by decide +kernel
theorem dX12_both_55 : decode cX12_both 55 = .ok (.invokevirtual 260, 3) := by decide +kernel
theorem dX12_both_58 : decode cX12_both 58 = .ok (.aload_n 0, 1) := by decide +kernel
theorem dX12_both_59 : decode cX12_both 59 = .ok (.iload_n 3, 1) := by decide +kernel
theorem dX12_both_60 : decode cX12_both 60 = .ok (.iload 4, 2) := by decide +kernel
theorem dX12_both_62 : decode cX12_both 62 = .ok (.invokevirtual 260, 3) := by decide +kernel
theorem dX12_both_65 : decode cX12_both 65 = .ok (.aload_n 0, 1) := by decide +kernel
theorem dX12_both_66 : decode cX12_both 66 = .ok (.aload_n 0, 1) := by decide +kernel
theorem dX12_both_67 : decode cX12_both 67 = .ok (.getfield 189, 3) := by decide +kernel
theorem dX12_both_70 : decode cX12_both 70 = .ok (.iconst 1, 1) := by decide +kernel
theorem dX12_both_71 : decode cX12_both 71 = .ok (.isub, 1) := by decide +kernel
theorem dX12_both_72 : decode cX12_both 72 = .ok (.invokevirtual 245, 3) := by decide +kernel
theorem dX12_both_75 : decode cX12_both 75 = .ok (.aload_n 0, 1) := by decide +kernel
theorem dX12_both_76 : decode cX12_both 76 = .ok (.invokevirtual 233, 3) := by decide +kernel
theorem dX12_both_79 : decode cX12_both 79 = .ok (.ireturn, 1) := by decide +kernel
theorem dX12_single_0 : decode cX12_single 0 = .ok (.aload_n 0, 1) := by decide +kernel
theorem dX12_single_1 : decode cX12_single 1 = .ok (.iconst 0, 1) := by decide +kernel
theorem dX12_single_2 : decode cX12_single 2 = .ok (.putfield 119, 3) := by decide +kernel
theorem dX12_single_5 : decode cX12_single 5 = .ok (.aload_n 0, 1) := by decide +kernel
theorem dX12_single_6 : decode cX12_single 6 = .ok (.invokevirtual 239, 3) := by decide +kernel
theorem dX12_single_9 : decode cX12_single 9 = .ok (.aload_n 0, 1) := by decide +kernel
theorem dX12_single_10 : decode cX12_single 10 = .ok (.invokevirtual 242, 3) := by decide +kernel
theorem dX12_single_13 : decode cX12_single 13 = .ok (.iconst 0, 1) := by decide +kernel
theorem dX12_single_14 : decode cX12_single 14 = .ok (.istore_n 1, 1) := by decide +kernel
theorem dX12_single_15 : decode cX12_single 15 = .ok (.iload_n 1, 1) := by decide +kernel
theorem dX12_single_16 : decode cX12_single 16 = .ok (.aload_n 0, 1) := by decide +kernel
theorem dX12_single_17 : decode cX12_single 17 = .ok (.getfield 189, 3) := by decide +kernel
theorem dX12_single_20 : decode cX12_single 20 = .ok (.if_icmp .ge 53, 3) := by decide +kernel
theorem dX12_single_23 : decode cX12_single 23 = .ok (.iconst 0, 1) := by decide +kernel
theorem dX12_single_24 : decode cX12_single 24 = .ok (.istore_n 2, 1) := by decide +kernel
theorem dX12_single_25 : decode cX12_single 25 = .ok (.iload_n 2, 1) := by decide +kernel
theorem dX12_single_26 : decode cX12_single 26 = .ok (.aload_n 0, 1) := by decide +kernel
theorem dX12_single_27 : decode cX12_single 27 = .ok (.getfield 40, 3) := by decide +kernel
theorem dX12_single_30 : decode cX12_single 30 = .ok (.iload_n 1, 1) := by decide +kernel
theorem dX12_single_31 : decode cX12_single 31 = .ok (.iaload, 1) := by decide +kernel
theorem dX12_single_32 : decode cX12_single 32 = .ok (.if_icmp .ge 35, 3) := by decide +kernel
theorem dX12_single_35 : decode cX12_single 35 = .ok (.aload_n 0, 1) := by decide +kernel
theorem dX12_single_36 : decode cX12_single 36 = .ok (.getfield 53, 3) := by decide +kernel
theorem dX12_single_39 : decode cX12_single 39 = .ok (.bipush 6, 2) := by decide +kernel
theorem dX12_single_41 : decode cX12_single 41 = .ok (.iload_n 1, 1) := by decide +kernel
theorem dX12_single_42 : decode cX12_single 42 = .ok (.imul, 1) := by decide +kernel
theorem dX12_single_43 : decode cX12_single 43 = .ok (.iload_n 2, 1) := by decide +kernel
theorem dX12_single_44 : decode cX12_single 44 = .ok (.iadd, 1) := by decide +kernel
theorem dX12_single_45 : decode cX12_single 45 = .ok (.aload_n 0, 1) := by decide +kernel
theorem dX12_single_46 : decode cX12_single 46 = .ok (.iload_n 1, 1) := by decide +kernel
theorem dX12_single_47 : decode cX12_single 47 = .ok (.iload_n 2, 1) := by decide +kernel
theorem dX12_single_48 : decode cX12_single 48 = .ok (.invokevirtual 204, 3) := by decide +kernel
theorem dX12_single_51 : decode cX12_single 51 = .ok (.iconst (-1), 1) := by decide +kernel
theorem dX12_single_52 : decode cX12_single 52 = .ok (.if_icmp .eq 7, 3) := by decide +kernel
theorem dX12_single_55 : decode cX12_single 55 = .ok (.iconst 1, 1) := by decide +kernel
theorem dX12_single_56 : decode cX12_single 56 = .ok (.goto 4, 3) := by decide +kernel
theorem dX12_single_59 : decode cX12_single 59 = .ok (.iconst 0, 1) := by decide +kernel
theorem dX12_single_60 : decode cX12_single 60 = .ok (.bastore, 1) := by decide +kernel
theorem dX12_single_61 : decode cX12_single 61 = .ok (.iinc 2 1, 3) := by decide +kernel
theorem dX12_single_64 : decode cX12_single 64 = .ok (.goto (-39), 3) := by decide +kernel
theorem dX12_single_67 : decode cX12_single 67 = .ok (.iinc 1 1, 3) := by decide +kernel
theorem dX12_single_70 : decode cX12_single 70 = .ok (.goto (-55), 3) := by decide +kernel
theorem dX12_single_73 : decode cX12_single 73 = .ok (.aload_n 0, 1) := by decide +kernel
theorem dX12_single_74 : decode cX12_single 74 = .ok (.aload_n 0, 1) := by decide +kernel
theorem dX12_single_75 : decode cX12_single 75 = .ok (.getfield 189, 3) := by decide +kernel
theorem dX12_single_78 : decode cX12_single 78 = .ok (.iconst 1, 1) := by decide +kernel
theorem dX12_single_79 : decode cX12_single 79 = .ok (.isub, 1) := by decide +kernel
theorem dX12_single_80 : decode cX12_single 80 = .ok (.invokevirtual 245, 3) := by decide +kernel
theorem dX12_single_83 : decode cX12_single 83 = .ok (.aload_n 0, 1) := by decide +kernel
theorem dX12_single_84 : decode cX12_single 84 = .ok (.invokevirtual 233, 3) := by decide +kernel
theorem dX12_single_87 : decode cX12_single 87 = .ok (.ireturn, 1) := by decide +kernel
theorem dX12_livesBy_0 : decode cX12_livesBy 0 = .ok (.aload_n 0, 1) := by decide +kernel
theorem dX12_livesBy_1 : decode cX12_livesBy 1 = .ok (.iload_n 1, 1) := by decide +kernel
theorem dX12_livesBy_2 : decode cX12_livesBy 2 = .ok (.iload_n 2, 1) := by decide +kernel
theorem dX12_livesBy_3 : decode cX12_livesBy 3 = .ok (.iadd, 1) := by decide +kernel
theorem dX12_livesBy_4 : decode cX12_livesBy 4 = .ok (.aload_n 0, 1) := by decide +kernel
theorem dX12_livesBy_5 : decode cX12_livesBy 5 = .ok (.getfield 189, 3) := by decide +kernel
theorem dX12_livesBy_8 : decode cX12_livesBy 8 = .ok (.if_icmp .ge 9, 3) := by decide +kernel
theorem dX12_livesBy_11 : decode cX12_livesBy 11 = .ok (.iload_n 1, 1) := by decide +kernel
theorem dX12_livesBy_12 : decode cX12_livesBy 12 = .ok (.iload_n 2, 1) := by decide +kernel
theorem dX12_livesBy_13 : decode cX12_livesBy 13 = .ok (.iadd, 1) := by decide +kernel
theorem dX12_livesBy_14 : decode cX12_livesBy 14 = .ok (.goto 9, 3) := by decide +kernel
theorem dX12_livesBy_17 : decode cX12_livesBy 17 = .ok (.aload_n 0, 1) := by decide +kernel
theorem dX12_livesBy_18 : decode cX12_livesBy 18 = .ok (.getfield 189, 3) := by decide +kernel
theorem dX12_livesBy_21 : decode cX12_livesBy 21 = .ok (.iconst 1, 1) := by decide +kernel
theorem dX12_livesBy_22 : decode cX12_livesBy 22 = .ok (.isub, 1) := by decide +kernel
theorem dX12_livesBy_23 : decode cX12_livesBy 23 = .ok (.invokevirtual 245, 3) := by decide +kernel
theorem dX12_livesBy_26 : decode cX12_livesBy 26 = .ok (.aload_n 0, 1) := by decide +kernel
theorem dX12_livesBy_27 : decode cX12_livesBy 27 = .ok (.invokevirtual 248, 3) := by decide +kernel
theorem dX12_livesBy_30 : decode cX12_livesBy 30 = .ok (.aload_n 0, 1) := by decide +kernel
theorem dX12_livesBy_31 : decode cX12_livesBy 31 = .ok (.getfield 50, 3) := by decide +kernel
theorem dX12_livesBy_34 : decode cX12_livesBy 34 = .ok (.iload_n 1, 1) := by decide +kernel
theorem dX12_livesBy_35 : decode cX12_livesBy 35 = .ok (.iaload, 1) := by decide +kernel
theorem dX12_livesBy_36 : decode cX12_livesBy 36 = .ok (.ireturn, 1) := by decide +kernel
theorem dX12_live_0 : decode cX12_live 0 = .ok (.aload_n 0, 1) := by decide +kernel
theorem dX12_live_1 : decode cX12_live 1 = .ok (.iconst 0, 1) := by decide +kernel
theorem dX12_live_2 : decode cX12_live 2 = .ok (.putfield 119, 3) := by decide +kernel
theorem dX12_live_5 : decode cX12_live 5 = .ok (.aload_n 0, 1) := by decide +kernel
theorem dX12_live_6 : decode cX12_live 6 = .ok (.iload_n 1, 1) := by decide +kernel
theorem dX12_live_7 : decode cX12_live 7 = .ok (.invokevirtual 167, 3) := by decide +kernel
theorem dX12_live_10 : decode cX12_live 10 = .ok (.ifCond .eq 18, 3) := by decide +kernel
theorem dX12_live_13 : decode cX12_live 13 = .ok (.aload_n 0, 1) := by decide +kernel
theorem dX12_live_14 : decode cX12_live 14 = .ok (.iload_n 2, 1) := by decide +kernel
theorem dX12_live_15 : decode cX12_live 15 = .ok (.iconst 0, 1) := by decide +kernel
theorem dX12_live_16 : decode cX12_live 16 = .ok (.bipush 20, 2) := by decide +kernel
theorem dX12_live_18 : decode cX12_live 18 = .ok (.invokestatic 133, 3) := by decide +kernel
theorem dX12_live_21 : decode cX12_live 21 = .ok (.iconst 2, 1) := by decide +kernel
theorem dX12_live_22 : decode cX12_live 22 = .ok (.invokevirtual 148, 3) := by decide +kernel
theorem dX12_live_25 : decode cX12_live 25 = .ok (.ifCond .ne 5, 3) := by decide +kernel
theorem dX12_live_28 : decode cX12_live 28 = .ok (.iconst 0, 1) := by decide +kernel
theorem dX12_live_29 : decode cX12_live 29 = .ok (.ireturn, 1) := by decide +kernel
theorem dX12_live_30 : decode cX12_live 30 = .ok (.aload_n 0, 1) := by decide +kernel
theorem dX12_live_31 : decode cX12_live 31 = .ok (.invokevirtual 239, 3) := by decide +kernel
theorem dX12_live_34 : decode cX12_live 34 = .ok (.aload_n 0, 1) := by decide +kernel
theorem dX12_live_35 : decode cX12_live 35 = .ok (.invokevirtual 242, 3) := by decide +kernel
theorem dX12_live_38 : decode cX12_live 38 = .ok (.aload_n 0, 1) := by decide +kernel
theorem dX12_live_39 : decode cX12_live 39 = .ok (.iload_n 1, 1) := by decide +kernel
theorem dX12_live_40 : decode cX12_live 40 = .ok (.iload_n 2, 1) := by decide +kernel
theorem dX12_live_41 : decode cX12_live 41 = .ok (.invokevirtual 264, 3) := by decide +kernel
theorem dX12_live_44 : decode cX12_live 44 = .ok (.ireturn, 1) := by decide +kernel
theorem dX12_settles_0 : decode cX12_settles 0 = .ok (.aload_n 0, 1) := by decide +kernel
theorem dX12_settles_1 : decode cX12_settles 1 = .ok (.iconst 0, 1) := by decide +kernel
theorem dX12_settles_2 : decode cX12_settles 2 = .ok (.putfield 119, 3) := by decide +kernel
theorem dX12_settles_5 : decode cX12_settles 5 = .ok (.aload_n 0, 1) := by decide +kernel
theorem dX12_settles_6 : decode cX12_settles 6 = .ok (.iload_n 1, 1) := by decide +kernel
theorem dX12_settles_7 : decode cX12_settles 7 = .ok (.invokevirtual 167, 3) := by decide +kernel
theorem dX12_settles_10 : decode cX12_settles 10 = .ok (.ifCond .ne 5, 3) := by decide +kernel
theorem dX12_settles_13 : decode cX12_settles 13 = .ok (.iconst 0, 1) := by decide +kernel
theorem dX12_settles_14 : decode cX12_settles 14 = .ok (.ireturn, 1) := by decide +kernel
theorem dX12_settles_15 : decode cX12_settles 15 = .ok (.aload_n 0, 1) := by decide +kernel
theorem dX12_settles_16 : decode cX12_settles 16 = .ok (.invokevirtual 239, 3) := by decide +kernel
theorem dX12_settles_19 : decode cX12_settles 19 = .ok (.aload_n 0, 1) := by decide +kernel
theorem dX12_settles_20 : decode cX12_settles 20 = .ok (.invokevirtual 242, 3) := by decide +kernel
theorem dX12_settles_23 : decode cX12_settles 23 = .ok (.bipush 20, 2) := by decide +kernel
theorem dX12_settles_25 : decode cX12_settles 25 = .ok (.istore_n 2, 1) := by decide +kernel
theorem dX12_settles_26 : decode cX12_settles 26 = .ok (.aload_n 0, 1) := by decide +kernel
theorem dX12_settles_27 : decode cX12_settles 27 = .ok (.iload_n 1, 1) := by decide +kernel
theorem dX12_settles_28 : decode cX12_settles 28 = .ok (.bipush 20, 2) := by decide +kernel
theorem dX12_settles_30 : decode cX12_settles 30 = .ok (.invokevirtual 264, 3) := by decide +kernel
theorem dX12_settles_33 : decode cX12_settles 33 = .ok (.istore_n 3, 1) := by decide +kernel
theorem dX12_settles_34 : decode cX12_settles 34 = .ok (.iload_n 2, 1) := by decide +kernel
theorem dX12_settles_35 : decode cX12_settles 35 = .ok (.ifCond .le 21, 3) := by decide +kernel
theorem dX12_settles_38 : decode cX12_settles 38 = .ok (.aload_n 0, 1) := by decide +kernel
theorem dX12_settles_39 : decode cX12_settles 39 = .ok (.iload_n 1, 1) := by decide +kernel
theorem dX12_settles_40 : decode cX12_settles 40 = .ok (.iload_n 2, 1) := by decide +kernel
theorem dX12_settles_41 : decode cX12_settles 41 = .ok (.iconst 1, 1) := by decide +kernel
theorem dX12_settles_42 : decode cX12_settles 42 = .ok (.isub, 1) := by decide +kernel
theorem dX12_settles_43 : decode cX12_settles 43 = .ok (.invokevirtual 264, 3) := by decide +kernel
theorem dX12_settles_46 : decode cX12_settles 46 = .ok (.iload_n 3, 1) := by decide +kernel
theorem dX12_settles_47 : decode cX12_settles 47 = .ok (.if_icmp .ne 9, 3) := by decide +kernel
theorem dX12_settles_50 : decode cX12_settles 50 = .ok (.iinc 2 (-1), 3) := by decide +kernel
theorem dX12_settles_53 : decode cX12_settles 53 = .ok (.goto (-19), 3) := by decide +kernel
theorem dX12_settles_56 : decode cX12_settles 56 = .ok (.iload_n 2, 1) := by decide +kernel
theorem dX12_settles_57 : decode cX12_settles 57 = .ok (.ireturn, 1) := by decide +kernel
theorem dX12_would_0 : decode cX12_would 0 = .ok (.aload_n 0, 1) := by decide +kernel
theorem dX12_would_1 : decode cX12_would 1 = .ok (.iconst 0, 1) := by decide +kernel
theorem dX12_would_2 : decode cX12_would 2 = .ok (.putfield 119, 3) := by decide +kernel
theorem dX12_would_5 : decode cX12_would 5 = .ok (.aload_n 0, 1) := by decide +kernel
theorem dX12_would_6 : decode cX12_would 6 = .ok (.iload_n 1, 1) := by decide +kernel
theorem dX12_would_7 : decode cX12_would 7 = .ok (.iconst 0, 1) := by decide +kernel
theorem dX12_would_8 : decode cX12_would 8 = .ok (.sipush 2000, 3) := by decide +kernel
theorem dX12_would_11 : decode cX12_would 11 = .ok (.invokestatic 133, 3) := by decide +kernel
theorem dX12_would_14 : decode cX12_would 14 = .ok (.ifCond .eq 18, 3) := by decide +kernel
theorem dX12_would_17 : decode cX12_would 17 = .ok (.iload_n 2, 1) := by decide +kernel
theorem dX12_would_18 : decode cX12_would 18 = .ok (.iconst 0, 1) := by decide +kernel
theorem dX12_would_19 : decode cX12_would 19 = .ok (.sipush 2000, 3) := by decide +kernel
theorem dX12_would_22 : decode cX12_would 22 = .ok (.invokestatic 133, 3) := by decide +kernel
theorem dX12_would_25 : decode cX12_would 25 = .ok (.ifCond .eq 7, 3) := by decide +kernel
theorem dX12_would_28 : decode cX12_would 28 = .ok (.iconst 1, 1) := by decide +kernel
theorem dX12_would_29 : decode cX12_would 29 = .ok (.goto 4, 3) := by decide +kernel
theorem dX12_would_32 : decode cX12_would 32 = .ok (.iconst 0, 1) := by decide +kernel
theorem dX12_would_33 : decode cX12_would 33 = .ok (.iconst 1, 1) := by decide +kernel
theorem dX12_would_34 : decode cX12_would 34 = .ok (.invokevirtual 148, 3) := by decide +kernel
theorem dX12_would_37 : decode cX12_would 37 = .ok (.ifCond .ne 5, 3) := by decide +kernel
theorem dX12_would_40 : decode cX12_would 40 = .ok (.iconst 0, 1) := by decide +kernel
theorem dX12_would_41 : decode cX12_would 41 = .ok (.ireturn, 1) := by decide +kernel
theorem dX12_would_42 : decode cX12_would 42 = .ok (.aload_n 0, 1) := by decide +kernel
theorem dX12_would_43 : decode cX12_would 43 = .ok (.invokevirtual 239, 3) := by decide +kernel
theorem dX12_would_46 : decode cX12_would 46 = .ok (.aload_n 0, 1) := by decide +kernel
theorem dX12_would_47 : decode cX12_would 47 = .ok (.invokevirtual 242, 3) := by decide +kernel
theorem dX12_would_50 : decode cX12_would 50 = .ok (.aload_n 0, 1) := by decide +kernel
theorem dX12_would_51 : decode cX12_would 51 = .ok (.iload_n 1, 1) := by decide +kernel
theorem dX12_would_52 : decode cX12_would 52 = .ok (.putfield 216, 3) := by decide +kernel
theorem dX12_would_55 : decode cX12_would 55 = .ok (.aload_n 0, 1) := by decide +kernel
theorem dX12_would_56 : decode cX12_would 56 = .ok (.iload_n 2, 1) := by decide +kernel
theorem dX12_would_57 : decode cX12_would 57 = .ok (.putfield 210, 3) := by decide +kernel
theorem dX12_would_60 : decode cX12_would 60 = .ok (.aload_n 0, 1) := by decide +kernel
theorem dX12_would_61 : decode cX12_would 61 = .ok (.aload_n 0, 1) := by decide +kernel
theorem dX12_would_62 : decode cX12_would 62 = .ok (.getfield 189, 3) := by decide +kernel
theorem dX12_would_65 : decode cX12_would 65 = .ok (.iconst 1, 1) := by decide +kernel
theorem dX12_would_66 : decode cX12_would 66 = .ok (.isub, 1) := by decide +kernel
theorem dX12_would_67 : decode cX12_would 67 = .ok (.invokevirtual 245, 3) := by decide +kernel
theorem dX12_would_70 : decode cX12_would 70 = .ok (.aload_n 0, 1) := by decide +kernel
theorem dX12_would_71 : decode cX12_would 71 = .ok (.invokevirtual 233, 3) := by decide +kernel
theorem dX12_would_74 : decode cX12_would 74 = .ok (.ireturn, 1) := by decide +kernel
theorem dX12_doubled_0 : decode cX12_doubled 0 = .ok (.aload_n 0, 1) := by decide +kernel
theorem dX12_doubled_1 : decode cX12_doubled 1 = .ok (.iconst 0, 1) := by decide +kernel
theorem dX12_doubled_2 : decode cX12_doubled 2 = .ok (.putfield 119, 3) := by decide +kernel
theorem dX12_doubled_5 : decode cX12_doubled 5 = .ok (.aload_n 0, 1) := by decide +kernel
theorem dX12_doubled_6 : decode cX12_doubled 6 = .ok (.invokevirtual 254, 3) := by decide +kernel
theorem dX12_doubled_9 : decode cX12_doubled 9 = .ok (.iconst 0, 1) := by decide +kernel
theorem dX12_doubled_10 : decode cX12_doubled 10 = .ok (.istore_n 1, 1) := by decide +kernel
theorem dX12_doubled_11 : decode cX12_doubled 11 = .ok (.iconst 0, 1) := by decide +kernel
theorem dX12_doubled_12 : decode cX12_doubled 12 = .ok (.istore_n 2, 1) := by decide +kernel
theorem dX12_doubled_13 : decode cX12_doubled 13 = .ok (.iload_n 2, 1) := by decide +kernel
theorem dX12_doubled_14 : decode cX12_doubled 14 = .ok (.aload_n 0, 1) := by decide +kernel
theorem dX12_doubled_15 : decode cX12_doubled 15 = .ok (.getfield 189, 3) := by decide +kernel
theorem dX12_doubled_18 : decode cX12_doubled 18 = .ok (.if_icmp .ge 32, 3) := by decide +kernel
theorem dX12_doubled_21 : decode cX12_doubled 21 = .ok (.iload_n 1, 1) := by decide +kernel
theorem dX12_doubled_22 : decode cX12_doubled 22 = .ok (.aload_n 0, 1) := by decide +kernel
theorem dX12_doubled_23 : decode cX12_doubled 23 = .ok (.iload_n 2, 1) := by decide +kernel
theorem dX12_doubled_24 : decode cX12_doubled 24 = .ok (.aload_n 0, 1) := by decide +kernel
theorem dX12_doubled_25 : decode cX12_doubled 25 = .ok (.getfield 50, 3) := by decide +kernel
theorem dX12_doubled_28 : decode cX12_doubled 28 = .ok (.iload_n 2, 1) := by decide +kernel
theorem dX12_doubled_29 : decode cX12_doubled 29 = .ok (.iaload, 1) := by decide +kernel
theorem dX12_doubled_30 : decode cX12_doubled 30 = .ok (.invokevirtual 204, 3) := by decide +kernel
theorem dX12_doubled_33 : decode cX12_doubled 33 = .ok (.iconst (-1), 1) := by decide +kernel
theorem dX12_doubled_34 : decode cX12_doubled 34 = .ok (.if_icmp .eq 7, 3) := by decide +kernel
theorem dX12_doubled_37 : decode cX12_doubled 37 = .ok (.iconst 1, 1) := by decide +kernel
theorem dX12_doubled_38 : decode cX12_doubled 38 = .ok (.goto 4, 3) := by decide +kernel
theorem dX12_doubled_41 : decode cX12_doubled 41 = .ok (.iconst 0, 1) := by decide +kernel
theorem dX12_doubled_42 : decode cX12_doubled 42 = .ok (.iadd, 1) := by decide +kernel
theorem dX12_doubled_43 : decode cX12_doubled 43 = .ok (.istore_n 1, 1) := by decide +kernel
theorem dX12_doubled_44 : decode cX12_doubled 44 = .ok (.iinc 2 1, 3) := by decide +kernel
theorem dX12_doubled_47 : decode cX12_doubled 47 = .ok (.goto (-34), 3) := by decide +kernel
theorem dX12_doubled_50 : decode cX12_doubled 50 = .ok (.iload_n 1, 1) := by decide +kernel
theorem dX12_doubled_51 : decode cX12_doubled 51 = .ok (.ireturn, 1) := by decide +kernel
theorem dX12_rankAt_0 : decode cX12_rankAt 0 = .ok (.bipush 8, 2) := by decide +kernel
theorem dX12_rankAt_2 : decode cX12_rankAt 2 = .ok (.bipush 6, 2) := by decide +kernel
theorem dX12_rankAt_4 : decode cX12_rankAt 4 = .ok (.iload_n 0, 1) := by decide +kernel
theorem dX12_rankAt_5 : decode cX12_rankAt 5 = .ok (.imul, 1) := by decide +kernel
theorem dX12_rankAt_6 : decode cX12_rankAt 6 = .ok (.iload_n 1, 1) := by decide +kernel
theorem dX12_rankAt_7 : decode cX12_rankAt 7 = .ok (.iadd, 1) := by decide +kernel
theorem dX12_rankAt_8 : decode cX12_rankAt 8 = .ok (.imul, 1) := by decide +kernel
theorem dX12_rankAt_9 : decode cX12_rankAt 9 = .ok (.iload_n 2, 1) := by decide +kernel
theorem dX12_rankAt_10 : decode cX12_rankAt 10 = .ok (.iadd, 1) := by decide +kernel
theorem dX12_rankAt_11 : decode cX12_rankAt 11 = .ok (.ireturn, 1) := by decide +kernel
theorem dX12_ranks_0 : decode cX12_ranks 0 = .ok (.bipush 6, 2) := by decide +kernel
theorem dX12_ranks_2 : decode cX12_ranks 2 = .ok (.iload_n 1, 1) := by decide +kernel
theorem dX12_ranks_3 : decode cX12_ranks 3 = .ok (.imul, 1) := by decide +kernel
theorem dX12_ranks_4 : decode cX12_ranks 4 = .ok (.iload_n 2, 1) := by decide +kernel
theorem dX12_ranks_5 : decode cX12_ranks 5 = .ok (.iadd, 1) := by decide +kernel
theorem dX12_ranks_6 : decode cX12_ranks 6 = .ok (.istore 6, 2) := by decide +kernel
theorem dX12_ranks_8 : decode cX12_ranks 8 = .ok (.aload_n 0, 1) := by decide +kernel
theorem dX12_ranks_9 : decode cX12_ranks 9 = .ok (.getfield 65, 3) := by decide +kernel
theorem dX12_ranks_12 : decode cX12_ranks 12 = .ok (.iload 6, 2) := by decide +kernel
theorem dX12_ranks_14 : decode cX12_ranks 14 = .ok (.iaload, 1) := by decide +kernel
theorem dX12_ranks_15 : decode cX12_ranks 15 = .ok (.istore 7, 2) := by decide +kernel
theorem dX12_ranks_17 : decode cX12_ranks 17 = .ok (.iload 7, 2) := by decide +kernel
theorem dX12_ranks_19 : decode cX12_ranks 19 = .ok (.ifCond .le 27, 3) := by decide +kernel
theorem dX12_ranks_22 : decode cX12_ranks 22 = .ok (.aload_n 0, 1) := by decide +kernel
theorem dX12_ranks_23 : decode cX12_ranks 23 = .ok (.getfield 56, 3) := by decide +kernel
theorem dX12_ranks_26 : decode cX12_ranks 26 = .ok (.iload_n 1, 1) := by decide +kernel
theorem dX12_ranks_27 : decode cX12_ranks 27 = .ok (.iload_n 2, 1) := by decide +kernel
theorem dX12_ranks_28 : decode cX12_ranks 28 = .ok (.iload 7, 2) := by decide +kernel
theorem dX12_ranks_30 : decode cX12_ranks 30 = .ok (.iconst 1, 1) := by decide +kernel
theorem dX12_ranks_31 : decode cX12_ranks 31 = .ok (.isub, 1) := by decide +kernel
theorem dX12_ranks_32 : decode cX12_ranks 32 = .ok (.invokestatic 267, 3) := by decide +kernel
theorem dX12_ranks_35 : decode cX12_ranks 35 = .ok (.iaload, 1) := by decide +kernel
theorem dX12_ranks_36 : decode cX12_ranks 36 = .ok (.iload_n 3, 1) := by decide +kernel
theorem dX12_ranks_37 : decode cX12_ranks 37 = .ok (.if_icmp .le 9, 3) := by decide +kernel
theorem dX12_ranks_40 : decode cX12_ranks 40 = .ok (.iinc 7 (-1), 3) := by decide +kernel
theorem dX12_ranks_43 : decode cX12_ranks 43 = .ok (.goto (-26), 3) := by decide +kernel
theorem dX12_ranks_46 : decode cX12_ranks 46 = .ok (.iload 7, 2) := by decide +kernel
theorem dX12_ranks_48 : decode cX12_ranks 48 = .ok (.bipush 8, 2) := by decide +kernel
theorem dX12_ranks_50 : decode cX12_ranks 50 = .ok (.if_icmp .ne 4, 3) := by decide +kernel
theorem dX12_ranks_53 : decode cX12_ranks 53 = .ok (.return_, 1) := by decide +kernel
theorem dX12_ranks_54 : decode cX12_ranks 54 = .ok (.aload_n 0, 1) := by decide +kernel
theorem dX12_ranks_55 : decode cX12_ranks 55 = .ok (.getfield 65, 3) := by decide +kernel
theorem dX12_ranks_58 : decode cX12_ranks 58 = .ok (.iload 6, 2) := by decide +kernel
theorem dX12_ranks_60 : decode cX12_ranks 60 = .ok (.iaload, 1) := by decide +kernel
theorem dX12_ranks_61 : decode cX12_ranks 61 = .ok (.bipush 8, 2) := by decide +kernel
theorem dX12_ranks_63 : decode cX12_ranks 63 = .ok (.if_icmp .ge 13, 3) := by decide +kernel
theorem dX12_ranks_66 : decode cX12_ranks 66 = .ok (.aload_n 0, 1) := by decide +kernel
theorem dX12_ranks_67 : decode cX12_ranks 67 = .ok (.getfield 65, 3) := by decide +kernel
theorem dX12_ranks_70 : decode cX12_ranks 70 = .ok (.iload 6, 2) := by decide +kernel
theorem dX12_ranks_72 : decode cX12_ranks 72 = .ok (.iaload, 1) := by decide +kernel
theorem dX12_ranks_73 : decode cX12_ranks 73 = .ok (.goto 5, 3) := by decide +kernel
theorem dX12_ranks_76 : decode cX12_ranks 76 = .ok (.bipush 7, 2) := by decide +kernel
theorem dX12_ranks_78 : decode cX12_ranks 78 = .ok (.istore 8, 2) := by decide +kernel
theorem dX12_ranks_80 : decode cX12_ranks 80 = .ok (.iload 8, 2) := by decide +kernel
theorem dX12_ranks_82 : decode cX12_ranks 82 = .ok (.istore 9, 2) := by decide +kernel
theorem dX12_ranks_84 : decode cX12_ranks 84 = .ok (.iload 9, 2) := by decide +kernel
theorem dX12_ranks_86 : decode cX12_ranks 86 = .ok (.iload 7, 2) := by decide +kernel
theorem dX12_ranks_88 : decode cX12_ranks 88 = .ok (.if_icmp .le 87, 3) := by decide +kernel
theorem dX12_ranks_91 : decode cX12_ranks 91 = .ok (.aload_n 0, 1) := by decide +kernel
theorem dX12_ranks_92 : decode cX12_ranks 92 = .ok (.getfield 56, 3) := by decide +kernel
theorem dX12_ranks_95 : decode cX12_ranks 95 = .ok (.iload_n 1, 1) := by decide +kernel
theorem dX12_ranks_96 : decode cX12_ranks 96 = .ok (.iload_n 2, 1) := by decide +kernel
theorem dX12_ranks_97 : decode cX12_ranks 97 = .ok (.iload 9, 2) := by decide +kernel
theorem dX12_ranks_99 : decode cX12_ranks 99 = .ok (.invokestatic 267, 3) := by decide +kernel
theorem dX12_ranks_102 : decode cX12_ranks 102 = .ok (.aload_n 0, 1) := by decide +kernel
theorem dX12_ranks_103 : decode cX12_ranks 103 = .ok (.getfield 56, 3) := by decide +kernel
theorem dX12_ranks_106 : decode cX12_ranks 106 = .ok (.iload_n 1, 1) := by decide +kernel
theorem dX12_ranks_107 : decode cX12_ranks 107 = .ok (.iload_n 2, 1) := by decide +kernel
theorem dX12_ranks_108 : decode cX12_ranks 108 = .ok (.iload 9, 2) := by decide +kernel
theorem dX12_ranks_110 : decode cX12_ranks 110 = .ok (.iconst 1, 1) := by decide +kernel
theorem dX12_ranks_111 : decode cX12_ranks 111 = .ok (.isub, 1) := by decide +kernel
theorem dX12_ranks_112 : decode cX12_ranks 112 = .ok (.invokestatic 267, 3) := by decide +kernel
theorem dX12_ranks_115 : decode cX12_ranks 115 = .ok (.iaload, 1) := by decide +kernel
theorem dX12_ranks_116 : decode cX12_ranks 116 = .ok (.iastore, 1) := by decide +kernel
theorem dX12_ranks_117 : decode cX12_ranks 117 = .ok (.aload_n 0, 1) := by decide +kernel
theorem dX12_ranks_118 : decode cX12_ranks 118 = .ok (.getfield 59, 3) := by decide +kernel
theorem dX12_ranks_121 : decode cX12_ranks 121 = .ok (.iload_n 1, 1) := by decide +kernel
theorem dX12_ranks_122 : decode cX12_ranks 122 = .ok (.iload_n 2, 1) := by decide +kernel
theorem dX12_ranks_123 : decode cX12_ranks 123 = .ok (.iload 9, 2) := by decide +kernel
theorem dX12_ranks_125 : decode cX12_ranks 125 = .ok (.invokestatic 267, 3) := by decide +kernel
theorem dX12_ranks_128 : decode cX12_ranks 128 = .ok (.aload_n 0, 1) := by decide +kernel
theorem dX12_ranks_129 : decode cX12_ranks 129 = .ok (.getfield 59, 3) := by decide +kernel
theorem dX12_ranks_132 : decode cX12_ranks 132 = .ok (.iload_n 1, 1) := by decide +kernel
theorem dX12_ranks_133 : decode cX12_ranks 133 = .ok (.iload_n 2, 1) := by decide +kernel
theorem dX12_ranks_134 : decode cX12_ranks 134 = .ok (.iload 9, 2) := by decide +kernel
theorem dX12_ranks_136 : decode cX12_ranks 136 = .ok (.iconst 1, 1) := by decide +kernel
theorem dX12_ranks_137 : decode cX12_ranks 137 = .ok (.isub, 1) := by decide +kernel
theorem dX12_ranks_138 : decode cX12_ranks 138 = .ok (.invokestatic 267, 3) := by decide +kernel
theorem dX12_ranks_141 : decode cX12_ranks 141 = .ok (.iaload, 1) := by decide +kernel
theorem dX12_ranks_142 : decode cX12_ranks 142 = .ok (.iastore, 1) := by decide +kernel
theorem dX12_ranks_143 : decode cX12_ranks 143 = .ok (.aload_n 0, 1) := by decide +kernel
theorem dX12_ranks_144 : decode cX12_ranks 144 = .ok (.getfield 62, 3) := by decide +kernel
theorem dX12_ranks_147 : decode cX12_ranks 147 = .ok (.iload_n 1, 1) := by decide +kernel
theorem dX12_ranks_148 : decode cX12_ranks 148 = .ok (.iload_n 2, 1) := by decide +kernel
theorem dX12_ranks_149 : decode cX12_ranks 149 = .ok (.iload 9, 2) := by decide +kernel
theorem dX12_ranks_151 : decode cX12_ranks 151 = .ok (.invokestatic 267, 3) := by decide +kernel
theorem dX12_ranks_154 : decode cX12_ranks 154 = .ok (.aload_n 0, 1) := by decide +kernel
theorem dX12_ranks_155 : decode cX12_ranks 155 = .ok (.getfield 62, 3) := by decide +kernel
theorem dX12_ranks_158 : decode cX12_ranks 158 = .ok (.iload_n 1, 1) := by decide +kernel
theorem dX12_ranks_159 : decode cX12_ranks 159 = .ok (.iload_n 2, 1) := by decide +kernel
theorem dX12_ranks_160 : decode cX12_ranks 160 = .ok (.iload 9, 2) := by decide +kernel
theorem dX12_ranks_162 : decode cX12_ranks 162 = .ok (.iconst 1, 1) := by decide +kernel
theorem dX12_ranks_163 : decode cX12_ranks 163 = .ok (.isub, 1) := by decide +kernel
theorem dX12_ranks_164 : decode cX12_ranks 164 = .ok (.invokestatic 267, 3) := by decide +kernel
theorem dX12_ranks_167 : decode cX12_ranks 167 = .ok (.iaload, 1) := by decide +kernel
theorem dX12_ranks_168 : decode cX12_ranks 168 = .ok (.iastore, 1) := by decide +kernel
theorem dX12_ranks_169 : decode cX12_ranks 169 = .ok (.iinc 9 (-1), 3) := by decide +kernel
theorem dX12_ranks_172 : decode cX12_ranks 172 = .ok (.goto (-88), 3) := by decide +kernel
theorem dX12_ranks_175 : decode cX12_ranks 175 = .ok (.aload_n 0, 1) := by decide +kernel
theorem dX12_ranks_176 : decode cX12_ranks 176 = .ok (.getfield 56, 3) := by decide +kernel
theorem dX12_ranks_179 : decode cX12_ranks 179 = .ok (.iload_n 1, 1) := by decide +kernel
theorem dX12_ranks_180 : decode cX12_ranks 180 = .ok (.iload_n 2, 1) := by decide +kernel
theorem dX12_ranks_181 : decode cX12_ranks 181 = .ok (.iload 7, 2) := by decide +kernel
theorem dX12_ranks_183 : decode cX12_ranks 183 = .ok (.invokestatic 267, 3) := by decide +kernel
theorem dX12_ranks_186 : decode cX12_ranks 186 = .ok (.iload_n 3, 1) := by decide +kernel
theorem dX12_ranks_187 : decode cX12_ranks 187 = .ok (.iastore, 1) := by decide +kernel
theorem dX12_ranks_188 : decode cX12_ranks 188 = .ok (.aload_n 0, 1) := by decide +kernel
theorem dX12_ranks_189 : decode cX12_ranks 189 = .ok (.getfield 59, 3) := by decide +kernel
theorem dX12_ranks_192 : decode cX12_ranks 192 = .ok (.iload_n 1, 1) := by decide +kernel
theorem dX12_ranks_193 : decode cX12_ranks 193 = .ok (.iload_n 2, 1) := by decide +kernel
theorem dX12_ranks_194 : decode cX12_ranks 194 = .ok (.iload 7, 2) := by decide +kernel
theorem dX12_ranks_196 : decode cX12_ranks 196 = .ok (.invokestatic 267, 3) := by decide +kernel
theorem dX12_ranks_199 : decode cX12_ranks 199 = .ok (.iload 4, 2) := by decide +kernel
theorem dX12_ranks_201 : decode cX12_ranks 201 = .ok (.iastore, 1) := by decide +kernel
theorem dX12_ranks_202 : decode cX12_ranks 202 = .ok (.aload_n 0, 1) := by decide +kernel
theorem dX12_ranks_203 : decode cX12_ranks 203 = .ok (.getfield 62, 3) := by decide +kernel
theorem dX12_ranks_206 : decode cX12_ranks 206 = .ok (.iload_n 1, 1) := by decide +kernel
theorem dX12_ranks_207 : decode cX12_ranks 207 = .ok (.iload_n 2, 1) := by decide +kernel
theorem dX12_ranks_208 : decode cX12_ranks 208 = .ok (.iload 7, 2) := by decide +kernel
theorem dX12_ranks_210 : decode cX12_ranks 210 = .ok (.invokestatic 267, 3) := by decide +kernel
theorem dX12_ranks_213 : decode cX12_ranks 213 = .ok (.iload 5, 2) := by decide +kernel
theorem dX12_ranks_215 : decode cX12_ranks 215 = .ok (.iastore, 1) := by decide +kernel
theorem dX12_ranks_216 : decode cX12_ranks 216 = .ok (.aload_n 0, 1) := by decide +kernel
theorem dX12_ranks_217 : decode cX12_ranks 217 = .ok (.getfield 65, 3) := by decide +kernel
theorem dX12_ranks_220 : decode cX12_ranks 220 = .ok (.iload 6, 2) := by decide +kernel
theorem dX12_ranks_222 : decode cX12_ranks 222 = .ok (.iload 8, 2) := by decide +kernel
theorem dX12_ranks_224 : decode cX12_ranks 224 = .ok (.iconst 1, 1) := by decide +kernel
theorem dX12_ranks_225 : decode cX12_ranks 225 = .ok (.iadd, 1) := by decide +kernel
theorem dX12_ranks_226 : decode cX12_ranks 226 = .ok (.iastore, 1) := by decide +kernel
theorem dX12_ranks_227 : decode cX12_ranks 227 = .ok (.return_, 1) := by decide +kernel
theorem dX12_ranksFrom_0 : decode cX12_ranksFrom 0 = .ok (.aload_n 0, 1) := by decide +kernel
theorem dX12_ranksFrom_1 : decode cX12_ranksFrom 1 = .ok (.getfield 65, 3) := by decide +kernel
theorem dX12_ranksFrom_4 : decode cX12_ranksFrom 4 = .ok (.bipush 6, 2) := by decide +kernel
theorem dX12_ranksFrom_6 : decode cX12_ranksFrom 6 = .ok (.iload_n 1, 1) := by decide +kernel
theorem dX12_ranksFrom_7 : decode cX12_ranksFrom 7 = .ok (.imul, 1) := by decide +kernel
theorem dX12_ranksFrom_8 : decode cX12_ranksFrom 8 = .ok (.iload_n 2, 1) := by decide +kernel
theorem dX12_ranksFrom_9 : decode cX12_ranksFrom 9 = .ok (.iadd, 1) := by decide +kernel
theorem dX12_ranksFrom_10 : decode cX12_ranksFrom 10 = .ok (.iconst 0, 1) := by decide +kernel
theorem dX12_ranksFrom_11 : decode cX12_ranksFrom 11 = .ok (.iastore, 1) := by decide +kernel
theorem dX12_ranksFrom_12 : decode cX12_ranksFrom 12 = .ok (.iload_n 1, 1) := by decide +kernel
theorem dX12_ranksFrom_13 : decode cX12_ranksFrom 13 = .ok (.aload_n 0, 1) := by decide +kernel
theorem dX12_ranksFrom_14 : decode cX12_ranksFrom 14 = .ok (.getfield 189, 3) := by decide +kernel
theorem dX12_ranksFrom_17 : decode cX12_ranksFrom 17 = .ok (.iconst 1, 1) := by decide +kernel
theorem dX12_ranksFrom_18 : decode cX12_ranksFrom 18 = .ok (.isub, 1) := by decide +kernel
theorem dX12_ranksFrom_19 : decode cX12_ranksFrom 19 = .ok (.if_icmp .ne 18, 3) := by decide +kernel
theorem dX12_ranksFrom_22 : decode cX12_ranksFrom 22 = .ok (.aload_n 0, 1) := by decide +kernel
theorem dX12_ranksFrom_23 : decode cX12_ranksFrom 23 = .ok (.iload_n 1, 1) := by decide +kernel
theorem dX12_ranksFrom_24 : decode cX12_ranksFrom 24 = .ok (.iload_n 2, 1) := by decide +kernel
theorem dX12_ranksFrom_25 : decode cX12_ranksFrom 25 = .ok (.aload_n 0, 1) := by decide +kernel
theorem dX12_ranksFrom_26 : decode cX12_ranksFrom 26 = .ok (.iload_n 1, 1) := by decide +kernel
theorem dX12_ranksFrom_27 : decode cX12_ranksFrom 27 = .ok (.iload_n 2, 1) := by decide +kernel
theorem dX12_ranksFrom_28 : decode cX12_ranksFrom 28 = .ok (.invokevirtual 201, 3) := by decide +kernel
theorem dX12_ranksFrom_31 : decode cX12_ranksFrom 31 = .ok (.iconst (-1), 1) := by decide +kernel
theorem dX12_ranksFrom_32 : decode cX12_ranksFrom 32 = .ok (.iconst (-1), 1) := by decide +kernel
theorem dX12_ranksFrom_33 : decode cX12_ranksFrom 33 = .ok (.invokevirtual 270, 3) := by decide +kernel
theorem dX12_ranksFrom_36 : decode cX12_ranksFrom 36 = .ok (.return_, 1) := by decide +kernel
theorem dX12_ranksFrom_37 : decode cX12_ranksFrom 37 = .ok (.iconst 0, 1) := by decide +kernel
theorem dX12_ranksFrom_38 : decode cX12_ranksFrom 38 = .ok (.istore_n 3, 1) := by decide +kernel
theorem dX12_ranksFrom_39 : decode cX12_ranksFrom 39 = .ok (.iload_n 3, 1) := by decide +kernel
theorem dX12_ranksFrom_40 : decode cX12_ranksFrom 40 = .ok (.aload_n 0, 1) := by decide +kernel
theorem dX12_ranksFrom_41 : decode cX12_ranksFrom 41 = .ok (.getfield 40, 3) := by decide +kernel
theorem dX12_ranksFrom_44 : decode cX12_ranksFrom 44 = .ok (.iload_n 1, 1) := by decide +kernel
theorem dX12_ranksFrom_45 : decode cX12_ranksFrom 45 = .ok (.iconst 1, 1) := by decide +kernel
theorem dX12_ranksFrom_46 : decode cX12_ranksFrom 46 = .ok (.iadd, 1) := by decide +kernel
theorem dX12_ranksFrom_47 : decode cX12_ranksFrom 47 = .ok (.iaload, 1) := by decide +kernel
theorem dX12_ranksFrom_48 : decode cX12_ranksFrom 48 = .ok (.if_icmp .ge 78, 3) := by decide +kernel
theorem dX12_ranksFrom_51 : decode cX12_ranksFrom 51 = .ok (.aload_n 0, 1) := by decide +kernel
theorem dX12_ranksFrom_52 : decode cX12_ranksFrom 52 = .ok (.iload_n 1, 1) := by decide +kernel
theorem dX12_ranksFrom_53 : decode cX12_ranksFrom 53 = .ok (.iload_n 2, 1) := by decide +kernel
theorem dX12_ranksFrom_54 : decode cX12_ranksFrom 54 = .ok (.invokevirtual 201, 3) := by decide +kernel
theorem dX12_ranksFrom_57 : decode cX12_ranksFrom 57 = .ok (.aload_n 0, 1) := by decide +kernel
theorem dX12_ranksFrom_58 : decode cX12_ranksFrom 58 = .ok (.iload_n 1, 1) := by decide +kernel
theorem dX12_ranksFrom_59 : decode cX12_ranksFrom 59 = .ok (.iload_n 2, 1) := by decide +kernel
theorem dX12_ranksFrom_60 : decode cX12_ranksFrom 60 = .ok (.iload_n 3, 1) := by decide +kernel
theorem dX12_ranksFrom_61 : decode cX12_ranksFrom 61 = .ok (.invokevirtual 223, 3) := by decide +kernel
theorem dX12_ranksFrom_64 : decode cX12_ranksFrom 64 = .ok (.iadd, 1) := by decide +kernel
theorem dX12_ranksFrom_65 : decode cX12_ranksFrom 65 = .ok (.istore 4, 2) := by decide +kernel
theorem dX12_ranksFrom_67 : decode cX12_ranksFrom 67 = .ok (.iconst 0, 1) := by decide +kernel
theorem dX12_ranksFrom_68 : decode cX12_ranksFrom 68 = .ok (.istore 5, 2) := by decide +kernel
theorem dX12_ranksFrom_70 : decode cX12_ranksFrom 70 = .ok (.iload 5, 2) := by decide +kernel
theorem dX12_ranksFrom_72 : decode cX12_ranksFrom 72 = .ok (.aload_n 0, 1) := by decide +kernel
theorem dX12_ranksFrom_73 : decode cX12_ranksFrom 73 = .ok (.getfield 65, 3) := by decide +kernel
theorem dX12_ranksFrom_76 : decode cX12_ranksFrom 76 = .ok (.bipush 6, 2) := by decide +kernel
theorem dX12_ranksFrom_78 : decode cX12_ranksFrom 78 = .ok (.iload_n 1, 1) := by decide +kernel
theorem dX12_ranksFrom_79 : decode cX12_ranksFrom 79 = .ok (.iconst 1, 1) := by decide +kernel
theorem dX12_ranksFrom_80 : decode cX12_ranksFrom 80 = .ok (.iadd, 1) := by decide +kernel
theorem dX12_ranksFrom_81 : decode cX12_ranksFrom 81 = .ok (.imul, 1) := by decide +kernel
theorem dX12_ranksFrom_82 : decode cX12_ranksFrom 82 = .ok (.iload_n 3, 1) := by decide +kernel
theorem dX12_ranksFrom_83 : decode cX12_ranksFrom 83 = .ok (.iadd, 1) := by decide +kernel
theorem dX12_ranksFrom_84 : decode cX12_ranksFrom 84 = .ok (.iaload, 1) := by decide +kernel
theorem dX12_ranksFrom_85 : decode cX12_ranksFrom 85 = .ok (.if_icmp .ge 35, 3) := by decide +kernel
theorem dX12_ranksFrom_88 : decode cX12_ranksFrom 88 = .ok (.aload_n 0, 1) := by decide +kernel
theorem dX12_ranksFrom_89 : decode cX12_ranksFrom 89 = .ok (.iload_n 1, 1) := by decide +kernel
theorem dX12_ranksFrom_90 : decode cX12_ranksFrom 90 = .ok (.iload_n 2, 1) := by decide +kernel
theorem dX12_ranksFrom_91 : decode cX12_ranksFrom 91 = .ok (.iload 4, 2) := by decide +kernel
theorem dX12_ranksFrom_93 : decode cX12_ranksFrom 93 = .ok (.aload_n 0, 1) := by decide +kernel
theorem dX12_ranksFrom_94 : decode cX12_ranksFrom 94 = .ok (.getfield 56, 3) := by decide +kernel
theorem dX12_ranksFrom_97 : decode cX12_ranksFrom 97 = .ok (.iload_n 1, 1) := by decide +kernel
theorem dX12_ranksFrom_98 : decode cX12_ranksFrom 98 = .ok (.iconst 1, 1) := by decide +kernel
theorem dX12_ranksFrom_99 : decode cX12_ranksFrom 99 = .ok (.iadd, 1) := by decide +kernel
theorem dX12_ranksFrom_100 : decode cX12_ranksFrom 100 = .ok (.iload_n 3, 1) := by decide +kernel
theorem dX12_ranksFrom_101 : decode cX12_ranksFrom 101 = .ok (.iload 5, 2) := by decide +kernel
theorem dX12_ranksFrom_103 : decode cX12_ranksFrom 103 = .ok (.invokestatic 267, 3) := by decide +kernel
theorem dX12_ranksFrom_106 : decode cX12_ranksFrom 106 = .ok (.iaload, 1) := by decide +kernel
theorem dX12_ranksFrom_107 : decode cX12_ranksFrom 107 = .ok (.iadd, 1) := by decide +kernel
theorem dX12_ranksFrom_108 : decode cX12_ranksFrom 108 = .ok (.iload_n 3, 1) := by decide +kernel
theorem dX12_ranksFrom_109 : decode cX12_ranksFrom 109 = .ok (.iload 5, 2) := by decide +kernel
theorem dX12_ranksFrom_111 : decode cX12_ranksFrom 111 = .ok (.invokevirtual 270, 3) := by decide +kernel
theorem dX12_ranksFrom_114 : decode cX12_ranksFrom 114 = .ok (.iinc 5 1, 3) := by decide +kernel
theorem dX12_ranksFrom_117 : decode cX12_ranksFrom 117 = .ok (.goto (-47), 3) := by decide +kernel
theorem dX12_ranksFrom_120 : decode cX12_ranksFrom 120 = .ok (.iinc 3 1, 3) := by decide +kernel
theorem dX12_ranksFrom_123 : decode cX12_ranksFrom 123 = .ok (.goto (-84), 3) := by decide +kernel
theorem dX12_ranksFrom_126 : decode cX12_ranksFrom 126 = .ok (.return_, 1) := by decide +kernel
theorem dX12_tops_0 : decode cX12_tops 0 = .ok (.aload_n 0, 1) := by decide +kernel
theorem dX12_tops_1 : decode cX12_tops 1 = .ok (.getfield 274, 3) := by decide +kernel
theorem dX12_tops_4 : decode cX12_tops 4 = .ok (.istore 4, 2) := by decide +kernel
theorem dX12_tops_6 : decode cX12_tops 6 = .ok (.iload 4, 2) := by decide +kernel
theorem dX12_tops_8 : decode cX12_tops 8 = .ok (.ifCond .le 22, 3) := by decide +kernel
theorem dX12_tops_11 : decode cX12_tops 11 = .ok (.aload_n 0, 1) := by decide +kernel
theorem dX12_tops_12 : decode cX12_tops 12 = .ok (.getfield 68, 3) := by decide +kernel
theorem dX12_tops_15 : decode cX12_tops 15 = .ok (.iload 4, 2) := by decide +kernel
theorem dX12_tops_17 : decode cX12_tops 17 = .ok (.iconst 1, 1) := by decide +kernel
theorem dX12_tops_18 : decode cX12_tops 18 = .ok (.isub, 1) := by decide +kernel
theorem dX12_tops_19 : decode cX12_tops 19 = .ok (.iaload, 1) := by decide +kernel
theorem dX12_tops_20 : decode cX12_tops 20 = .ok (.iload_n 1, 1) := by decide +kernel
theorem dX12_tops_21 : decode cX12_tops 21 = .ok (.if_icmp .le 9, 3) := by decide +kernel
theorem dX12_tops_24 : decode cX12_tops 24 = .ok (.iinc 4 (-1), 3) := by decide +kernel
theorem dX12_tops_27 : decode cX12_tops 27 = .ok (.goto (-21), 3) := by decide +kernel
theorem dX12_tops_30 : decode cX12_tops 30 = .ok (.iload 4, 2) := by decide +kernel
theorem dX12_tops_32 : decode cX12_tops 32 = .ok (.bipush 8, 2) := by decide +kernel
theorem dX12_tops_34 : decode cX12_tops 34 = .ok (.if_icmp .ne 4, 3) := by decide +kernel
theorem dX12_tops_37 : decode cX12_tops 37 = .ok (.return_, 1) := by decide +kernel
theorem dX12_tops_38 : decode cX12_tops 38 = .ok (.aload_n 0, 1) := by decide +kernel
theorem dX12_tops_39 : decode cX12_tops 39 = .ok (.aload_n 0, 1) := by decide +kernel
theorem dX12_tops_40 : decode cX12_tops 40 = .ok (.getfield 274, 3) := by decide +kernel
theorem dX12_tops_43 : decode cX12_tops 43 = .ok (.bipush 8, 2) := by decide +kernel
theorem dX12_tops_45 : decode cX12_tops 45 = .ok (.if_icmp .ge 12, 3) := by decide +kernel
theorem dX12_tops_48 : decode cX12_tops 48 = .ok (.aload_n 0, 1) := by decide +kernel
theorem dX12_tops_49 : decode cX12_tops 49 = .ok (.getfield 274, 3) := by decide +kernel
theorem dX12_tops_52 : decode cX12_tops 52 = .ok (.iconst 1, 1) := by decide +kernel
theorem dX12_tops_53 : decode cX12_tops 53 = .ok (.iadd, 1) := by decide +kernel
theorem dX12_tops_54 : decode cX12_tops 54 = .ok (.goto 5, 3) := by decide +kernel
theorem dX12_tops_57 : decode cX12_tops 57 = .ok (.bipush 8, 2) := by decide +kernel
theorem dX12_tops_59 : decode cX12_tops 59 = .ok (.putfield 274, 3) := by decide +kernel
theorem dX12_tops_62 : decode cX12_tops 62 = .ok (.aload_n 0, 1) := by decide +kernel
theorem dX12_tops_63 : decode cX12_tops 63 = .ok (.getfield 274, 3) := by decide +kernel
theorem dX12_tops_66 : decode cX12_tops 66 = .ok (.iconst 1, 1) := by decide +kernel
theorem dX12_tops_67 : decode cX12_tops 67 = .ok (.isub, 1) := by decide +kernel
theorem dX12_tops_68 : decode cX12_tops 68 = .ok (.istore 5, 2) := by decide +kernel
theorem dX12_tops_70 : decode cX12_tops 70 = .ok (.iload 5, 2) := by decide +kernel
theorem dX12_tops_72 : decode cX12_tops 72 = .ok (.iload 4, 2) := by decide +kernel
theorem dX12_tops_74 : decode cX12_tops 74 = .ok (.if_icmp .le 57, 3) := by decide +kernel
theorem dX12_tops_77 : decode cX12_tops 77 = .ok (.aload_n 0, 1) := by decide +kernel
theorem dX12_tops_78 : decode cX12_tops 78 = .ok (.getfield 68, 3) := by decide +kernel
theorem dX12_tops_81 : decode cX12_tops 81 = .ok (.iload 5, 2) := by decide +kernel
theorem dX12_tops_83 : decode cX12_tops 83 = .ok (.aload_n 0, 1) := by decide +kernel
theorem dX12_tops_84 : decode cX12_tops 84 = .ok (.getfield 68, 3) := by decide +kernel
theorem dX12_tops_87 : decode cX12_tops 87 = .ok (.iload 5, 2) := by decide +kernel
theorem dX12_tops_89 : decode cX12_tops 89 = .ok (.iconst 1, 1) := by decide +kernel
theorem dX12_tops_90 : decode cX12_tops 90 = .ok (.isub, 1) := by decide +kernel
theorem dX12_tops_91 : decode cX12_tops 91 = .ok (.iaload, 1) := by decide +kernel
theorem dX12_tops_92 : decode cX12_tops 92 = .ok (.iastore, 1) := by decide +kernel
theorem dX12_tops_93 : decode cX12_tops 93 = .ok (.aload_n 0, 1) := by decide +kernel
theorem dX12_tops_94 : decode cX12_tops 94 = .ok (.getfield 71, 3) := by decide +kernel
theorem dX12_tops_97 : decode cX12_tops 97 = .ok (.iload 5, 2) := by decide +kernel
theorem dX12_tops_99 : decode cX12_tops 99 = .ok (.aload_n 0, 1) := by decide +kernel
theorem dX12_tops_100 : decode cX12_tops 100 = .ok (.getfield 71, 3) := by decide +kernel
theorem dX12_tops_103 : decode cX12_tops 103 = .ok (.iload 5, 2) := by decide +kernel
theorem dX12_tops_105 : decode cX12_tops 105 = .ok (.iconst 1, 1) := by decide +kernel
theorem dX12_tops_106 : decode cX12_tops 106 = .ok (.isub, 1) := by decide +kernel
theorem dX12_tops_107 : decode cX12_tops 107 = .ok (.iaload, 1) := by decide +kernel
theorem dX12_tops_108 : decode cX12_tops 108 = .ok (.iastore, 1) := by decide +kernel
theorem dX12_tops_109 : decode cX12_tops 109 = .ok (.aload_n 0, 1) := by decide +kernel
theorem dX12_tops_110 : decode cX12_tops 110 = .ok (.getfield 74, 3) := by decide +kernel
theorem dX12_tops_113 : decode cX12_tops 113 = .ok (.iload 5, 2) := by decide +kernel
theorem dX12_tops_115 : decode cX12_tops 115 = .ok (.aload_n 0, 1) := by decide +kernel
theorem dX12_tops_116 : decode cX12_tops 116 = .ok (.getfield 74, 3) := by decide +kernel
theorem dX12_tops_119 : decode cX12_tops 119 = .ok (.iload 5, 2) := by decide +kernel
theorem dX12_tops_121 : decode cX12_tops 121 = .ok (.iconst 1, 1) := by decide +kernel
theorem dX12_tops_122 : decode cX12_tops 122 = .ok (.isub, 1) := by decide +kernel
theorem dX12_tops_123 : decode cX12_tops 123 = .ok (.iaload, 1) := by decide +kernel
theorem dX12_tops_124 : decode cX12_tops 124 = .ok (.iastore, 1) := by decide +kernel
theorem dX12_tops_125 : decode cX12_tops 125 = .ok (.iinc 5 (-1), 3) := by decide +kernel
theorem dX12_tops_128 : decode cX12_tops 128 = .ok (.goto (-58), 3) := by decide +kernel
theorem dX12_tops_131 : decode cX12_tops 131 = .ok (.aload_n 0, 1) := by decide +kernel
theorem dX12_tops_132 : decode cX12_tops 132 = .ok (.getfield 68, 3) := by decide +kernel
theorem dX12_tops_135 : decode cX12_tops 135 = .ok (.iload 4, 2) := by decide +kernel
theorem dX12_tops_137 : decode cX12_tops 137 = .ok (.iload_n 1, 1) := by decide +kernel
theorem dX12_tops_138 : decode cX12_tops 138 = .ok (.iastore, 1) := by decide +kernel
theorem dX12_tops_139 : decode cX12_tops 139 = .ok (.aload_n 0, 1) := by decide +kernel
theorem dX12_tops_140 : decode cX12_tops 140 = .ok (.getfield 71, 3) := by decide +kernel
theorem dX12_tops_143 : decode cX12_tops 143 = .ok (.iload 4, 2) := by decide +kernel
theorem dX12_tops_145 : decode cX12_tops 145 = .ok (.iload_n 2, 1) := by decide +kernel
theorem dX12_tops_146 : decode cX12_tops 146 = .ok (.iastore, 1) := by decide +kernel
theorem dX12_tops_147 : decode cX12_tops 147 = .ok (.aload_n 0, 1) := by decide +kernel
theorem dX12_tops_148 : decode cX12_tops 148 = .ok (.getfield 74, 3) := by decide +kernel
theorem dX12_tops_151 : decode cX12_tops 151 = .ok (.iload 4, 2) := by decide +kernel
theorem dX12_tops_153 : decode cX12_tops 153 = .ok (.iload_n 3, 1) := by decide +kernel
theorem dX12_tops_154 : decode cX12_tops 154 = .ok (.iastore, 1) := by decide +kernel
theorem dX12_tops_155 : decode cX12_tops 155 = .ok (.return_, 1) := by decide +kernel
theorem dX12_laysTops_0 : decode cX12_laysTops 0 = .ok (.aload_n 0, 1) := by decide +kernel
theorem dX12_laysTops_1 : decode cX12_laysTops 1 = .ok (.invokevirtual 239, 3) := by decide +kernel
theorem dX12_laysTops_4 : decode cX12_laysTops 4 = .ok (.aload_n 0, 1) := by decide +kernel
theorem dX12_laysTops_5 : decode cX12_laysTops 5 = .ok (.invokevirtual 242, 3) := by decide +kernel
theorem dX12_laysTops_8 : decode cX12_laysTops 8 = .ok (.aload_n 0, 1) := by decide +kernel
theorem dX12_laysTops_9 : decode cX12_laysTops 9 = .ok (.iconst 0, 1) := by decide +kernel
theorem dX12_laysTops_10 : decode cX12_laysTops 10 = .ok (.putfield 274, 3) := by decide +kernel
theorem dX12_laysTops_13 : decode cX12_laysTops 13 = .ok (.aload_n 0, 1) := by decide +kernel
theorem dX12_laysTops_14 : decode cX12_laysTops 14 = .ok (.getfield 189, 3) := by decide +kernel
theorem dX12_laysTops_17 : decode cX12_laysTops 17 = .ok (.iconst 1, 1) := by decide +kernel
theorem dX12_laysTops_18 : decode cX12_laysTops 18 = .ok (.isub, 1) := by decide +kernel
theorem dX12_laysTops_19 : decode cX12_laysTops 19 = .ok (.istore_n 1, 1) := by decide +kernel
theorem dX12_laysTops_20 : decode cX12_laysTops 20 = .ok (.iload_n 1, 1) := by decide +kernel
theorem dX12_laysTops_21 : decode cX12_laysTops 21 = .ok (.ifCond .lt 33, 3) := by decide +kernel
theorem dX12_laysTops_24 : decode cX12_laysTops 24 = .ok (.iconst 0, 1) := by decide +kernel
theorem dX12_laysTops_25 : decode cX12_laysTops 25 = .ok (.istore_n 2, 1) := by decide +kernel
theorem dX12_laysTops_26 : decode cX12_laysTops 26 = .ok (.iload_n 2, 1) := by decide +kernel
theorem dX12_laysTops_27 : decode cX12_laysTops 27 = .ok (.aload_n 0, 1) := by decide +kernel
theorem dX12_laysTops_28 : decode cX12_laysTops 28 = .ok (.getfield 40, 3) := by decide +kernel
theorem dX12_laysTops_31 : decode cX12_laysTops 31 = .ok (.iload_n 1, 1) := by decide +kernel
theorem dX12_laysTops_32 : decode cX12_laysTops 32 = .ok (.iaload, 1) := by decide +kernel
theorem dX12_laysTops_33 : decode cX12_laysTops 33 = .ok (.if_icmp .ge 15, 3) := by decide +kernel
theorem dX12_laysTops_36 : decode cX12_laysTops 36 = .ok (.aload_n 0, 1) := by decide +kernel
theorem dX12_laysTops_37 : decode cX12_laysTops 37 = .ok (.iload_n 1, 1) := by decide +kernel
theorem dX12_laysTops_38 : decode cX12_laysTops 38 = .ok (.iload_n 2, 1) := by decide +kernel
theorem dX12_laysTops_39 : decode cX12_laysTops 39 = .ok (.invokevirtual 277, 3) := by decide +kernel
theorem dX12_laysTops_42 : decode cX12_laysTops 42 = .ok (.iinc 2 1, 3) := by decide +kernel
theorem dX12_laysTops_45 : decode cX12_laysTops 45 = .ok (.goto (-19), 3) := by decide +kernel
theorem dX12_laysTops_48 : decode cX12_laysTops 48 = .ok (.iinc 1 (-1), 3) := by decide +kernel
theorem dX12_laysTops_51 : decode cX12_laysTops 51 = .ok (.goto (-31), 3) := by decide +kernel
theorem dX12_laysTops_54 : decode cX12_laysTops 54 = .ok (.aload_n 0, 1) := by decide +kernel
theorem dX12_laysTops_55 : decode cX12_laysTops 55 = .ok (.getfield 189, 3) := by decide +kernel
theorem dX12_laysTops_58 : decode cX12_laysTops 58 = .ok (.ifCond .ne 11, 3) := by decide +kernel
theorem dX12_laysTops_61 : decode cX12_laysTops 61 = .ok (.aload_n 0, 1) := by decide +kernel
theorem dX12_laysTops_62 : decode cX12_laysTops 62 = .ok (.iconst 0, 1) := by decide +kernel
theorem dX12_laysTops_63 : decode cX12_laysTops 63 = .ok (.iconst (-1), 1) := by decide +kernel
theorem dX12_laysTops_64 : decode cX12_laysTops 64 = .ok (.iconst (-1), 1) := by decide +kernel
theorem dX12_laysTops_65 : decode cX12_laysTops 65 = .ok (.invokevirtual 280, 3) := by decide +kernel
theorem dX12_laysTops_68 : decode cX12_laysTops 68 = .ok (.return_, 1) := by decide +kernel
theorem dX12_laysTops_69 : decode cX12_laysTops 69 = .ok (.iconst 0, 1) := by decide +kernel
theorem dX12_laysTops_70 : decode cX12_laysTops 70 = .ok (.istore_n 1, 1) := by decide +kernel
theorem dX12_laysTops_71 : decode cX12_laysTops 71 = .ok (.iload_n 1, 1) := by decide +kernel
theorem dX12_laysTops_72 : decode cX12_laysTops 72 = .ok (.aload_n 0, 1) := by decide +kernel
theorem dX12_laysTops_73 : decode cX12_laysTops 73 = .ok (.getfield 40, 3) := by decide +kernel
theorem dX12_laysTops_76 : decode cX12_laysTops 76 = .ok (.iconst 0, 1) := by decide +kernel
theorem dX12_laysTops_77 : decode cX12_laysTops 77 = .ok (.iaload, 1) := by decide +kernel
theorem dX12_laysTops_78 : decode cX12_laysTops 78 = .ok (.if_icmp .ge 44, 3) := by decide +kernel
theorem dX12_laysTops_81 : decode cX12_laysTops 81 = .ok (.iconst 0, 1) := by decide +kernel
theorem dX12_laysTops_82 : decode cX12_laysTops 82 = .ok (.istore_n 2, 1) := by decide +kernel
theorem dX12_laysTops_83 : decode cX12_laysTops 83 = .ok (.iload_n 2, 1) := by decide +kernel
theorem dX12_laysTops_84 : decode cX12_laysTops 84 = .ok (.aload_n 0, 1) := by decide +kernel
theorem dX12_laysTops_85 : decode cX12_laysTops 85 = .ok (.getfield 65, 3) := by decide +kernel
theorem dX12_laysTops_88 : decode cX12_laysTops 88 = .ok (.iload_n 1, 1) := by decide +kernel
theorem dX12_laysTops_89 : decode cX12_laysTops 89 = .ok (.iaload, 1) := by decide +kernel
theorem dX12_laysTops_90 : decode cX12_laysTops 90 = .ok (.if_icmp .ge 26, 3) := by decide +kernel
theorem dX12_laysTops_93 : decode cX12_laysTops 93 = .ok (.aload_n 0, 1) := by decide +kernel
theorem dX12_laysTops_94 : decode cX12_laysTops 94 = .ok (.aload_n 0, 1) := by decide +kernel
theorem dX12_laysTops_95 : decode cX12_laysTops 95 = .ok (.getfield 56, 3) := by decide +kernel
theorem dX12_laysTops_98 : decode cX12_laysTops 98 = .ok (.iconst 0, 1) := by decide +kernel
theorem dX12_laysTops_99 : decode cX12_laysTops 99 = .ok (.iload_n 1, 1) := by decide +kernel
theorem dX12_laysTops_100 : decode cX12_laysTops 100 = .ok (.iload_n 2, 1) := by decide +kernel
theorem dX12_laysTops_101 : decode cX12_laysTops 101 = .ok (.invokestatic 267, 3) := by decide +kernel
theorem dX12_laysTops_104 : decode cX12_laysTops 104 = .ok (.iaload, 1) := by decide +kernel
theorem dX12_laysTops_105 : decode cX12_laysTops 105 = .ok (.iload_n 1, 1) := by decide +kernel
theorem dX12_laysTops_106 : decode cX12_laysTops 106 = .ok (.iload_n 2, 1) := by decide +kernel
theorem dX12_laysTops_107 : decode cX12_laysTops 107 = .ok (.invokevirtual 280, 3) := by decide +kernel
theorem dX12_laysTops_110 : decode cX12_laysTops 110 = .ok (.iinc 2 1, 3) := by decide +kernel
theorem dX12_laysTops_113 : decode cX12_laysTops 113 = .ok (.goto (-30), 3) := by decide +kernel
theorem dX12_laysTops_116 : decode cX12_laysTops 116 = .ok (.iinc 1 1, 3) := by decide +kernel
theorem dX12_laysTops_119 : decode cX12_laysTops 119 = .ok (.goto (-48), 3) := by decide +kernel
theorem dX12_laysTops_122 : decode cX12_laysTops 122 = .ok (.return_, 1) := by decide +kernel
theorem dX12_best_0 : decode cX12_best 0 = .ok (.aload_n 0, 1) := by decide +kernel
theorem dX12_best_1 : decode cX12_best 1 = .ok (.iconst 0, 1) := by decide +kernel
theorem dX12_best_2 : decode cX12_best 2 = .ok (.putfield 119, 3) := by decide +kernel
theorem dX12_best_5 : decode cX12_best 5 = .ok (.aload_n 0, 1) := by decide +kernel
theorem dX12_best_6 : decode cX12_best 6 = .ok (.iload_n 1, 1) := by decide +kernel
theorem dX12_best_7 : decode cX12_best 7 = .ok (.iconst 0, 1) := by decide +kernel
theorem dX12_best_8 : decode cX12_best 8 = .ok (.bipush 7, 2) := by decide +kernel
theorem dX12_best_10 : decode cX12_best 10 = .ok (.invokestatic 133, 3) := by decide +kernel
theorem dX12_best_13 : decode cX12_best 13 = .ok (.iconst 1, 1) := by decide +kernel
theorem dX12_best_14 : decode cX12_best 14 = .ok (.invokevirtual 148, 3) := by decide +kernel
theorem dX12_best_17 : decode cX12_best 17 = .ok (.ifCond .ne 5, 3) := by decide +kernel
theorem dX12_best_20 : decode cX12_best 20 = .ok (.iconst 0, 1) := by decide +kernel
theorem dX12_best_21 : decode cX12_best 21 = .ok (.ireturn, 1) := by decide +kernel
theorem dX12_best_22 : decode cX12_best 22 = .ok (.aload_n 0, 1) := by decide +kernel
theorem dX12_best_23 : decode cX12_best 23 = .ok (.invokevirtual 284, 3) := by decide +kernel
theorem dX12_best_26 : decode cX12_best 26 = .ok (.iload_n 1, 1) := by decide +kernel
theorem dX12_best_27 : decode cX12_best 27 = .ok (.aload_n 0, 1) := by decide +kernel
theorem dX12_best_28 : decode cX12_best 28 = .ok (.getfield 274, 3) := by decide +kernel
theorem dX12_best_31 : decode cX12_best 31 = .ok (.if_icmp .ge 12, 3) := by decide +kernel
theorem dX12_best_34 : decode cX12_best 34 = .ok (.aload_n 0, 1) := by decide +kernel
theorem dX12_best_35 : decode cX12_best 35 = .ok (.getfield 68, 3) := by decide +kernel
theorem dX12_best_38 : decode cX12_best 38 = .ok (.iload_n 1, 1) := by decide +kernel
theorem dX12_best_39 : decode cX12_best 39 = .ok (.iaload, 1) := by decide +kernel
theorem dX12_best_40 : decode cX12_best 40 = .ok (.goto 4, 3) := by decide +kernel
theorem dX12_best_43 : decode cX12_best 43 = .ok (.iconst (-1), 1) := by decide +kernel
theorem dX12_best_44 : decode cX12_best 44 = .ok (.ireturn, 1) := by decide +kernel
theorem dX12_bestAt_0 : decode cX12_bestAt 0 = .ok (.aload_n 0, 1) := by decide +kernel
theorem dX12_bestAt_1 : decode cX12_bestAt 1 = .ok (.iconst 0, 1) := by decide +kernel
theorem dX12_bestAt_2 : decode cX12_bestAt 2 = .ok (.putfield 119, 3) := by decide +kernel
theorem dX12_bestAt_5 : decode cX12_bestAt 5 = .ok (.aload_n 0, 1) := by decide +kernel
theorem dX12_bestAt_6 : decode cX12_bestAt 6 = .ok (.iload_n 1, 1) := by decide +kernel
theorem dX12_bestAt_7 : decode cX12_bestAt 7 = .ok (.iconst 0, 1) := by decide +kernel
theorem dX12_bestAt_8 : decode cX12_bestAt 8 = .ok (.bipush 7, 2) := by decide +kernel
theorem dX12_bestAt_10 : decode cX12_bestAt 10 = .ok (.invokestatic 133, 3) := by decide +kernel
theorem dX12_bestAt_13 : decode cX12_bestAt 13 = .ok (.iconst 1, 1) := by decide +kernel
theorem dX12_bestAt_14 : decode cX12_bestAt 14 = .ok (.invokevirtual 148, 3) := by decide +kernel
theorem dX12_bestAt_17 : decode cX12_bestAt 17 = .ok (.ifCond .eq 22, 3) := by decide +kernel
theorem dX12_bestAt_20 : decode cX12_bestAt 20 = .ok (.aload_n 0, 1) := by decide +kernel
theorem dX12_bestAt_21 : decode cX12_bestAt 21 = .ok (.iload_n 2, 1) := by decide +kernel
theorem dX12_bestAt_22 : decode cX12_bestAt 22 = .ok (.iconst 0, 1) := by decide +kernel
theorem dX12_bestAt_23 : decode cX12_bestAt 23 = .ok (.aload_n 0, 1) := by decide +kernel
theorem dX12_bestAt_24 : decode cX12_bestAt 24 = .ok (.invokevirtual 156, 3) := by decide +kernel
theorem dX12_bestAt_27 : decode cX12_bestAt 27 = .ok (.iconst 1, 1) := by decide +kernel
theorem dX12_bestAt_28 : decode cX12_bestAt 28 = .ok (.isub, 1) := by decide +kernel
theorem dX12_bestAt_29 : decode cX12_bestAt 29 = .ok (.invokestatic 133, 3) := by decide +kernel
theorem dX12_bestAt_32 : decode cX12_bestAt 32 = .ok (.iconst 2, 1) := by decide +kernel
theorem dX12_bestAt_33 : decode cX12_bestAt 33 = .ok (.invokevirtual 148, 3) := by decide +kernel
theorem dX12_bestAt_36 : decode cX12_bestAt 36 = .ok (.ifCond .ne 5, 3) := by decide +kernel
theorem dX12_bestAt_39 : decode cX12_bestAt 39 = .ok (.iconst 0, 1) := by decide +kernel
theorem dX12_bestAt_40 : decode cX12_bestAt 40 = .ok (.ireturn, 1) := by decide +kernel
theorem dX12_bestAt_41 : decode cX12_bestAt 41 = .ok (.aload_n 0, 1) := by decide +kernel
theorem dX12_bestAt_42 : decode cX12_bestAt 42 = .ok (.invokevirtual 284, 3) := by decide +kernel
theorem dX12_bestAt_45 : decode cX12_bestAt 45 = .ok (.iload_n 1, 1) := by decide +kernel
theorem dX12_bestAt_46 : decode cX12_bestAt 46 = .ok (.aload_n 0, 1) := by decide +kernel
theorem dX12_bestAt_47 : decode cX12_bestAt 47 = .ok (.getfield 274, 3) := by decide +kernel
theorem dX12_bestAt_50 : decode cX12_bestAt 50 = .ok (.if_icmp .lt 5, 3) := by decide +kernel
theorem dX12_bestAt_53 : decode cX12_bestAt 53 = .ok (.iconst (-1), 1) := by decide +kernel
theorem dX12_bestAt_54 : decode cX12_bestAt 54 = .ok (.ireturn, 1) := by decide +kernel
theorem dX12_bestAt_55 : decode cX12_bestAt 55 = .ok (.aload_n 0, 1) := by decide +kernel
theorem dX12_bestAt_56 : decode cX12_bestAt 56 = .ok (.getfield 71, 3) := by decide +kernel
theorem dX12_bestAt_59 : decode cX12_bestAt 59 = .ok (.iload_n 1, 1) := by decide +kernel
theorem dX12_bestAt_60 : decode cX12_bestAt 60 = .ok (.iaload, 1) := by decide +kernel
theorem dX12_bestAt_61 : decode cX12_bestAt 61 = .ok (.istore_n 3, 1) := by decide +kernel
theorem dX12_bestAt_62 : decode cX12_bestAt 62 = .ok (.aload_n 0, 1) := by decide +kernel
theorem dX12_bestAt_63 : decode cX12_bestAt 63 = .ok (.getfield 74, 3) := by decide +kernel
theorem dX12_bestAt_66 : decode cX12_bestAt 66 = .ok (.iload_n 1, 1) := by decide +kernel
theorem dX12_bestAt_67 : decode cX12_bestAt 67 = .ok (.iaload, 1) := by decide +kernel
theorem dX12_bestAt_68 : decode cX12_bestAt 68 = .ok (.istore 4, 2) := by decide +kernel
theorem dX12_bestAt_70 : decode cX12_bestAt 70 = .ok (.iconst 0, 1) := by decide +kernel
theorem dX12_bestAt_71 : decode cX12_bestAt 71 = .ok (.istore 5, 2) := by decide +kernel
theorem dX12_bestAt_73 : decode cX12_bestAt 73 = .ok (.iload 5, 2) := by decide +kernel
theorem dX12_bestAt_75 : decode cX12_bestAt 75 = .ok (.iload_n 2, 1) := by decide +kernel
theorem dX12_bestAt_76 : decode cX12_bestAt 76 = .ok (.if_icmp .ge 36, 3) := by decide +kernel
theorem dX12_bestAt_79 : decode cX12_bestAt 79 = .ok (.iload 5, 2) := by decide +kernel
theorem dX12_bestAt_81 : decode cX12_bestAt 81 = .ok (.iload_n 3, 1) := by decide +kernel
theorem dX12_bestAt_82 : decode cX12_bestAt 82 = .ok (.iload 4, 2) := by decide +kernel
theorem dX12_bestAt_84 : decode cX12_bestAt 84 = .ok (.invokestatic 267, 3) := by decide +kernel
theorem dX12_bestAt_87 : decode cX12_bestAt 87 = .ok (.istore 6, 2) := by decide +kernel
theorem dX12_bestAt_89 : decode cX12_bestAt 89 = .ok (.aload_n 0, 1) := by decide +kernel
theorem dX12_bestAt_90 : decode cX12_bestAt 90 = .ok (.getfield 59, 3) := by decide +kernel
theorem dX12_bestAt_93 : decode cX12_bestAt 93 = .ok (.iload 6, 2) := by decide +kernel
theorem dX12_bestAt_95 : decode cX12_bestAt 95 = .ok (.iaload, 1) := by decide +kernel
theorem dX12_bestAt_96 : decode cX12_bestAt 96 = .ok (.istore_n 3, 1) := by decide +kernel
theorem dX12_bestAt_97 : decode cX12_bestAt 97 = .ok (.aload_n 0, 1) := by decide +kernel
theorem dX12_bestAt_98 : decode cX12_bestAt 98 = .ok (.getfield 62, 3) := by decide +kernel
theorem dX12_bestAt_101 : decode cX12_bestAt 101 = .ok (.iload 6, 2) := by decide +kernel
theorem dX12_bestAt_103 : decode cX12_bestAt 103 = .ok (.iaload, 1) := by decide +kernel
theorem dX12_bestAt_104 : decode cX12_bestAt 104 = .ok (.istore 4, 2) := by decide +kernel
theorem dX12_bestAt_106 : decode cX12_bestAt 106 = .ok (.iinc 5 1, 3) := by decide +kernel
theorem dX12_bestAt_109 : decode cX12_bestAt 109 = .ok (.goto (-36), 3) := by decide +kernel
theorem dX12_bestAt_112 : decode cX12_bestAt 112 = .ok (.iload_n 3, 1) := by decide +kernel
theorem dX12_bestAt_113 : decode cX12_bestAt 113 = .ok (.ireturn, 1) := by decide +kernel
theorem dX12_laysSpans_0 : decode cX12_laysSpans 0 = .ok (.aload_n 0, 1) := by decide +kernel
theorem dX12_laysSpans_1 : decode cX12_laysSpans 1 = .ok (.invokevirtual 254, 3) := by decide +kernel
theorem dX12_laysSpans_4 : decode cX12_laysSpans 4 = .ok (.aload_n 0, 1) := by decide +kernel
theorem dX12_laysSpans_5 : decode cX12_laysSpans 5 = .ok (.iconst 0, 1) := by decide +kernel
theorem dX12_laysSpans_6 : decode cX12_laysSpans 6 = .ok (.putfield 287, 3) := by decide +kernel
theorem dX12_laysSpans_9 : decode cX12_laysSpans 9 = .ok (.iconst 0, 1) := by decide +kernel
theorem dX12_laysSpans_10 : decode cX12_laysSpans 10 = .ok (.istore_n 1, 1) := by decide +kernel
theorem dX12_laysSpans_11 : decode cX12_laysSpans 11 = .ok (.iload_n 1, 1) := by decide +kernel
theorem dX12_laysSpans_12 : decode cX12_laysSpans 12 = .ok (.aload_n 0, 1) := by decide +kernel
theorem dX12_laysSpans_13 : decode cX12_laysSpans 13 = .ok (.getfield 189, 3) := by decide +kernel
theorem dX12_laysSpans_16 : decode cX12_laysSpans 16 = .ok (.if_icmp .ge 64, 3) := by decide +kernel
theorem dX12_laysSpans_19 : decode cX12_laysSpans 19 = .ok (.iload_n 1, 1) := by decide +kernel
theorem dX12_laysSpans_20 : decode cX12_laysSpans 20 = .ok (.ifCond .eq 34, 3) := by decide +kernel
theorem dX12_laysSpans_23 : decode cX12_laysSpans 23 = .ok (.aload_n 0, 1) := by decide +kernel
theorem dX12_laysSpans_24 : decode cX12_laysSpans 24 = .ok (.iload_n 1, 1) := by decide +kernel
theorem dX12_laysSpans_25 : decode cX12_laysSpans 25 = .ok (.invokevirtual 251, 3) := by decide +kernel
theorem dX12_laysSpans_28 : decode cX12_laysSpans 28 = .ok (.ifCond .le 7, 3) := by decide +kernel
theorem dX12_laysSpans_31 : decode cX12_laysSpans 31 = .ok (.iconst 1, 1) := by decide +kernel
theorem dX12_laysSpans_32 : decode cX12_laysSpans 32 = .ok (.goto 4, 3) := by decide +kernel
theorem dX12_laysSpans_35 : decode cX12_laysSpans 35 = .ok (.iconst 0, 1) := by decide +kernel
theorem dX12_laysSpans_36 : decode cX12_laysSpans 36 = .ok (.aload_n 0, 1) := by decide +kernel
theorem dX12_laysSpans_37 : decode cX12_laysSpans 37 = .ok (.iload_n 1, 1) := by decide +kernel
theorem dX12_laysSpans_38 : decode cX12_laysSpans 38 = .ok (.iconst 1, 1) := by decide +kernel
theorem dX12_laysSpans_39 : decode cX12_laysSpans 39 = .ok (.isub, 1) := by decide +kernel
theorem dX12_laysSpans_40 : decode cX12_laysSpans 40 = .ok (.invokevirtual 251, 3) := by decide +kernel
theorem dX12_laysSpans_43 : decode cX12_laysSpans 43 = .ok (.ifCond .le 7, 3) := by decide +kernel
theorem dX12_laysSpans_46 : decode cX12_laysSpans 46 = .ok (.iconst 1, 1) := by decide +kernel
theorem dX12_laysSpans_47 : decode cX12_laysSpans 47 = .ok (.goto 4, 3) := by decide +kernel
theorem dX12_laysSpans_50 : decode cX12_laysSpans 50 = .ok (.iconst 0, 1) := by decide +kernel
theorem dX12_laysSpans_51 : decode cX12_laysSpans 51 = .ok (.if_icmp .eq 23, 3) := by decide +kernel
theorem dX12_laysSpans_54 : decode cX12_laysSpans 54 = .ok (.aload_n 0, 1) := by decide +kernel
theorem dX12_laysSpans_55 : decode cX12_laysSpans 55 = .ok (.getfield 77, 3) := by decide +kernel
theorem dX12_laysSpans_58 : decode cX12_laysSpans 58 = .ok (.aload_n 0, 1) := by decide +kernel
theorem dX12_laysSpans_59 : decode cX12_laysSpans 59 = .ok (.getfield 287, 3) := by decide +kernel
theorem dX12_laysSpans_62 : decode cX12_laysSpans 62 = .ok (.iload_n 1, 1) := by decide +kernel
theorem dX12_laysSpans_63 : decode cX12_laysSpans 63 = .ok (.iastore, 1) := by decide +kernel
theorem dX12_laysSpans_64 : decode cX12_laysSpans 64 = .ok (.aload_n 0, 1) := by decide +kernel
theorem dX12_laysSpans_65 : decode cX12_laysSpans 65 = .ok (.dup, 1) := by decide +kernel
theorem dX12_laysSpans_66 : decode cX12_laysSpans 66 = .ok (.getfield 287, 3) := by decide +kernel
theorem dX12_laysSpans_69 : decode cX12_laysSpans 69 = .ok (.iconst 1, 1) := by decide +kernel
theorem dX12_laysSpans_70 : decode cX12_laysSpans 70 = .ok (.iadd, 1) := by decide +kernel
theorem dX12_laysSpans_71 : decode cX12_laysSpans 71 = .ok (.putfield 287, 3) := by decide +kernel
theorem dX12_laysSpans_74 : decode cX12_laysSpans 74 = .ok (.iinc 1 1, 3) := by decide +kernel
theorem dX12_laysSpans_77 : decode cX12_laysSpans 77 = .ok (.goto (-66), 3) := by decide +kernel
theorem dX12_laysSpans_80 : decode cX12_laysSpans 80 = .ok (.aload_n 0, 1) := by decide +kernel
theorem dX12_laysSpans_81 : decode cX12_laysSpans 81 = .ok (.getfield 77, 3) := by decide +kernel
theorem dX12_laysSpans_84 : decode cX12_laysSpans 84 = .ok (.aload_n 0, 1) := by decide +kernel
theorem dX12_laysSpans_85 : decode cX12_laysSpans 85 = .ok (.getfield 287, 3) := by decide +kernel
theorem dX12_laysSpans_88 : decode cX12_laysSpans 88 = .ok (.aload_n 0, 1) := by decide +kernel
theorem dX12_laysSpans_89 : decode cX12_laysSpans 89 = .ok (.getfield 189, 3) := by decide +kernel
theorem dX12_laysSpans_92 : decode cX12_laysSpans 92 = .ok (.iastore, 1) := by decide +kernel
theorem dX12_laysSpans_93 : decode cX12_laysSpans 93 = .ok (.return_, 1) := by decide +kernel
theorem dX12_isVoiced_0 : decode cX12_isVoiced 0 = .ok (.aload_n 0, 1) := by decide +kernel
theorem dX12_isVoiced_1 : decode cX12_isVoiced 1 = .ok (.aload_n 0, 1) := by decide +kernel
theorem dX12_isVoiced_2 : decode cX12_isVoiced 2 = .ok (.getfield 77, 3) := by decide +kernel
theorem dX12_isVoiced_5 : decode cX12_isVoiced 5 = .ok (.iload_n 1, 1) := by decide +kernel
theorem dX12_isVoiced_6 : decode cX12_isVoiced 6 = .ok (.iaload, 1) := by decide +kernel
theorem dX12_isVoiced_7 : decode cX12_isVoiced 7 = .ok (.invokevirtual 251, 3) := by decide +kernel
theorem dX12_isVoiced_10 : decode cX12_isVoiced 10 = .ok (.ifCond .le 7, 3) := by decide +kernel
theorem dX12_isVoiced_13 : decode cX12_isVoiced 13 = .ok (.iconst 1, 1) := by decide +kernel
theorem dX12_isVoiced_14 : decode cX12_isVoiced 14 = .ok (.goto 4, 3) := by decide +kernel
theorem dX12_isVoiced_17 : decode cX12_isVoiced 17 = .ok (.iconst 0, 1) := by decide +kernel
theorem dX12_isVoiced_18 : decode cX12_isVoiced 18 = .ok (.ireturn, 1) := by decide +kernel
theorem dX12_firstSample_0 : decode cX12_firstSample 0 = .ok (.aload_n 0, 1) := by decide +kernel
theorem dX12_firstSample_1 : decode cX12_firstSample 1 = .ok (.getfield 77, 3) := by decide +kernel
theorem dX12_firstSample_4 : decode cX12_firstSample 4 = .ok (.iload_n 1, 1) := by decide +kernel
theorem dX12_firstSample_5 : decode cX12_firstSample 5 = .ok (.iaload, 1) := by decide +kernel
theorem dX12_firstSample_6 : decode cX12_firstSample 6 = .ok (.aload_n 0, 1) := by decide +kernel
theorem dX12_firstSample_7 : decode cX12_firstSample 7 = .ok (.getfield 7, 3) := by decide +kernel
theorem dX12_firstSample_10 : decode cX12_firstSample 10 = .ok (.iconst 2, 1) := by decide +kernel
theorem dX12_firstSample_11 : decode cX12_firstSample 11 = .ok (.iaload, 1) := by decide +kernel
theorem dX12_firstSample_12 : decode cX12_firstSample 12 = .ok (.imul, 1) := by decide +kernel
theorem dX12_firstSample_13 : decode cX12_firstSample 13 = .ok (.ireturn, 1) := by decide +kernel
theorem dX12_behindSpan_0 : decode cX12_behindSpan 0 = .ok (.aload_n 0, 1) := by decide +kernel
theorem dX12_behindSpan_1 : decode cX12_behindSpan 1 = .ok (.getfield 77, 3) := by decide +kernel
theorem dX12_behindSpan_4 : decode cX12_behindSpan 4 = .ok (.iload_n 1, 1) := by decide +kernel
theorem dX12_behindSpan_5 : decode cX12_behindSpan 5 = .ok (.iconst 1, 1) := by decide +kernel
theorem dX12_behindSpan_6 : decode cX12_behindSpan 6 = .ok (.iadd, 1) := by decide +kernel
theorem dX12_behindSpan_7 : decode cX12_behindSpan 7 = .ok (.iaload, 1) := by decide +kernel
theorem dX12_behindSpan_8 : decode cX12_behindSpan 8 = .ok (.aload_n 0, 1) := by decide +kernel
theorem dX12_behindSpan_9 : decode cX12_behindSpan 9 = .ok (.getfield 7, 3) := by decide +kernel
theorem dX12_behindSpan_12 : decode cX12_behindSpan 12 = .ok (.iconst 2, 1) := by decide +kernel
theorem dX12_behindSpan_13 : decode cX12_behindSpan 13 = .ok (.iaload, 1) := by decide +kernel
theorem dX12_behindSpan_14 : decode cX12_behindSpan 14 = .ok (.imul, 1) := by decide +kernel
theorem dX12_behindSpan_15 : decode cX12_behindSpan 15 = .ok (.istore_n 2, 1) := by decide +kernel
theorem dX12_behindSpan_16 : decode cX12_behindSpan 16 = .ok (.iload_n 2, 1) := by decide +kernel
theorem dX12_behindSpan_17 : decode cX12_behindSpan 17 = .ok (.aload_n 0, 1) := by decide +kernel
theorem dX12_behindSpan_18 : decode cX12_behindSpan 18 = .ok (.getfield 130, 3) := by decide +kernel
theorem dX12_behindSpan_21 : decode cX12_behindSpan 21 = .ok (.if_icmp .ge 7, 3) := by decide +kernel
theorem dX12_behindSpan_24 : decode cX12_behindSpan 24 = .ok (.iload_n 2, 1) := by decide +kernel
theorem dX12_behindSpan_25 : decode cX12_behindSpan 25 = .ok (.goto 7, 3) := by decide +kernel
theorem dX12_behindSpan_28 : decode cX12_behindSpan 28 = .ok (.aload_n 0, 1) := by decide +kernel
theorem dX12_behindSpan_29 : decode cX12_behindSpan 29 = .ok (.getfield 130, 3) := by decide +kernel
theorem dX12_behindSpan_32 : decode cX12_behindSpan 32 = .ok (.ireturn, 1) := by decide +kernel
theorem dX12_spans_0 : decode cX12_spans 0 = .ok (.aload_n 0, 1) := by decide +kernel
theorem dX12_spans_1 : decode cX12_spans 1 = .ok (.iconst 0, 1) := by decide +kernel
theorem dX12_spans_2 : decode cX12_spans 2 = .ok (.putfield 119, 3) := by decide +kernel
theorem dX12_spans_5 : decode cX12_spans 5 = .ok (.aload_n 0, 1) := by decide +kernel
theorem dX12_spans_6 : decode cX12_spans 6 = .ok (.invokevirtual 290, 3) := by decide +kernel
theorem dX12_spans_9 : decode cX12_spans 9 = .ok (.aload_n 0, 1) := by decide +kernel
theorem dX12_spans_10 : decode cX12_spans 10 = .ok (.getfield 287, 3) := by decide +kernel
theorem dX12_spans_13 : decode cX12_spans 13 = .ok (.ireturn, 1) := by decide +kernel
theorem dX12_span_0 : decode cX12_span 0 = .ok (.aload_n 0, 1) := by decide +kernel
theorem dX12_span_1 : decode cX12_span 1 = .ok (.iconst 0, 1) := by decide +kernel
theorem dX12_span_2 : decode cX12_span 2 = .ok (.putfield 119, 3) := by decide +kernel
theorem dX12_span_5 : decode cX12_span 5 = .ok (.aload_n 0, 1) := by decide +kernel
theorem dX12_span_6 : decode cX12_span 6 = .ok (.invokevirtual 293, 3) := by decide +kernel
theorem dX12_span_9 : decode cX12_span 9 = .ok (.aload_n 0, 1) := by decide +kernel
theorem dX12_span_10 : decode cX12_span 10 = .ok (.iload_n 1, 1) := by decide +kernel
theorem dX12_span_11 : decode cX12_span 11 = .ok (.iconst 0, 1) := by decide +kernel
theorem dX12_span_12 : decode cX12_span 12 = .ok (.aload_n 0, 1) := by decide +kernel
theorem dX12_span_13 : decode cX12_span 13 = .ok (.getfield 287, 3) := by decide +kernel
theorem dX12_span_16 : decode cX12_span 16 = .ok (.iconst 1, 1) := by decide +kernel
theorem dX12_span_17 : decode cX12_span 17 = .ok (.isub, 1) := by decide +kernel
theorem dX12_span_18 : decode cX12_span 18 = .ok (.invokestatic 133, 3) := by decide +kernel
theorem dX12_span_21 : decode cX12_span 21 = .ok (.ifCond .eq 17, 3) := by decide +kernel
theorem dX12_span_24 : decode cX12_span 24 = .ok (.iload_n 2, 1) := by decide +kernel
theorem dX12_span_25 : decode cX12_span 25 = .ok (.iconst 0, 1) := by decide +kernel
theorem dX12_span_26 : decode cX12_span 26 = .ok (.bipush 6, 2) := by decide +kernel
theorem dX12_span_28 : decode cX12_span 28 = .ok (.invokestatic 133, 3) := by decide +kernel
theorem dX12_span_31 : decode cX12_span 31 = .ok (.ifCond .eq 7, 3) := by decide +kernel
theorem dX12_span_34 : decode cX12_span 34 = .ok (.iconst 1, 1) := by decide +kernel
theorem dX12_span_35 : decode cX12_span 35 = .ok (.goto 4, 3) := by decide +kernel
theorem dX12_span_38 : decode cX12_span 38 = .ok (.iconst 0, 1) := by decide +kernel
theorem dX12_span_39 : decode cX12_span 39 = .ok (.iconst 1, 1) := by decide +kernel
theorem dX12_span_40 : decode cX12_span 40 = .ok (.invokevirtual 148, 3) := by decide +kernel
theorem dX12_span_43 : decode cX12_span 43 = .ok (.ifCond .ne 5, 3) := by decide +kernel
theorem dX12_span_46 : decode cX12_span 46 = .ok (.iconst 0, 1) := by decide +kernel
theorem dX12_span_47 : decode cX12_span 47 = .ok (.ireturn, 1) := by decide +kernel
theorem dX12_span_48 : decode cX12_span 48 = .ok (.iload_n 2, 1) := by decide +kernel
theorem dX12_span_49 : decode cX12_span 49 = .ok (.tableswitch 104 0 5 #[39, 46, 62, 76, 82, 88], 39) := by decide +kernel
theorem dX12_span_88 : decode cX12_span 88 = .ok (.aload_n 0, 1) := by decide +kernel
theorem dX12_span_89 : decode cX12_span 89 = .ok (.getfield 77, 3) := by decide +kernel
theorem dX12_span_92 : decode cX12_span 92 = .ok (.iload_n 1, 1) := by decide +kernel
theorem dX12_span_93 : decode cX12_span 93 = .ok (.iaload, 1) := by decide +kernel
theorem dX12_span_94 : decode cX12_span 94 = .ok (.ireturn, 1) := by decide +kernel
theorem dX12_span_95 : decode cX12_span 95 = .ok (.aload_n 0, 1) := by decide +kernel
theorem dX12_span_96 : decode cX12_span 96 = .ok (.getfield 77, 3) := by decide +kernel
theorem dX12_span_99 : decode cX12_span 99 = .ok (.iload_n 1, 1) := by decide +kernel
theorem dX12_span_100 : decode cX12_span 100 = .ok (.iconst 1, 1) := by decide +kernel
theorem dX12_span_101 : decode cX12_span 101 = .ok (.iadd, 1) := by decide +kernel
theorem dX12_span_102 : decode cX12_span 102 = .ok (.iaload, 1) := by decide +kernel
theorem dX12_span_103 : decode cX12_span 103 = .ok (.aload_n 0, 1) := by decide +kernel
theorem dX12_span_104 : decode cX12_span 104 = .ok (.getfield 77, 3) := by decide +kernel
theorem dX12_span_107 : decode cX12_span 107 = .ok (.iload_n 1, 1) := by decide +kernel
theorem dX12_span_108 : decode cX12_span 108 = .ok (.iaload, 1) := by decide +kernel
theorem dX12_span_109 : decode cX12_span 109 = .ok (.isub, 1) := by decide +kernel
theorem dX12_span_110 : decode cX12_span 110 = .ok (.ireturn, 1) := by decide +kernel
theorem dX12_span_111 : decode cX12_span 111 = .ok (.aload_n 0, 1) := by decide +kernel
theorem dX12_span_112 : decode cX12_span 112 = .ok (.iload_n 1, 1) := by decide +kernel
theorem dX12_span_113 : decode cX12_span 113 = .ok (.invokevirtual 296, 3) := by decide +kernel
theorem dX12_span_116 : decode cX12_span 116 = .ok (.ifCond .eq 7, 3) := by decide +kernel
theorem dX12_span_119 : decode cX12_span 119 = .ok (.iconst 1, 1) := by decide +kernel
theorem dX12_span_120 : decode cX12_span 120 = .ok (.goto 4, 3) := by decide +kernel
theorem dX12_span_123 : decode cX12_span 123 = .ok (.iconst 0, 1) := by decide +kernel
theorem dX12_span_124 : decode cX12_span 124 = .ok (.ireturn, 1) := by decide +kernel
theorem dX12_span_125 : decode cX12_span 125 = .ok (.aload_n 0, 1) := by decide +kernel
theorem dX12_span_126 : decode cX12_span 126 = .ok (.iload_n 1, 1) := by decide +kernel
theorem dX12_span_127 : decode cX12_span 127 = .ok (.invokevirtual 299, 3) := by decide +kernel
theorem dX12_span_130 : decode cX12_span 130 = .ok (.ireturn, 1) := by decide +kernel
theorem dX12_span_131 : decode cX12_span 131 = .ok (.aload_n 0, 1) := by decide +kernel
theorem dX12_span_132 : decode cX12_span 132 = .ok (.iload_n 1, 1) := by decide +kernel
theorem dX12_span_133 : decode cX12_span 133 = .ok (.invokevirtual 302, 3) := by decide +kernel
theorem dX12_span_136 : decode cX12_span 136 = .ok (.ireturn, 1) := by decide +kernel
theorem dX12_span_137 : decode cX12_span 137 = .ok (.aload_n 0, 1) := by decide +kernel
theorem dX12_span_138 : decode cX12_span 138 = .ok (.getfield 113, 3) := by decide +kernel
theorem dX12_span_141 : decode cX12_span 141 = .ok (.iload_n 1, 1) := by decide +kernel
theorem dX12_span_142 : decode cX12_span 142 = .ok (.iconst 1, 1) := by decide +kernel
theorem dX12_span_143 : decode cX12_span 143 = .ok (.iadd, 1) := by decide +kernel
theorem dX12_span_144 : decode cX12_span 144 = .ok (.iaload, 1) := by decide +kernel
theorem dX12_span_145 : decode cX12_span 145 = .ok (.aload_n 0, 1) := by decide +kernel
theorem dX12_span_146 : decode cX12_span 146 = .ok (.getfield 113, 3) := by decide +kernel
theorem dX12_span_149 : decode cX12_span 149 = .ok (.iload_n 1, 1) := by decide +kernel
theorem dX12_span_150 : decode cX12_span 150 = .ok (.iaload, 1) := by decide +kernel
theorem dX12_span_151 : decode cX12_span 151 = .ok (.isub, 1) := by decide +kernel
theorem dX12_span_152 : decode cX12_span 152 = .ok (.ireturn, 1) := by decide +kernel
theorem dX12_span_153 : decode cX12_span 153 = .ok (.aload_n 0, 1) := by decide +kernel
theorem dX12_span_154 : decode cX12_span 154 = .ok (.getfield 116, 3) := by decide +kernel
theorem dX12_span_157 : decode cX12_span 157 = .ok (.iload_n 1, 1) := by decide +kernel
theorem dX12_span_158 : decode cX12_span 158 = .ok (.iaload, 1) := by decide +kernel
theorem dX12_span_159 : decode cX12_span 159 = .ok (.ireturn, 1) := by decide +kernel
theorem dX12_middleOf_0 : decode cX12_middleOf 0 = .ok (.iconst 0, 1) := by decide +kernel
theorem dX12_middleOf_1 : decode cX12_middleOf 1 = .ok (.istore_n 3, 1) := by decide +kernel
theorem dX12_middleOf_2 : decode cX12_middleOf 2 = .ok (.iload_n 1, 1) := by decide +kernel
theorem dX12_middleOf_3 : decode cX12_middleOf 3 = .ok (.istore 4, 2) := by decide +kernel
theorem dX12_middleOf_5 : decode cX12_middleOf 5 = .ok (.iload 4, 2) := by decide +kernel
theorem dX12_middleOf_7 : decode cX12_middleOf 7 = .ok (.iload_n 1, 1) := by decide +kernel
theorem dX12_middleOf_8 : decode cX12_middleOf 8 = .ok (.iload_n 2, 1) := by decide +kernel
theorem dX12_middleOf_9 : decode cX12_middleOf 9 = .ok (.iadd, 1) := by decide +kernel
theorem dX12_middleOf_10 : decode cX12_middleOf 10 = .ok (.if_icmp .ge 21, 3) := by decide +kernel
theorem dX12_middleOf_13 : decode cX12_middleOf 13 = .ok (.aload_n 0, 1) := by decide +kernel
theorem dX12_middleOf_14 : decode cX12_middleOf 14 = .ok (.iload_n 3, 1) := by decide +kernel
theorem dX12_middleOf_15 : decode cX12_middleOf 15 = .ok (.aload_n 0, 1) := by decide +kernel
theorem dX12_middleOf_16 : decode cX12_middleOf 16 = .ok (.iload 4, 2) := by decide +kernel
theorem dX12_middleOf_18 : decode cX12_middleOf 18 = .ok (.invokevirtual 251, 3) := by decide +kernel
theorem dX12_middleOf_21 : decode cX12_middleOf 21 = .ok (.invokevirtual 305, 3) := by decide +kernel
theorem dX12_middleOf_24 : decode cX12_middleOf 24 = .ok (.istore_n 3, 1) := by decide +kernel
theorem dX12_middleOf_25 : decode cX12_middleOf 25 = .ok (.iinc 4 1, 3) := by decide +kernel
theorem dX12_middleOf_28 : decode cX12_middleOf 28 = .ok (.goto (-23), 3) := by decide +kernel
theorem dX12_middleOf_31 : decode cX12_middleOf 31 = .ok (.aload_n 0, 1) := by decide +kernel
theorem dX12_middleOf_32 : decode cX12_middleOf 32 = .ok (.getfield 89, 3) := by decide +kernel
theorem dX12_middleOf_35 : decode cX12_middleOf 35 = .ok (.iload_n 3, 1) := by decide +kernel
theorem dX12_middleOf_36 : decode cX12_middleOf 36 = .ok (.iconst 1, 1) := by decide +kernel
theorem dX12_middleOf_37 : decode cX12_middleOf 37 = .ok (.isub, 1) := by decide +kernel
theorem dX12_middleOf_38 : decode cX12_middleOf 38 = .ok (.iconst 2, 1) := by decide +kernel
theorem dX12_middleOf_39 : decode cX12_middleOf 39 = .ok (.idiv, 1) := by decide +kernel
theorem dX12_middleOf_40 : decode cX12_middleOf 40 = .ok (.iaload, 1) := by decide +kernel
theorem dX12_middleOf_41 : decode cX12_middleOf 41 = .ok (.ireturn, 1) := by decide +kernel
theorem dX12_sorts_0 : decode cX12_sorts 0 = .ok (.iload_n 1, 1) := by decide +kernel
theorem dX12_sorts_1 : decode cX12_sorts 1 = .ok (.istore_n 3, 1) := by decide +kernel
theorem dX12_sorts_2 : decode cX12_sorts 2 = .ok (.iload_n 3, 1) := by decide +kernel
theorem dX12_sorts_3 : decode cX12_sorts 3 = .ok (.ifCond .le 35, 3) := by decide +kernel
theorem dX12_sorts_6 : decode cX12_sorts 6 = .ok (.aload_n 0, 1) := by decide +kernel
theorem dX12_sorts_7 : decode cX12_sorts 7 = .ok (.getfield 89, 3) := by decide +kernel
theorem dX12_sorts_10 : decode cX12_sorts 10 = .ok (.iload_n 3, 1) := by decide +kernel
theorem dX12_sorts_11 : decode cX12_sorts 11 = .ok (.iconst 1, 1) := by decide +kernel
theorem dX12_sorts_12 : decode cX12_sorts 12 = .ok (.isub, 1) := by decide +kernel
theorem dX12_sorts_13 : decode cX12_sorts 13 = .ok (.iaload, 1) := by decide +kernel
theorem dX12_sorts_14 : decode cX12_sorts 14 = .ok (.iload_n 2, 1) := by decide +kernel
theorem dX12_sorts_15 : decode cX12_sorts 15 = .ok (.if_icmp .le 23, 3) := by decide +kernel
theorem dX12_sorts_18 : decode cX12_sorts 18 = .ok (.aload_n 0, 1) := by decide +kernel
theorem dX12_sorts_19 : decode cX12_sorts 19 = .ok (.getfield 89, 3) := by decide +kernel
theorem dX12_sorts_22 : decode cX12_sorts 22 = .ok (.iload_n 3, 1) := by decide +kernel
theorem dX12_sorts_23 : decode cX12_sorts 23 = .ok (.aload_n 0, 1) := by decide +kernel
theorem dX12_sorts_24 : decode cX12_sorts 24 = .ok (.getfield 89, 3) := by decide +kernel
theorem dX12_sorts_27 : decode cX12_sorts 27 = .ok (.iload_n 3, 1) := by decide +kernel
theorem dX12_sorts_28 : decode cX12_sorts 28 = .ok (.iconst 1, 1) := by decide +kernel
theorem dX12_sorts_29 : decode cX12_sorts 29 = .ok (.isub, 1) := by decide +kernel
theorem dX12_sorts_30 : decode cX12_sorts 30 = .ok (.iaload, 1) := by decide +kernel
theorem dX12_sorts_31 : decode cX12_sorts 31 = .ok (.iastore, 1) := by decide +kernel
theorem dX12_sorts_32 : decode cX12_sorts 32 = .ok (.iinc 3 (-1), 3) := by decide +kernel
theorem dX12_sorts_35 : decode cX12_sorts 35 = .ok (.goto (-33), 3) := by decide +kernel
theorem dX12_sorts_38 : decode cX12_sorts 38 = .ok (.aload_n 0, 1) := by decide +kernel
theorem dX12_sorts_39 : decode cX12_sorts 39 = .ok (.getfield 89, 3) := by decide +kernel
theorem dX12_sorts_42 : decode cX12_sorts 42 = .ok (.iload_n 3, 1) := by decide +kernel
theorem dX12_sorts_43 : decode cX12_sorts 43 = .ok (.iload_n 2, 1) := by decide +kernel
theorem dX12_sorts_44 : decode cX12_sorts 44 = .ok (.iastore, 1) := by decide +kernel
theorem dX12_sorts_45 : decode cX12_sorts 45 = .ok (.iload_n 1, 1) := by decide +kernel
theorem dX12_sorts_46 : decode cX12_sorts 46 = .ok (.iconst 1, 1) := by decide +kernel
theorem dX12_sorts_47 : decode cX12_sorts 47 = .ok (.iadd, 1) := by decide +kernel
theorem dX12_sorts_48 : decode cX12_sorts 48 = .ok (.ireturn, 1) := by decide +kernel
theorem dX12_goesOnNote_0 : decode cX12_goesOnNote 0 = .ok (.aload_n 0, 1) := by decide +kernel
theorem dX12_goesOnNote_1 : decode cX12_goesOnNote 1 = .ok (.iload_n 1, 1) := by decide +kernel
theorem dX12_goesOnNote_2 : decode cX12_goesOnNote 2 = .ok (.iconst 1, 1) := by decide +kernel
theorem dX12_goesOnNote_3 : decode cX12_goesOnNote 3 = .ok (.isub, 1) := by decide +kernel
theorem dX12_goesOnNote_4 : decode cX12_goesOnNote 4 = .ok (.invokevirtual 251, 3) := by decide +kernel
theorem dX12_goesOnNote_7 : decode cX12_goesOnNote 7 = .ok (.istore_n 2, 1) := by decide +kernel
theorem dX12_goesOnNote_8 : decode cX12_goesOnNote 8 = .ok (.aload_n 0, 1) := by decide +kernel
theorem dX12_goesOnNote_9 : decode cX12_goesOnNote 9 = .ok (.iload_n 1, 1) := by decide +kernel
theorem dX12_goesOnNote_10 : decode cX12_goesOnNote 10 = .ok (.invokevirtual 251, 3) := by decide +kernel
theorem dX12_goesOnNote_13 : decode cX12_goesOnNote 13 = .ok (.istore_n 3, 1) := by decide +kernel
theorem dX12_goesOnNote_14 : decode cX12_goesOnNote 14 = .ok (.iload_n 2, 1) := by decide +kernel
theorem dX12_goesOnNote_15 : decode cX12_goesOnNote 15 = .ok (.ifCond .le 20, 3) := by decide +kernel
theorem dX12_goesOnNote_18 : decode cX12_goesOnNote 18 = .ok (.iload_n 3, 1) := by decide +kernel
theorem dX12_goesOnNote_19 : decode cX12_goesOnNote 19 = .ok (.ifCond .le 16, 3) := by decide +kernel
theorem dX12_goesOnNote_22 : decode cX12_goesOnNote 22 = .ok (.iload_n 2, 1) := by decide +kernel
theorem dX12_goesOnNote_23 : decode cX12_goesOnNote 23 = .ok (.iload_n 3, 1) := by decide +kernel
theorem dX12_goesOnNote_24 : decode cX12_goesOnNote 24 = .ok (.invokestatic 163, 3) := by decide +kernel
theorem dX12_goesOnNote_27 : decode cX12_goesOnNote 27 = .ok (.iconst 1, 1) := by decide +kernel
theorem dX12_goesOnNote_28 : decode cX12_goesOnNote 28 = .ok (.if_icmp .gt 7, 3) := by decide +kernel
theorem dX12_goesOnNote_31 : decode cX12_goesOnNote 31 = .ok (.iconst 1, 1) := by decide +kernel
theorem dX12_goesOnNote_32 : decode cX12_goesOnNote 32 = .ok (.goto 4, 3) := by decide +kernel
theorem dX12_goesOnNote_35 : decode cX12_goesOnNote 35 = .ok (.iconst 0, 1) := by decide +kernel
theorem dX12_goesOnNote_36 : decode cX12_goesOnNote 36 = .ok (.ireturn, 1) := by decide +kernel
theorem dX12_laysNotes_0 : decode cX12_laysNotes 0 = .ok (.aload_n 0, 1) := by decide +kernel
theorem dX12_laysNotes_1 : decode cX12_laysNotes 1 = .ok (.invokevirtual 254, 3) := by decide +kernel
theorem dX12_laysNotes_4 : decode cX12_laysNotes 4 = .ok (.aload_n 0, 1) := by decide +kernel
theorem dX12_laysNotes_5 : decode cX12_laysNotes 5 = .ok (.iconst 0, 1) := by decide +kernel
theorem dX12_laysNotes_6 : decode cX12_laysNotes 6 = .ok (.putfield 308, 3) := by decide +kernel
theorem dX12_laysNotes_9 : decode cX12_laysNotes 9 = .ok (.iconst 0, 1) := by decide +kernel
theorem dX12_laysNotes_10 : decode cX12_laysNotes 10 = .ok (.istore_n 1, 1) := by decide +kernel
theorem dX12_laysNotes_11 : decode cX12_laysNotes 11 = .ok (.iload_n 1, 1) := by decide +kernel
theorem dX12_laysNotes_12 : decode cX12_laysNotes 12 = .ok (.aload_n 0, 1) := by decide +kernel
theorem dX12_laysNotes_13 : decode cX12_laysNotes 13 = .ok (.getfield 189, 3) := by decide +kernel
theorem dX12_laysNotes_16 : decode cX12_laysNotes 16 = .ok (.if_icmp .ge 91, 3) := by decide +kernel
theorem dX12_laysNotes_19 : decode cX12_laysNotes 19 = .ok (.iload_n 1, 1) := by decide +kernel
theorem dX12_laysNotes_20 : decode cX12_laysNotes 20 = .ok (.iconst 1, 1) := by decide +kernel
theorem dX12_laysNotes_21 : decode cX12_laysNotes 21 = .ok (.iadd, 1) := by decide +kernel
theorem dX12_laysNotes_22 : decode cX12_laysNotes 22 = .ok (.istore_n 2, 1) := by decide +kernel
theorem dX12_laysNotes_23 : decode cX12_laysNotes 23 = .ok (.iload_n 2, 1) := by decide +kernel
theorem dX12_laysNotes_24 : decode cX12_laysNotes 24 = .ok (.aload_n 0, 1) := by decide +kernel
theorem dX12_laysNotes_25 : decode cX12_laysNotes 25 = .ok (.getfield 189, 3) := by decide +kernel
theorem dX12_laysNotes_28 : decode cX12_laysNotes 28 = .ok (.if_icmp .ge 17, 3) := by decide +kernel
theorem dX12_laysNotes_31 : decode cX12_laysNotes 31 = .ok (.aload_n 0, 1) := by decide +kernel
theorem dX12_laysNotes_32 : decode cX12_laysNotes 32 = .ok (.iload_n 2, 1) := by decide +kernel
theorem dX12_laysNotes_33 : decode cX12_laysNotes 33 = .ok (.invokevirtual 311, 3) := by decide +kernel
theorem dX12_laysNotes_36 : decode cX12_laysNotes 36 = .ok (.ifCond .eq 9, 3) := by decide +kernel
theorem dX12_laysNotes_39 : decode cX12_laysNotes 39 = .ok (.iinc 2 1, 3) := by decide +kernel
theorem dX12_laysNotes_42 : decode cX12_laysNotes 42 = .ok (.goto (-19), 3) := by decide +kernel
theorem dX12_laysNotes_45 : decode cX12_laysNotes 45 = .ok (.aload_n 0, 1) := by decide +kernel
theorem dX12_laysNotes_46 : decode cX12_laysNotes 46 = .ok (.iload_n 1, 1) := by decide +kernel
theorem dX12_laysNotes_47 : decode cX12_laysNotes 47 = .ok (.invokevirtual 251, 3) := by decide +kernel
theorem dX12_laysNotes_50 : decode cX12_laysNotes 50 = .ok (.ifCond .le 52, 3) := by decide +kernel
theorem dX12_laysNotes_53 : decode cX12_laysNotes 53 = .ok (.aload_n 0, 1) := by decide +kernel
theorem dX12_laysNotes_54 : decode cX12_laysNotes 54 = .ok (.getfield 80, 3) := by decide +kernel
theorem dX12_laysNotes_57 : decode cX12_laysNotes 57 = .ok (.aload_n 0, 1) := by decide +kernel
theorem dX12_laysNotes_58 : decode cX12_laysNotes 58 = .ok (.getfield 308, 3) := by decide +kernel
theorem dX12_laysNotes_61 : decode cX12_laysNotes 61 = .ok (.iload_n 1, 1) := by decide +kernel
theorem dX12_laysNotes_62 : decode cX12_laysNotes 62 = .ok (.iastore, 1) := by decide +kernel
theorem dX12_laysNotes_63 : decode cX12_laysNotes 63 = .ok (.aload_n 0, 1) := by decide +kernel
theorem dX12_laysNotes_64 : decode cX12_laysNotes 64 = .ok (.getfield 83, 3) := by decide +kernel
theorem dX12_laysNotes_67 : decode cX12_laysNotes 67 = .ok (.aload_n 0, 1) := by decide +kernel
theorem dX12_laysNotes_68 : decode cX12_laysNotes 68 = .ok (.getfield 308, 3) := by decide +kernel
theorem dX12_laysNotes_71 : decode cX12_laysNotes 71 = .ok (.iload_n 2, 1) := by decide +kernel
theorem dX12_laysNotes_72 : decode cX12_laysNotes 72 = .ok (.iload_n 1, 1) := by decide +kernel
theorem dX12_laysNotes_73 : decode cX12_laysNotes 73 = .ok (.isub, 1) := by decide +kernel
theorem dX12_laysNotes_74 : decode cX12_laysNotes 74 = .ok (.iastore, 1) := by decide +kernel
theorem dX12_laysNotes_75 : decode cX12_laysNotes 75 = .ok (.aload_n 0, 1) := by decide +kernel
theorem dX12_laysNotes_76 : decode cX12_laysNotes 76 = .ok (.getfield 86, 3) := by decide +kernel
theorem dX12_laysNotes_79 : decode cX12_laysNotes 79 = .ok (.aload_n 0, 1) := by decide +kernel
theorem dX12_laysNotes_80 : decode cX12_laysNotes 80 = .ok (.getfield 308, 3) := by decide +kernel
theorem dX12_laysNotes_83 : decode cX12_laysNotes 83 = .ok (.aload_n 0, 1) := by decide +kernel
theorem dX12_laysNotes_84 : decode cX12_laysNotes 84 = .ok (.iload_n 1, 1) := by decide +kernel
theorem dX12_laysNotes_85 : decode cX12_laysNotes 85 = .ok (.iload_n 2, 1) := by decide +kernel
theorem dX12_laysNotes_86 : decode cX12_laysNotes 86 = .ok (.iload_n 1, 1) := by decide +kernel
theorem dX12_laysNotes_87 : decode cX12_laysNotes 87 = .ok (.isub, 1) := by decide +kernel
theorem dX12_laysNotes_88 : decode cX12_laysNotes 88 = .ok (.invokevirtual 314, 3) := by decide +kernel
theorem dX12_laysNotes_91 : decode cX12_laysNotes 91 = .ok (.iastore, 1) := by decide +kernel
theorem dX12_laysNotes_92 : decode cX12_laysNotes 92 = .ok (.aload_n 0, 1) := by decide +kernel
theorem dX12_laysNotes_93 : decode cX12_laysNotes 93 = .ok (.dup, 1) := by decide +kernel
theorem dX12_laysNotes_94 : decode cX12_laysNotes 94 = .ok (.getfield 308, 3) := by decide +kernel
theorem dX12_laysNotes_97 : decode cX12_laysNotes 97 = .ok (.iconst 1, 1) := by decide +kernel
theorem dX12_laysNotes_98 : decode cX12_laysNotes 98 = .ok (.iadd, 1) := by decide +kernel
theorem dX12_laysNotes_99 : decode cX12_laysNotes 99 = .ok (.putfield 308, 3) := by decide +kernel
theorem dX12_laysNotes_102 : decode cX12_laysNotes 102 = .ok (.iload_n 2, 1) := by decide +kernel
theorem dX12_laysNotes_103 : decode cX12_laysNotes 103 = .ok (.istore_n 1, 1) := by decide +kernel
theorem dX12_laysNotes_104 : decode cX12_laysNotes 104 = .ok (.goto (-93), 3) := by decide +kernel
theorem dX12_laysNotes_107 : decode cX12_laysNotes 107 = .ok (.return_, 1) := by decide +kernel
theorem dX12_notes_0 : decode cX12_notes 0 = .ok (.aload_n 0, 1) := by decide +kernel
theorem dX12_notes_1 : decode cX12_notes 1 = .ok (.iconst 0, 1) := by decide +kernel
theorem dX12_notes_2 : decode cX12_notes 2 = .ok (.putfield 119, 3) := by decide +kernel
theorem dX12_notes_5 : decode cX12_notes 5 = .ok (.aload_n 0, 1) := by decide +kernel
theorem dX12_notes_6 : decode cX12_notes 6 = .ok (.invokevirtual 317, 3) := by decide +kernel
theorem dX12_notes_9 : decode cX12_notes 9 = .ok (.aload_n 0, 1) := by decide +kernel
theorem dX12_notes_10 : decode cX12_notes 10 = .ok (.getfield 308, 3) := by decide +kernel
theorem dX12_notes_13 : decode cX12_notes 13 = .ok (.ireturn, 1) := by decide +kernel
theorem dX12_note_0 : decode cX12_note 0 = .ok (.aload_n 0, 1) := by decide +kernel
theorem dX12_note_1 : decode cX12_note 1 = .ok (.iconst 0, 1) := by decide +kernel
theorem dX12_note_2 : decode cX12_note 2 = .ok (.putfield 119, 3) := by decide +kernel
theorem dX12_note_5 : decode cX12_note 5 = .ok (.aload_n 0, 1) := by decide +kernel
theorem dX12_note_6 : decode cX12_note 6 = .ok (.invokevirtual 317, 3) := by decide +kernel
theorem dX12_note_9 : decode cX12_note 9 = .ok (.aload_n 0, 1) := by decide +kernel
theorem dX12_note_10 : decode cX12_note 10 = .ok (.iload_n 1, 1) := by decide +kernel
theorem dX12_note_11 : decode cX12_note 11 = .ok (.iconst 0, 1) := by decide +kernel
theorem dX12_note_12 : decode cX12_note 12 = .ok (.aload_n 0, 1) := by decide +kernel
theorem dX12_note_13 : decode cX12_note 13 = .ok (.getfield 308, 3) := by decide +kernel
theorem dX12_note_16 : decode cX12_note 16 = .ok (.iconst 1, 1) := by decide +kernel
theorem dX12_note_17 : decode cX12_note 17 = .ok (.isub, 1) := by decide +kernel
theorem dX12_note_18 : decode cX12_note 18 = .ok (.invokestatic 133, 3) := by decide +kernel
theorem dX12_note_21 : decode cX12_note 21 = .ok (.ifCond .eq 16, 3) := by decide +kernel
theorem dX12_note_24 : decode cX12_note 24 = .ok (.iload_n 2, 1) := by decide +kernel
theorem dX12_note_25 : decode cX12_note 25 = .ok (.iconst 0, 1) := by decide +kernel
theorem dX12_note_26 : decode cX12_note 26 = .ok (.iconst 2, 1) := by decide +kernel
theorem dX12_note_27 : decode cX12_note 27 = .ok (.invokestatic 133, 3) := by decide +kernel
theorem dX12_note_30 : decode cX12_note 30 = .ok (.ifCond .eq 7, 3) := by decide +kernel
theorem dX12_note_33 : decode cX12_note 33 = .ok (.iconst 1, 1) := by decide +kernel
theorem dX12_note_34 : decode cX12_note 34 = .ok (.goto 4, 3) := by decide +kernel
theorem dX12_note_37 : decode cX12_note 37 = .ok (.iconst 0, 1) := by decide +kernel
theorem dX12_note_38 : decode cX12_note 38 = .ok (.iconst 1, 1) := by decide +kernel
theorem dX12_note_39 : decode cX12_note 39 = .ok (.invokevirtual 148, 3) := by decide +kernel
theorem dX12_note_42 : decode cX12_note 42 = .ok (.ifCond .ne 5, 3) := by decide +kernel
theorem dX12_note_45 : decode cX12_note 45 = .ok (.iconst 0, 1) := by decide +kernel
theorem dX12_note_46 : decode cX12_note 46 = .ok (.ireturn, 1) := by decide +kernel
theorem dX12_note_47 : decode cX12_note 47 = .ok (.iload_n 2, 1) := by decide +kernel
theorem dX12_note_48 : decode cX12_note 48 = .ok (.ifCond .ne 12, 3) := by decide +kernel
theorem dX12_note_51 : decode cX12_note 51 = .ok (.aload_n 0, 1) := by decide +kernel
theorem dX12_note_52 : decode cX12_note 52 = .ok (.getfield 80, 3) := by decide +kernel
theorem dX12_note_55 : decode cX12_note 55 = .ok (.iload_n 1, 1) := by decide +kernel
theorem dX12_note_56 : decode cX12_note 56 = .ok (.iaload, 1) := by decide +kernel
theorem dX12_note_57 : decode cX12_note 57 = .ok (.goto 23, 3) := by decide +kernel
theorem dX12_note_60 : decode cX12_note 60 = .ok (.iload_n 2, 1) := by decide +kernel
theorem dX12_note_61 : decode cX12_note 61 = .ok (.iconst 1, 1) := by decide +kernel
theorem dX12_note_62 : decode cX12_note 62 = .ok (.if_icmp .ne 12, 3) := by decide +kernel
theorem dX12_note_65 : decode cX12_note 65 = .ok (.aload_n 0, 1) := by decide +kernel
theorem dX12_note_66 : decode cX12_note 66 = .ok (.getfield 83, 3) := by decide +kernel
theorem dX12_note_69 : decode cX12_note 69 = .ok (.iload_n 1, 1) := by decide +kernel
theorem dX12_note_70 : decode cX12_note 70 = .ok (.iaload, 1) := by decide +kernel
theorem dX12_note_71 : decode cX12_note 71 = .ok (.goto 9, 3) := by decide +kernel
theorem dX12_note_74 : decode cX12_note 74 = .ok (.aload_n 0, 1) := by decide +kernel
theorem dX12_note_75 : decode cX12_note 75 = .ok (.getfield 86, 3) := by decide +kernel
theorem dX12_note_78 : decode cX12_note 78 = .ok (.iload_n 1, 1) := by decide +kernel
theorem dX12_note_79 : decode cX12_note 79 = .ok (.iaload, 1) := by decide +kernel
theorem dX12_note_80 : decode cX12_note 80 = .ok (.ireturn, 1) := by decide +kernel
theorem dX12_steady_0 : decode cX12_steady 0 = .ok (.aload_n 0, 1) := by decide +kernel
theorem dX12_steady_1 : decode cX12_steady 1 = .ok (.iconst 0, 1) := by decide +kernel
theorem dX12_steady_2 : decode cX12_steady 2 = .ok (.putfield 119, 3) := by decide +kernel
theorem dX12_steady_5 : decode cX12_steady 5 = .ok (.aload_n 0, 1) := by decide +kernel
theorem dX12_steady_6 : decode cX12_steady 6 = .ok (.iload_n 1, 1) := by decide +kernel
theorem dX12_steady_7 : decode cX12_steady 7 = .ok (.iconst 0, 1) := by decide +kernel
theorem dX12_steady_8 : decode cX12_steady 8 = .ok (.iconst 2, 1) := by decide +kernel
theorem dX12_steady_9 : decode cX12_steady 9 = .ok (.invokestatic 133, 3) := by decide +kernel
theorem dX12_steady_12 : decode cX12_steady 12 = .ok (.iconst 1, 1) := by decide +kernel
theorem dX12_steady_13 : decode cX12_steady 13 = .ok (.invokevirtual 148, 3) := by decide +kernel
theorem dX12_steady_16 : decode cX12_steady 16 = .ok (.ifCond .ne 5, 3) := by decide +kernel
theorem dX12_steady_19 : decode cX12_steady 19 = .ok (.iconst 0, 1) := by decide +kernel
theorem dX12_steady_20 : decode cX12_steady 20 = .ok (.ireturn, 1) := by decide +kernel
theorem dX12_steady_21 : decode cX12_steady 21 = .ok (.aload_n 0, 1) := by decide +kernel
theorem dX12_steady_22 : decode cX12_steady 22 = .ok (.invokevirtual 254, 3) := by decide +kernel
theorem dX12_steady_25 : decode cX12_steady 25 = .ok (.iconst (-1), 1) := by decide +kernel
theorem dX12_steady_26 : decode cX12_steady 26 = .ok (.istore_n 2, 1) := by decide +kernel
theorem dX12_steady_27 : decode cX12_steady 27 = .ok (.iconst 0, 1) := by decide +kernel
theorem dX12_steady_28 : decode cX12_steady 28 = .ok (.istore_n 3, 1) := by decide +kernel
theorem dX12_steady_29 : decode cX12_steady 29 = .ok (.iconst 0, 1) := by decide +kernel
theorem dX12_steady_30 : decode cX12_steady 30 = .ok (.istore 4, 2) := by decide +kernel
theorem dX12_steady_32 : decode cX12_steady 32 = .ok (.iload 4, 2) := by decide +kernel
theorem dX12_steady_34 : decode cX12_steady 34 = .ok (.aload_n 0, 1) := by decide +kernel
theorem dX12_steady_35 : decode cX12_steady 35 = .ok (.getfield 189, 3) := by decide +kernel
theorem dX12_steady_38 : decode cX12_steady 38 = .ok (.if_icmp .ge 73, 3) := by decide +kernel
theorem dX12_steady_41 : decode cX12_steady 41 = .ok (.iload 4, 2) := by decide +kernel
theorem dX12_steady_43 : decode cX12_steady 43 = .ok (.iconst 1, 1) := by decide +kernel
theorem dX12_steady_44 : decode cX12_steady 44 = .ok (.iadd, 1) := by decide +kernel
theorem dX12_steady_45 : decode cX12_steady 45 = .ok (.istore 5, 2) := by decide +kernel
theorem dX12_steady_47 : decode cX12_steady 47 = .ok (.iload 5, 2) := by decide +kernel
theorem dX12_steady_49 : decode cX12_steady 49 = .ok (.aload_n 0, 1) := by decide +kernel
theorem dX12_steady_50 : decode cX12_steady 50 = .ok (.getfield 189, 3) := by decide +kernel
theorem dX12_steady_53 : decode cX12_steady 53 = .ok (.if_icmp .ge 24, 3) := by decide +kernel
theorem dX12_steady_56 : decode cX12_steady 56 = .ok (.aload_n 0, 1) := by decide +kernel
theorem dX12_steady_57 : decode cX12_steady 57 = .ok (.iload 5, 2) := by decide +kernel
theorem dX12_steady_59 : decode cX12_steady 59 = .ok (.invokevirtual 251, 3) := by decide +kernel
theorem dX12_steady_62 : decode cX12_steady 62 = .ok (.aload_n 0, 1) := by decide +kernel
theorem dX12_steady_63 : decode cX12_steady 63 = .ok (.iload 4, 2) := by decide +kernel
theorem dX12_steady_65 : decode cX12_steady 65 = .ok (.invokevirtual 251, 3) := by decide +kernel
theorem dX12_steady_68 : decode cX12_steady 68 = .ok (.if_icmp .ne 9, 3) := by decide +kernel
theorem dX12_steady_71 : decode cX12_steady 71 = .ok (.iinc 5 1, 3) := by decide +kernel
theorem dX12_steady_74 : decode cX12_steady 74 = .ok (.goto (-27), 3) := by decide +kernel
theorem dX12_steady_77 : decode cX12_steady 77 = .ok (.aload_n 0, 1) := by decide +kernel
theorem dX12_steady_78 : decode cX12_steady 78 = .ok (.iload 4, 2) := by decide +kernel
theorem dX12_steady_80 : decode cX12_steady 80 = .ok (.invokevirtual 251, 3) := by decide +kernel
theorem dX12_steady_83 : decode cX12_steady 83 = .ok (.ifCond .le 21, 3) := by decide +kernel
theorem dX12_steady_86 : decode cX12_steady 86 = .ok (.iload 5, 2) := by decide +kernel
theorem dX12_steady_88 : decode cX12_steady 88 = .ok (.iload 4, 2) := by decide +kernel
theorem dX12_steady_90 : decode cX12_steady 90 = .ok (.isub, 1) := by decide +kernel
theorem dX12_steady_91 : decode cX12_steady 91 = .ok (.iload_n 3, 1) := by decide +kernel
theorem dX12_steady_92 : decode cX12_steady 92 = .ok (.if_icmp .le 12, 3) := by decide +kernel
theorem dX12_steady_95 : decode cX12_steady 95 = .ok (.iload 4, 2) := by decide +kernel
theorem dX12_steady_97 : decode cX12_steady 97 = .ok (.istore_n 2, 1) := by decide +kernel
theorem dX12_steady_98 : decode cX12_steady 98 = .ok (.iload 5, 2) := by decide +kernel
theorem dX12_steady_100 : decode cX12_steady 100 = .ok (.iload 4, 2) := by decide +kernel
theorem dX12_steady_102 : decode cX12_steady 102 = .ok (.isub, 1) := by decide +kernel
theorem dX12_steady_103 : decode cX12_steady 103 = .ok (.istore_n 3, 1) := by decide +kernel
theorem dX12_steady_104 : decode cX12_steady 104 = .ok (.iload 5, 2) := by decide +kernel
theorem dX12_steady_106 : decode cX12_steady 106 = .ok (.istore 4, 2) := by decide +kernel
theorem dX12_steady_108 : decode cX12_steady 108 = .ok (.goto (-76), 3) := by decide +kernel
theorem dX12_steady_111 : decode cX12_steady 111 = .ok (.iload_n 1, 1) := by decide +kernel
theorem dX12_steady_112 : decode cX12_steady 112 = .ok (.iconst 2, 1) := by decide +kernel
theorem dX12_steady_113 : decode cX12_steady 113 = .ok (.if_icmp .ne 18, 3) := by decide +kernel
theorem dX12_steady_116 : decode cX12_steady 116 = .ok (.iload_n 2, 1) := by decide +kernel
theorem dX12_steady_117 : decode cX12_steady 117 = .ok (.iconst (-1), 1) := by decide +kernel
theorem dX12_steady_118 : decode cX12_steady 118 = .ok (.if_icmp .ne 7, 3) := by decide +kernel
theorem dX12_steady_121 : decode cX12_steady 121 = .ok (.iconst 0, 1) := by decide +kernel
theorem dX12_steady_122 : decode cX12_steady 122 = .ok (.goto 8, 3) := by decide +kernel
theorem dX12_steady_125 : decode cX12_steady 125 = .ok (.aload_n 0, 1) := by decide +kernel
theorem dX12_steady_126 : decode cX12_steady 126 = .ok (.iload_n 2, 1) := by decide +kernel
theorem dX12_steady_127 : decode cX12_steady 127 = .ok (.invokevirtual 251, 3) := by decide +kernel
theorem dX12_steady_130 : decode cX12_steady 130 = .ok (.ireturn, 1) := by decide +kernel
theorem dX12_steady_131 : decode cX12_steady 131 = .ok (.iload_n 1, 1) := by decide +kernel
theorem dX12_steady_132 : decode cX12_steady 132 = .ok (.ifCond .ne 7, 3) := by decide +kernel
theorem dX12_steady_135 : decode cX12_steady 135 = .ok (.iload_n 2, 1) := by decide +kernel
theorem dX12_steady_136 : decode cX12_steady 136 = .ok (.goto 4, 3) := by decide +kernel
theorem dX12_steady_139 : decode cX12_steady 139 = .ok (.iload_n 3, 1) := by decide +kernel
theorem dX12_steady_140 : decode cX12_steady 140 = .ok (.ireturn, 1) := by decide +kernel
theorem dX12_laysOften_0 : decode cX12_laysOften 0 = .ok (.aload_n 0, 1) := by decide +kernel
theorem dX12_laysOften_1 : decode cX12_laysOften 1 = .ok (.invokevirtual 254, 3) := by decide +kernel
theorem dX12_laysOften_4 : decode cX12_laysOften 4 = .ok (.iconst 0, 1) := by decide +kernel
theorem dX12_laysOften_5 : decode cX12_laysOften 5 = .ok (.istore_n 1, 1) := by decide +kernel
theorem dX12_laysOften_6 : decode cX12_laysOften 6 = .ok (.iload_n 1, 1) := by decide +kernel
theorem dX12_laysOften_7 : decode cX12_laysOften 7 = .ok (.bipush 50, 2) := by decide +kernel
theorem dX12_laysOften_9 : decode cX12_laysOften 9 = .ok (.if_icmp .ge 16, 3) := by decide +kernel
theorem dX12_laysOften_12 : decode cX12_laysOften 12 = .ok (.aload_n 0, 1) := by decide +kernel
theorem dX12_laysOften_13 : decode cX12_laysOften 13 = .ok (.getfield 92, 3) := by decide +kernel
theorem dX12_laysOften_16 : decode cX12_laysOften 16 = .ok (.iload_n 1, 1) := by decide +kernel
theorem dX12_laysOften_17 : decode cX12_laysOften 17 = .ok (.iconst 0, 1) := by decide +kernel
theorem dX12_laysOften_18 : decode cX12_laysOften 18 = .ok (.iastore, 1) := by decide +kernel
theorem dX12_laysOften_19 : decode cX12_laysOften 19 = .ok (.iinc 1 1, 3) := by decide +kernel
theorem dX12_laysOften_22 : decode cX12_laysOften 22 = .ok (.goto (-16), 3) := by decide +kernel
theorem dX12_laysOften_25 : decode cX12_laysOften 25 = .ok (.iconst 0, 1) := by decide +kernel
theorem dX12_laysOften_26 : decode cX12_laysOften 26 = .ok (.istore_n 1, 1) := by decide +kernel
theorem dX12_laysOften_27 : decode cX12_laysOften 27 = .ok (.iload_n 1, 1) := by decide +kernel
theorem dX12_laysOften_28 : decode cX12_laysOften 28 = .ok (.aload_n 0, 1) := by decide +kernel
theorem dX12_laysOften_29 : decode cX12_laysOften 29 = .ok (.getfield 189, 3) := by decide +kernel
theorem dX12_laysOften_32 : decode cX12_laysOften 32 = .ok (.if_icmp .ge 23, 3) := by decide +kernel
theorem dX12_laysOften_35 : decode cX12_laysOften 35 = .ok (.aload_n 0, 1) := by decide +kernel
theorem dX12_laysOften_36 : decode cX12_laysOften 36 = .ok (.getfield 92, 3) := by decide +kernel
theorem dX12_laysOften_39 : decode cX12_laysOften 39 = .ok (.aload_n 0, 1) := by decide +kernel
theorem dX12_laysOften_40 : decode cX12_laysOften 40 = .ok (.iload_n 1, 1) := by decide +kernel
theorem dX12_laysOften_41 : decode cX12_laysOften 41 = .ok (.invokevirtual 251, 3) := by decide +kernel
theorem dX12_laysOften_44 : decode cX12_laysOften 44 = .ok (.dup2, 1) := by decide +kernel
theorem dX12_laysOften_45 : decode cX12_laysOften 45 = .ok (.iaload, 1) := by decide +kernel
theorem dX12_laysOften_46 : decode cX12_laysOften 46 = .ok (.iconst 1, 1) := by decide +kernel
theorem dX12_laysOften_47 : decode cX12_laysOften 47 = .ok (.iadd, 1) := by decide +kernel
theorem dX12_laysOften_48 : decode cX12_laysOften 48 = .ok (.iastore, 1) := by decide +kernel
theorem dX12_laysOften_49 : decode cX12_laysOften 49 = .ok (.iinc 1 1, 3) := by decide +kernel
theorem dX12_laysOften_52 : decode cX12_laysOften 52 = .ok (.goto (-25), 3) := by decide +kernel
theorem dX12_laysOften_55 : decode cX12_laysOften 55 = .ok (.aload_n 0, 1) := by decide +kernel
theorem dX12_laysOften_56 : decode cX12_laysOften 56 = .ok (.getfield 92, 3) := by decide +kernel
theorem dX12_laysOften_59 : decode cX12_laysOften 59 = .ok (.iconst 0, 1) := by decide +kernel
theorem dX12_laysOften_60 : decode cX12_laysOften 60 = .ok (.iconst 0, 1) := by decide +kernel
theorem dX12_laysOften_61 : decode cX12_laysOften 61 = .ok (.iastore, 1) := by decide +kernel
theorem dX12_laysOften_62 : decode cX12_laysOften 62 = .ok (.return_, 1) := by decide +kernel
theorem dX12_lags_0 : decode cX12_lags 0 = .ok (.aload_n 0, 1) := by decide +kernel
theorem dX12_lags_1 : decode cX12_lags 1 = .ok (.iconst 0, 1) := by decide +kernel
theorem dX12_lags_2 : decode cX12_lags 2 = .ok (.putfield 119, 3) := by decide +kernel
theorem dX12_lags_5 : decode cX12_lags 5 = .ok (.aload_n 0, 1) := by decide +kernel
theorem dX12_lags_6 : decode cX12_lags 6 = .ok (.invokevirtual 320, 3) := by decide +kernel
theorem dX12_lags_9 : decode cX12_lags 9 = .ok (.iconst 0, 1) := by decide +kernel
theorem dX12_lags_10 : decode cX12_lags 10 = .ok (.istore_n 1, 1) := by decide +kernel
theorem dX12_lags_11 : decode cX12_lags 11 = .ok (.iconst 1, 1) := by decide +kernel
theorem dX12_lags_12 : decode cX12_lags 12 = .ok (.istore_n 2, 1) := by decide +kernel
theorem dX12_lags_13 : decode cX12_lags 13 = .ok (.iload_n 2, 1) := by decide +kernel
theorem dX12_lags_14 : decode cX12_lags 14 = .ok (.bipush 50, 2) := by decide +kernel
theorem dX12_lags_16 : decode cX12_lags 16 = .ok (.if_icmp .ge 26, 3) := by decide +kernel
theorem dX12_lags_19 : decode cX12_lags 19 = .ok (.iload_n 1, 1) := by decide +kernel
theorem dX12_lags_20 : decode cX12_lags 20 = .ok (.aload_n 0, 1) := by decide +kernel
theorem dX12_lags_21 : decode cX12_lags 21 = .ok (.getfield 92, 3) := by decide +kernel
theorem dX12_lags_24 : decode cX12_lags 24 = .ok (.iload_n 2, 1) := by decide +kernel
theorem dX12_lags_25 : decode cX12_lags 25 = .ok (.iaload, 1) := by decide +kernel
theorem dX12_lags_26 : decode cX12_lags 26 = .ok (.ifCond .le 7, 3) := by decide +kernel
theorem dX12_lags_29 : decode cX12_lags 29 = .ok (.iconst 1, 1) := by decide +kernel
theorem dX12_lags_30 : decode cX12_lags 30 = .ok (.goto 4, 3) := by decide +kernel
theorem dX12_lags_33 : decode cX12_lags 33 = .ok (.iconst 0, 1) := by decide +kernel
theorem dX12_lags_34 : decode cX12_lags 34 = .ok (.iadd, 1) := by decide +kernel
theorem dX12_lags_35 : decode cX12_lags 35 = .ok (.istore_n 1, 1) := by decide +kernel
theorem dX12_lags_36 : decode cX12_lags 36 = .ok (.iinc 2 1, 3) := by decide +kernel
theorem dX12_lags_39 : decode cX12_lags 39 = .ok (.goto (-26), 3) := by decide +kernel
theorem dX12_lags_42 : decode cX12_lags 42 = .ok (.iload_n 1, 1) := by decide +kernel
theorem dX12_lags_43 : decode cX12_lags 43 = .ok (.ireturn, 1) := by decide +kernel
theorem dX12_lagAt_0 : decode cX12_lagAt 0 = .ok (.aload_n 0, 1) := by decide +kernel
theorem dX12_lagAt_1 : decode cX12_lagAt 1 = .ok (.iconst 0, 1) := by decide +kernel
theorem dX12_lagAt_2 : decode cX12_lagAt 2 = .ok (.putfield 119, 3) := by decide +kernel
theorem dX12_lagAt_5 : decode cX12_lagAt 5 = .ok (.aload_n 0, 1) := by decide +kernel
theorem dX12_lagAt_6 : decode cX12_lagAt 6 = .ok (.invokevirtual 320, 3) := by decide +kernel
theorem dX12_lagAt_9 : decode cX12_lagAt 9 = .ok (.iload_n 1, 1) := by decide +kernel
theorem dX12_lagAt_10 : decode cX12_lagAt 10 = .ok (.istore_n 3, 1) := by decide +kernel
theorem dX12_lagAt_11 : decode cX12_lagAt 11 = .ok (.iconst 1, 1) := by decide +kernel
theorem dX12_lagAt_12 : decode cX12_lagAt 12 = .ok (.istore 4, 2) := by decide +kernel
theorem dX12_lagAt_14 : decode cX12_lagAt 14 = .ok (.iload 4, 2) := by decide +kernel
theorem dX12_lagAt_16 : decode cX12_lagAt 16 = .ok (.bipush 50, 2) := by decide +kernel
theorem dX12_lagAt_18 : decode cX12_lagAt 18 = .ok (.if_icmp .ge 68, 3) := by decide +kernel
theorem dX12_lagAt_21 : decode cX12_lagAt 21 = .ok (.iload_n 1, 1) := by decide +kernel
theorem dX12_lagAt_22 : decode cX12_lagAt 22 = .ok (.ifCond .lt 64, 3) := by decide +kernel
theorem dX12_lagAt_25 : decode cX12_lagAt 25 = .ok (.aload_n 0, 1) := by decide +kernel
theorem dX12_lagAt_26 : decode cX12_lagAt 26 = .ok (.getfield 92, 3) := by decide +kernel
theorem dX12_lagAt_29 : decode cX12_lagAt 29 = .ok (.iload 4, 2) := by decide +kernel
theorem dX12_lagAt_31 : decode cX12_lagAt 31 = .ok (.iaload, 1) := by decide +kernel
theorem dX12_lagAt_32 : decode cX12_lagAt 32 = .ok (.ifCond .ne 6, 3) := by decide +kernel
theorem dX12_lagAt_35 : decode cX12_lagAt 35 = .ok (.goto 45, 3) := by decide +kernel
theorem dX12_lagAt_38 : decode cX12_lagAt 38 = .ok (.iload_n 3, 1) := by decide +kernel
theorem dX12_lagAt_39 : decode cX12_lagAt 39 = .ok (.ifCond .ne 38, 3) := by decide +kernel
theorem dX12_lagAt_42 : decode cX12_lagAt 42 = .ok (.aload_n 0, 1) := by decide +kernel
theorem dX12_lagAt_43 : decode cX12_lagAt 43 = .ok (.iload_n 2, 1) := by decide +kernel
theorem dX12_lagAt_44 : decode cX12_lagAt 44 = .ok (.iconst 0, 1) := by decide +kernel
theorem dX12_lagAt_45 : decode cX12_lagAt 45 = .ok (.iconst 1, 1) := by decide +kernel
theorem dX12_lagAt_46 : decode cX12_lagAt 46 = .ok (.invokestatic 133, 3) := by decide +kernel
theorem dX12_lagAt_49 : decode cX12_lagAt 49 = .ok (.iconst 1, 1) := by decide +kernel
theorem dX12_lagAt_50 : decode cX12_lagAt 50 = .ok (.invokevirtual 148, 3) := by decide +kernel
theorem dX12_lagAt_53 : decode cX12_lagAt 53 = .ok (.ifCond .eq 22, 3) := by decide +kernel
theorem dX12_lagAt_56 : decode cX12_lagAt 56 = .ok (.iload_n 2, 1) := by decide +kernel
theorem dX12_lagAt_57 : decode cX12_lagAt 57 = .ok (.ifCond .ne 8, 3) := by decide +kernel
theorem dX12_lagAt_60 : decode cX12_lagAt 60 = .ok (.iload 4, 2) := by decide +kernel
theorem dX12_lagAt_62 : decode cX12_lagAt 62 = .ok (.goto 14, 3) := by decide +kernel
theorem dX12_lagAt_65 : decode cX12_lagAt 65 = .ok (.aload_n 0, 1) := by decide +kernel
theorem dX12_lagAt_66 : decode cX12_lagAt 66 = .ok (.getfield 92, 3) := by decide +kernel
theorem dX12_lagAt_69 : decode cX12_lagAt 69 = .ok (.iload 4, 2) := by decide +kernel
theorem dX12_lagAt_71 : decode cX12_lagAt 71 = .ok (.iaload, 1) := by decide +kernel
theorem dX12_lagAt_72 : decode cX12_lagAt 72 = .ok (.goto 4, 3) := by decide +kernel
theorem dX12_lagAt_75 : decode cX12_lagAt 75 = .ok (.iconst 0, 1) := by decide +kernel
theorem dX12_lagAt_76 : decode cX12_lagAt 76 = .ok (.ireturn, 1) := by decide +kernel
theorem dX12_lagAt_77 : decode cX12_lagAt 77 = .ok (.iinc 3 (-1), 3) := by decide +kernel
theorem dX12_lagAt_80 : decode cX12_lagAt 80 = .ok (.iinc 4 1, 3) := by decide +kernel
theorem dX12_lagAt_83 : decode cX12_lagAt 83 = .ok (.goto (-69), 3) := by decide +kernel
theorem dX12_lagAt_86 : decode cX12_lagAt 86 = .ok (.aload_n 0, 1) := by decide +kernel
theorem dX12_lagAt_87 : decode cX12_lagAt 87 = .ok (.iconst 0, 1) := by decide +kernel
theorem dX12_lagAt_88 : decode cX12_lagAt 88 = .ok (.iconst 1, 1) := by decide +kernel
theorem dX12_lagAt_89 : decode cX12_lagAt 89 = .ok (.invokevirtual 148, 3) := by decide +kernel
theorem dX12_lagAt_92 : decode cX12_lagAt 92 = .ok (.pop, 1) := by decide +kernel
theorem dX12_lagAt_93 : decode cX12_lagAt 93 = .ok (.iconst 0, 1) := by decide +kernel
theorem dX12_lagAt_94 : decode cX12_lagAt 94 = .ok (.ireturn, 1) := by decide +kernel
theorem dX12_common_0 : decode cX12_common 0 = .ok (.aload_n 0, 1) := by decide +kernel
theorem dX12_common_1 : decode cX12_common 1 = .ok (.iconst 0, 1) := by decide +kernel
theorem dX12_common_2 : decode cX12_common 2 = .ok (.putfield 119, 3) := by decide +kernel
theorem dX12_common_5 : decode cX12_common 5 = .ok (.aload_n 0, 1) := by decide +kernel
theorem dX12_common_6 : decode cX12_common 6 = .ok (.iload_n 1, 1) := by decide +kernel
theorem dX12_common_7 : decode cX12_common 7 = .ok (.iconst 0, 1) := by decide +kernel
theorem dX12_common_8 : decode cX12_common 8 = .ok (.iconst 1, 1) := by decide +kernel
theorem dX12_common_9 : decode cX12_common 9 = .ok (.invokestatic 133, 3) := by decide +kernel
theorem dX12_common_12 : decode cX12_common 12 = .ok (.iconst 1, 1) := by decide +kernel
theorem dX12_common_13 : decode cX12_common 13 = .ok (.invokevirtual 148, 3) := by decide +kernel
theorem dX12_common_16 : decode cX12_common 16 = .ok (.ifCond .ne 5, 3) := by decide +kernel
theorem dX12_common_19 : decode cX12_common 19 = .ok (.iconst 0, 1) := by decide +kernel
theorem dX12_common_20 : decode cX12_common 20 = .ok (.ireturn, 1) := by decide +kernel
theorem dX12_common_21 : decode cX12_common 21 = .ok (.aload_n 0, 1) := by decide +kernel
theorem dX12_common_22 : decode cX12_common 22 = .ok (.invokevirtual 320, 3) := by decide +kernel
theorem dX12_common_25 : decode cX12_common 25 = .ok (.iconst (-1), 1) := by decide +kernel
theorem dX12_common_26 : decode cX12_common 26 = .ok (.istore_n 2, 1) := by decide +kernel
theorem dX12_common_27 : decode cX12_common 27 = .ok (.iconst 0, 1) := by decide +kernel
theorem dX12_common_28 : decode cX12_common 28 = .ok (.istore_n 3, 1) := by decide +kernel
theorem dX12_common_29 : decode cX12_common 29 = .ok (.iconst 1, 1) := by decide +kernel
theorem dX12_common_30 : decode cX12_common 30 = .ok (.istore 4, 2) := by decide +kernel
theorem dX12_common_32 : decode cX12_common 32 = .ok (.iload 4, 2) := by decide +kernel
theorem dX12_common_34 : decode cX12_common 34 = .ok (.bipush 50, 2) := by decide +kernel
theorem dX12_common_36 : decode cX12_common 36 = .ok (.if_icmp .ge 53, 3) := by decide +kernel
theorem dX12_common_39 : decode cX12_common 39 = .ok (.iload_n 3, 1) := by decide +kernel
theorem dX12_common_40 : decode cX12_common 40 = .ok (.aload_n 0, 1) := by decide +kernel
theorem dX12_common_41 : decode cX12_common 41 = .ok (.getfield 92, 3) := by decide +kernel
theorem dX12_common_44 : decode cX12_common 44 = .ok (.iload 4, 2) := by decide +kernel
theorem dX12_common_46 : decode cX12_common 46 = .ok (.iaload, 1) := by decide +kernel
theorem dX12_common_47 : decode cX12_common 47 = .ok (.iadd, 1) := by decide +kernel
theorem dX12_common_48 : decode cX12_common 48 = .ok (.istore_n 3, 1) := by decide +kernel
theorem dX12_common_49 : decode cX12_common 49 = .ok (.aload_n 0, 1) := by decide +kernel
theorem dX12_common_50 : decode cX12_common 50 = .ok (.getfield 92, 3) := by decide +kernel
theorem dX12_common_53 : decode cX12_common 53 = .ok (.iload 4, 2) := by decide +kernel
theorem dX12_common_55 : decode cX12_common 55 = .ok (.iaload, 1) := by decide +kernel
theorem dX12_common_56 : decode cX12_common 56 = .ok (.ifCond .le 27, 3) := by decide +kernel
theorem dX12_common_59 : decode cX12_common 59 = .ok (.iload_n 2, 1) := by decide +kernel
theorem dX12_common_60 : decode cX12_common 60 = .ok (.iconst (-1), 1) := by decide +kernel
theorem dX12_common_61 : decode cX12_common 61 = .ok (.if_icmp .eq 19, 3) := by decide +kernel
theorem dX12_common_64 : decode cX12_common 64 = .ok (.aload_n 0, 1) := by decide +kernel
theorem dX12_common_65 : decode cX12_common 65 = .ok (.getfield 92, 3) := by decide +kernel
theorem dX12_common_68 : decode cX12_common 68 = .ok (.iload 4, 2) := by decide +kernel
theorem dX12_common_70 : decode cX12_common 70 = .ok (.iaload, 1) := by decide +kernel
theorem dX12_common_71 : decode cX12_common 71 = .ok (.aload_n 0, 1) := by decide +kernel
theorem dX12_common_72 : decode cX12_common 72 = .ok (.getfield 92, 3) := by decide +kernel
theorem dX12_common_75 : decode cX12_common 75 = .ok (.iload_n 2, 1) := by decide +kernel
theorem dX12_common_76 : decode cX12_common 76 = .ok (.iaload, 1) := by decide +kernel
theorem dX12_common_77 : decode cX12_common 77 = .ok (.if_icmp .le 6, 3) := by decide +kernel
theorem dX12_common_80 : decode cX12_common 80 = .ok (.iload 4, 2) := by decide +kernel
theorem dX12_common_82 : decode cX12_common 82 = .ok (.istore_n 2, 1) := by decide +kernel
theorem dX12_common_83 : decode cX12_common 83 = .ok (.iinc 4 1, 3) := by decide +kernel
theorem dX12_common_86 : decode cX12_common 86 = .ok (.goto (-54), 3) := by decide +kernel
theorem dX12_common_89 : decode cX12_common 89 = .ok (.iload_n 1, 1) := by decide +kernel
theorem dX12_common_90 : decode cX12_common 90 = .ok (.ifCond .eq 7, 3) := by decide +kernel
theorem dX12_common_93 : decode cX12_common 93 = .ok (.iload_n 3, 1) := by decide +kernel
theorem dX12_common_94 : decode cX12_common 94 = .ok (.ifCond .ne 7, 3) := by decide +kernel
theorem dX12_common_97 : decode cX12_common 97 = .ok (.iload_n 2, 1) := by decide +kernel
theorem dX12_common_98 : decode cX12_common 98 = .ok (.goto 8, 3) := by decide +kernel
theorem dX12_common_101 : decode cX12_common 101 = .ok (.aload_n 0, 1) := by decide +kernel
theorem dX12_common_102 : decode cX12_common 102 = .ok (.iload_n 3, 1) := by decide +kernel
theorem dX12_common_103 : decode cX12_common 103 = .ok (.invokevirtual 323, 3) := by decide +kernel
theorem dX12_common_106 : decode cX12_common 106 = .ok (.ireturn, 1) := by decide +kernel
theorem dX12_inMiddle_0 : decode cX12_inMiddle 0 = .ok (.iload_n 1, 1) := by decide +kernel
theorem dX12_inMiddle_1 : decode cX12_inMiddle 1 = .ok (.iconst 1, 1) := by decide +kernel
theorem dX12_inMiddle_2 : decode cX12_inMiddle 2 = .ok (.isub, 1) := by decide +kernel
theorem dX12_inMiddle_3 : decode cX12_inMiddle 3 = .ok (.iconst 2, 1) := by decide +kernel
theorem dX12_inMiddle_4 : decode cX12_inMiddle 4 = .ok (.idiv, 1) := by decide +kernel
theorem dX12_inMiddle_5 : decode cX12_inMiddle 5 = .ok (.istore_n 2, 1) := by decide +kernel
theorem dX12_inMiddle_6 : decode cX12_inMiddle 6 = .ok (.iconst 1, 1) := by decide +kernel
theorem dX12_inMiddle_7 : decode cX12_inMiddle 7 = .ok (.istore_n 3, 1) := by decide +kernel
theorem dX12_inMiddle_8 : decode cX12_inMiddle 8 = .ok (.iload_n 2, 1) := by decide +kernel
theorem dX12_inMiddle_9 : decode cX12_inMiddle 9 = .ok (.aload_n 0, 1) := by decide +kernel
theorem dX12_inMiddle_10 : decode cX12_inMiddle 10 = .ok (.getfield 92, 3) := by decide +kernel
theorem dX12_inMiddle_13 : decode cX12_inMiddle 13 = .ok (.iload_n 3, 1) := by decide +kernel
theorem dX12_inMiddle_14 : decode cX12_inMiddle 14 = .ok (.iaload, 1) := by decide +kernel
theorem dX12_inMiddle_15 : decode cX12_inMiddle 15 = .ok (.if_icmp .lt 18, 3) := by decide +kernel
theorem dX12_inMiddle_18 : decode cX12_inMiddle 18 = .ok (.iload_n 2, 1) := by decide +kernel
theorem dX12_inMiddle_19 : decode cX12_inMiddle 19 = .ok (.aload_n 0, 1) := by decide +kernel
theorem dX12_inMiddle_20 : decode cX12_inMiddle 20 = .ok (.getfield 92, 3) := by decide +kernel
theorem dX12_inMiddle_23 : decode cX12_inMiddle 23 = .ok (.iload_n 3, 1) := by decide +kernel
theorem dX12_inMiddle_24 : decode cX12_inMiddle 24 = .ok (.iaload, 1) := by decide +kernel
theorem dX12_inMiddle_25 : decode cX12_inMiddle 25 = .ok (.isub, 1) := by decide +kernel
theorem dX12_inMiddle_26 : decode cX12_inMiddle 26 = .ok (.istore_n 2, 1) := by decide +kernel
theorem dX12_inMiddle_27 : decode cX12_inMiddle 27 = .ok (.iinc 3 1, 3) := by decide +kernel
theorem dX12_inMiddle_30 : decode cX12_inMiddle 30 = .ok (.goto (-22), 3) := by decide +kernel
theorem dX12_inMiddle_33 : decode cX12_inMiddle 33 = .ok (.iload_n 3, 1) := by decide +kernel
theorem dX12_inMiddle_34 : decode cX12_inMiddle 34 = .ok (.ireturn, 1) := by decide +kernel
theorem dX12_tune_0 : decode cX12_tune 0 = .ok (.aload_n 0, 1) := by decide +kernel
theorem dX12_tune_1 : decode cX12_tune 1 = .ok (.iconst 0, 1) := by decide +kernel
theorem dX12_tune_2 : decode cX12_tune 2 = .ok (.putfield 119, 3) := by decide +kernel
theorem dX12_tune_5 : decode cX12_tune 5 = .ok (.iload_n 1, 1) := by decide +kernel
theorem dX12_tune_6 : decode cX12_tune 6 = .ok (.iconst 1, 1) := by decide +kernel
theorem dX12_tune_7 : decode cX12_tune 7 = .ok (.bipush 48, 2) := by decide +kernel
theorem dX12_tune_9 : decode cX12_tune 9 = .ok (.invokestatic 133, 3) := by decide +kernel
theorem dX12_tune_12 : decode cX12_tune 12 = .ok (.ifCond .eq 12, 3) := by decide +kernel
theorem dX12_tune_15 : decode cX12_tune 15 = .ok (.aload_n 0, 1) := by decide +kernel
theorem dX12_tune_16 : decode cX12_tune 16 = .ok (.getfield 160, 3) := by decide +kernel
theorem dX12_tune_19 : decode cX12_tune 19 = .ok (.bipush 12, 2) := by decide +kernel
theorem dX12_tune_21 : decode cX12_tune 21 = .ok (.if_icmp .ne 7, 3) := by decide +kernel
theorem dX12_tune_24 : decode cX12_tune 24 = .ok (.sipush (-1000), 3) := by decide +kernel
theorem dX12_tune_27 : decode cX12_tune 27 = .ok (.ireturn, 1) := by decide +kernel
theorem dX12_tune_28 : decode cX12_tune 28 = .ok (.aload_n 0, 1) := by decide +kernel
theorem dX12_tune_29 : decode cX12_tune 29 = .ok (.getfield 25, 3) := by decide +kernel
theorem dX12_tune_32 : decode cX12_tune 32 = .ok (.aload_n 0, 1) := by decide +kernel
theorem dX12_tune_33 : decode cX12_tune 33 = .ok (.getfield 160, 3) := by decide +kernel
theorem dX12_tune_36 : decode cX12_tune 36 = .ok (.iload_n 1, 1) := by decide +kernel
theorem dX12_tune_37 : decode cX12_tune 37 = .ok (.iastore, 1) := by decide +kernel
theorem dX12_tune_38 : decode cX12_tune 38 = .ok (.aload_n 0, 1) := by decide +kernel
theorem dX12_tune_39 : decode cX12_tune 39 = .ok (.dup, 1) := by decide +kernel
theorem dX12_tune_40 : decode cX12_tune 40 = .ok (.getfield 160, 3) := by decide +kernel
theorem dX12_tune_43 : decode cX12_tune 43 = .ok (.iconst 1, 1) := by decide +kernel
theorem dX12_tune_44 : decode cX12_tune 44 = .ok (.iadd, 1) := by decide +kernel
theorem dX12_tune_45 : decode cX12_tune 45 = .ok (.putfield 160, 3) := by decide +kernel
theorem dX12_tune_48 : decode cX12_tune 48 = .ok (.aload_n 0, 1) := by decide +kernel
theorem dX12_tune_49 : decode cX12_tune 49 = .ok (.getfield 160, 3) := by decide +kernel
theorem dX12_tune_52 : decode cX12_tune 52 = .ok (.ireturn, 1) := by decide +kernel
theorem dX12_hush_0 : decode cX12_hush 0 = .ok (.aload_n 0, 1) := by decide +kernel
theorem dX12_hush_1 : decode cX12_hush 1 = .ok (.iconst 0, 1) := by decide +kernel
theorem dX12_hush_2 : decode cX12_hush 2 = .ok (.putfield 119, 3) := by decide +kernel
theorem dX12_hush_5 : decode cX12_hush 5 = .ok (.aload_n 0, 1) := by decide +kernel
theorem dX12_hush_6 : decode cX12_hush 6 = .ok (.getfield 160, 3) := by decide +kernel
theorem dX12_hush_9 : decode cX12_hush 9 = .ok (.istore_n 1, 1) := by decide +kernel
theorem dX12_hush_10 : decode cX12_hush 10 = .ok (.aload_n 0, 1) := by decide +kernel
theorem dX12_hush_11 : decode cX12_hush 11 = .ok (.iconst 0, 1) := by decide +kernel
theorem dX12_hush_12 : decode cX12_hush 12 = .ok (.putfield 160, 3) := by decide +kernel
theorem dX12_hush_15 : decode cX12_hush 15 = .ok (.iload_n 1, 1) := by decide +kernel
theorem dX12_hush_16 : decode cX12_hush 16 = .ok (.ireturn, 1) := by decide +kernel
theorem dX12_matchAt_0 : decode cX12_matchAt 0 = .ok (.bipush 111, 2) := by decide +kernel
theorem dX12_matchAt_2 : decode cX12_matchAt 2 = .ok (.iload_n 0, 1) := by decide +kernel
theorem dX12_matchAt_3 : decode cX12_matchAt 3 = .ok (.imul, 1) := by decide +kernel
theorem dX12_matchAt_4 : decode cX12_matchAt 4 = .ok (.iload_n 1, 1) := by decide +kernel
theorem dX12_matchAt_5 : decode cX12_matchAt 5 = .ok (.iadd, 1) := by decide +kernel
theorem dX12_matchAt_6 : decode cX12_matchAt 6 = .ok (.ireturn, 1) := by decide +kernel
theorem dX12_pairCost_0 : decode cX12_pairCost 0 = .ok (.bipush 10, 2) := by decide +kernel
theorem dX12_pairCost_2 : decode cX12_pairCost 2 = .ok (.aload_n 0, 1) := by decide +kernel
theorem dX12_pairCost_3 : decode cX12_pairCost 3 = .ok (.getfield 25, 3) := by decide +kernel
theorem dX12_pairCost_6 : decode cX12_pairCost 6 = .ok (.iload_n 1, 1) := by decide +kernel
theorem dX12_pairCost_7 : decode cX12_pairCost 7 = .ok (.iaload, 1) := by decide +kernel
theorem dX12_pairCost_8 : decode cX12_pairCost 8 = .ok (.aload_n 0, 1) := by decide +kernel
theorem dX12_pairCost_9 : decode cX12_pairCost 9 = .ok (.getfield 86, 3) := by decide +kernel
theorem dX12_pairCost_12 : decode cX12_pairCost 12 = .ok (.iload_n 2, 1) := by decide +kernel
theorem dX12_pairCost_13 : decode cX12_pairCost 13 = .ok (.iaload, 1) := by decide +kernel
theorem dX12_pairCost_14 : decode cX12_pairCost 14 = .ok (.invokestatic 163, 3) := by decide +kernel
theorem dX12_pairCost_17 : decode cX12_pairCost 17 = .ok (.imul, 1) := by decide +kernel
theorem dX12_pairCost_18 : decode cX12_pairCost 18 = .ok (.ireturn, 1) := by decide +kernel
theorem dX12_laysMatch_0 : decode cX12_laysMatch 0 = .ok (.aload_n 0, 1) := by decide +kernel
theorem dX12_laysMatch_1 : decode cX12_laysMatch 1 = .ok (.invokevirtual 317, 3) := by decide +kernel
theorem dX12_laysMatch_4 : decode cX12_laysMatch 4 = .ok (.aload_n 0, 1) := by decide +kernel
theorem dX12_laysMatch_5 : decode cX12_laysMatch 5 = .ok (.getfield 160, 3) := by decide +kernel
theorem dX12_laysMatch_8 : decode cX12_laysMatch 8 = .ok (.istore_n 1, 1) := by decide +kernel
theorem dX12_laysMatch_9 : decode cX12_laysMatch 9 = .ok (.iload_n 1, 1) := by decide +kernel
theorem dX12_laysMatch_10 : decode cX12_laysMatch 10 = .ok (.ifCond .lt 166, 3) := by decide +kernel
theorem dX12_laysMatch_13 : decode cX12_laysMatch 13 = .ok (.aload_n 0, 1) := by decide +kernel
theorem dX12_laysMatch_14 : decode cX12_laysMatch 14 = .ok (.getfield 308, 3) := by decide +kernel
theorem dX12_laysMatch_17 : decode cX12_laysMatch 17 = .ok (.istore_n 2, 1) := by decide +kernel
theorem dX12_laysMatch_18 : decode cX12_laysMatch 18 = .ok (.iload_n 2, 1) := by decide +kernel
theorem dX12_laysMatch_19 : decode cX12_laysMatch 19 = .ok (.ifCond .lt 151, 3) := by decide +kernel
theorem dX12_laysMatch_22 : decode cX12_laysMatch 22 = .ok (.iload_n 1, 1) := by decide +kernel
theorem dX12_laysMatch_23 : decode cX12_laysMatch 23 = .ok (.aload_n 0, 1) := by decide +kernel
theorem dX12_laysMatch_24 : decode cX12_laysMatch 24 = .ok (.getfield 160, 3) := by decide +kernel
theorem dX12_laysMatch_27 : decode cX12_laysMatch 27 = .ok (.if_icmp .ne 15, 3) := by decide +kernel
theorem dX12_laysMatch_30 : decode cX12_laysMatch 30 = .ok (.iload_n 2, 1) := by decide +kernel
theorem dX12_laysMatch_31 : decode cX12_laysMatch 31 = .ok (.aload_n 0, 1) := by decide +kernel
theorem dX12_laysMatch_32 : decode cX12_laysMatch 32 = .ok (.getfield 308, 3) := by decide +kernel
theorem dX12_laysMatch_35 : decode cX12_laysMatch 35 = .ok (.if_icmp .ne 7, 3) := by decide +kernel
theorem dX12_laysMatch_38 : decode cX12_laysMatch 38 = .ok (.iconst 0, 1) := by decide +kernel
theorem dX12_laysMatch_39 : decode cX12_laysMatch 39 = .ok (.goto 5, 3) := by decide +kernel
theorem dX12_laysMatch_42 : decode cX12_laysMatch 42 = .ok (.ldc 222, 2) := by decide +kernel
theorem dX12_laysMatch_44 : decode cX12_laysMatch 44 = .ok (.istore_n 3, 1) := by decide +kernel
theorem dX12_laysMatch_45 : decode cX12_laysMatch 45 = .ok (.iload_n 1, 1) := by decide +kernel
theorem dX12_laysMatch_46 : decode cX12_laysMatch 46 = .ok (.aload_n 0, 1) := by decide +kernel
theorem dX12_laysMatch_47 : decode cX12_laysMatch 47 = .ok (.getfield 160, 3) := by decide +kernel
theorem dX12_laysMatch_50 : decode cX12_laysMatch 50 = .ok (.if_icmp .ge 28, 3) := by decide +kernel
theorem dX12_laysMatch_53 : decode cX12_laysMatch 53 = .ok (.iload_n 3, 1) := by decide +kernel
theorem dX12_laysMatch_54 : decode cX12_laysMatch 54 = .ok (.aload_n 0, 1) := by decide +kernel
theorem dX12_laysMatch_55 : decode cX12_laysMatch 55 = .ok (.getfield 7, 3) := by decide +kernel
theorem dX12_laysMatch_58 : decode cX12_laysMatch 58 = .ok (.bipush 15, 2) := by decide +kernel
theorem dX12_laysMatch_60 : decode cX12_laysMatch 60 = .ok (.iaload, 1) := by decide +kernel
theorem dX12_laysMatch_61 : decode cX12_laysMatch 61 = .ok (.aload_n 0, 1) := by decide +kernel
theorem dX12_laysMatch_62 : decode cX12_laysMatch 62 = .ok (.getfield 95, 3) := by decide +kernel
theorem dX12_laysMatch_65 : decode cX12_laysMatch 65 = .ok (.iload_n 1, 1) := by decide +kernel
theorem dX12_laysMatch_66 : decode cX12_laysMatch 66 = .ok (.iconst 1, 1) := by decide +kernel
theorem dX12_laysMatch_67 : decode cX12_laysMatch 67 = .ok (.iadd, 1) := by decide +kernel
theorem dX12_laysMatch_68 : decode cX12_laysMatch 68 = .ok (.iload_n 2, 1) := by decide +kernel
theorem dX12_laysMatch_69 : decode cX12_laysMatch 69 = .ok (.invokestatic 326, 3) := by decide +kernel
theorem dX12_laysMatch_72 : decode cX12_laysMatch 72 = .ok (.iaload, 1) := by decide +kernel
theorem dX12_laysMatch_73 : decode cX12_laysMatch 73 = .ok (.iadd, 1) := by decide +kernel
theorem dX12_laysMatch_74 : decode cX12_laysMatch 74 = .ok (.invokestatic 329, 3) := by decide +kernel
theorem dX12_laysMatch_77 : decode cX12_laysMatch 77 = .ok (.istore_n 3, 1) := by decide +kernel
theorem dX12_laysMatch_78 : decode cX12_laysMatch 78 = .ok (.iload_n 2, 1) := by decide +kernel
theorem dX12_laysMatch_79 : decode cX12_laysMatch 79 = .ok (.aload_n 0, 1) := by decide +kernel
theorem dX12_laysMatch_80 : decode cX12_laysMatch 80 = .ok (.getfield 308, 3) := by decide +kernel
theorem dX12_laysMatch_83 : decode cX12_laysMatch 83 = .ok (.if_icmp .ge 28, 3) := by decide +kernel
theorem dX12_laysMatch_86 : decode cX12_laysMatch 86 = .ok (.iload_n 3, 1) := by decide +kernel
theorem dX12_laysMatch_87 : decode cX12_laysMatch 87 = .ok (.aload_n 0, 1) := by decide +kernel
theorem dX12_laysMatch_88 : decode cX12_laysMatch 88 = .ok (.getfield 7, 3) := by decide +kernel
theorem dX12_laysMatch_91 : decode cX12_laysMatch 91 = .ok (.bipush 15, 2) := by decide +kernel
theorem dX12_laysMatch_93 : decode cX12_laysMatch 93 = .ok (.iaload, 1) := by decide +kernel
theorem dX12_laysMatch_94 : decode cX12_laysMatch 94 = .ok (.aload_n 0, 1) := by decide +kernel
theorem dX12_laysMatch_95 : decode cX12_laysMatch 95 = .ok (.getfield 95, 3) := by decide +kernel
theorem dX12_laysMatch_98 : decode cX12_laysMatch 98 = .ok (.iload_n 1, 1) := by decide +kernel
theorem dX12_laysMatch_99 : decode cX12_laysMatch 99 = .ok (.iload_n 2, 1) := by decide +kernel
theorem dX12_laysMatch_100 : decode cX12_laysMatch 100 = .ok (.iconst 1, 1) := by decide +kernel
theorem dX12_laysMatch_101 : decode cX12_laysMatch 101 = .ok (.iadd, 1) := by decide +kernel
theorem dX12_laysMatch_102 : decode cX12_laysMatch 102 = .ok (.invokestatic 326, 3) := by decide +kernel
theorem dX12_laysMatch_105 : decode cX12_laysMatch 105 = .ok (.iaload, 1) := by decide +kernel
theorem dX12_laysMatch_106 : decode cX12_laysMatch 106 = .ok (.iadd, 1) := by decide +kernel
theorem dX12_laysMatch_107 : decode cX12_laysMatch 107 = .ok (.invokestatic 329, 3) := by decide +kernel
theorem dX12_laysMatch_110 : decode cX12_laysMatch 110 = .ok (.istore_n 3, 1) := by decide +kernel
theorem dX12_laysMatch_111 : decode cX12_laysMatch 111 = .ok (.iload_n 1, 1) := by decide +kernel
theorem dX12_laysMatch_112 : decode cX12_laysMatch 112 = .ok (.aload_n 0, 1) := by decide +kernel
theorem dX12_laysMatch_113 : decode cX12_laysMatch 113 = .ok (.getfield 160, 3) := by decide +kernel
theorem dX12_laysMatch_116 : decode cX12_laysMatch 116 = .ok (.if_icmp .ge 37, 3) := by decide +kernel
theorem dX12_laysMatch_119 : decode cX12_laysMatch 119 = .ok (.iload_n 2, 1) := by decide +kernel
theorem dX12_laysMatch_120 : decode cX12_laysMatch 120 = .ok (.aload_n 0, 1) := by decide +kernel
theorem dX12_laysMatch_121 : decode cX12_laysMatch 121 = .ok (.getfield 308, 3) := by decide +kernel
theorem dX12_laysMatch_124 : decode cX12_laysMatch 124 = .ok (.if_icmp .ge 29, 3) := by decide +kernel
theorem dX12_laysMatch_127 : decode cX12_laysMatch 127 = .ok (.iload_n 3, 1) := by decide +kernel
theorem dX12_laysMatch_128 : decode cX12_laysMatch 128 = .ok (.aload_n 0, 1) := by decide +kernel
theorem dX12_laysMatch_129 : decode cX12_laysMatch 129 = .ok (.iload_n 1, 1) := by decide +kernel
theorem dX12_laysMatch_130 : decode cX12_laysMatch 130 = .ok (.iload_n 2, 1) := by decide +kernel
theorem dX12_laysMatch_131 : decode cX12_laysMatch 131 = .ok (.invokevirtual 332, 3) := by decide +kernel
theorem dX12_laysMatch_134 : decode cX12_laysMatch 134 = .ok (.aload_n 0, 1) := by decide +kernel
theorem dX12_laysMatch_135 : decode cX12_laysMatch 135 = .ok (.getfield 95, 3) := by decide +kernel
theorem dX12_laysMatch_138 : decode cX12_laysMatch 138 = .ok (.iload_n 1, 1) := by decide +kernel
theorem dX12_laysMatch_139 : decode cX12_laysMatch 139 = .ok (.iconst 1, 1) := by decide +kernel
theorem dX12_laysMatch_140 : decode cX12_laysMatch 140 = .ok (.iadd, 1) := by decide +kernel
theorem dX12_laysMatch_141 : decode cX12_laysMatch 141 = .ok (.iload_n 2, 1) := by decide +kernel
theorem dX12_laysMatch_142 : decode cX12_laysMatch 142 = .ok (.iconst 1, 1) := by decide +kernel
theorem dX12_laysMatch_143 : decode cX12_laysMatch 143 = .ok (.iadd, 1) := by decide +kernel
theorem dX12_laysMatch_144 : decode cX12_laysMatch 144 = .ok (.invokestatic 326, 3) := by decide +kernel
theorem dX12_laysMatch_147 : decode cX12_laysMatch 147 = .ok (.iaload, 1) := by decide +kernel
theorem dX12_laysMatch_148 : decode cX12_laysMatch 148 = .ok (.iadd, 1) := by decide +kernel
theorem dX12_laysMatch_149 : decode cX12_laysMatch 149 = .ok (.invokestatic 329, 3) := by decide +kernel
theorem dX12_laysMatch_152 : decode cX12_laysMatch 152 = .ok (.istore_n 3, 1) := by decide +kernel
theorem dX12_laysMatch_153 : decode cX12_laysMatch 153 = .ok (.aload_n 0, 1) := by decide +kernel
theorem dX12_laysMatch_154 : decode cX12_laysMatch 154 = .ok (.getfield 95, 3) := by decide +kernel
theorem dX12_laysMatch_157 : decode cX12_laysMatch 157 = .ok (.iload_n 1, 1) := by decide +kernel
theorem dX12_laysMatch_158 : decode cX12_laysMatch 158 = .ok (.iload_n 2, 1) := by decide +kernel
theorem dX12_laysMatch_159 : decode cX12_laysMatch 159 = .ok (.invokestatic 326, 3) := by decide +kernel
theorem dX12_laysMatch_162 : decode cX12_laysMatch 162 = .ok (.iload_n 3, 1) := by decide +kernel
theorem dX12_laysMatch_163 : decode cX12_laysMatch 163 = .ok (.iastore, 1) := by decide +kernel
theorem dX12_laysMatch_164 : decode cX12_laysMatch 164 = .ok (.iinc 2 (-1), 3) := by decide +kernel
theorem dX12_laysMatch_167 : decode cX12_laysMatch 167 = .ok (.goto (-149), 3) := by decide +kernel
theorem dX12_laysMatch_170 : decode cX12_laysMatch 170 = .ok (.iinc 1 (-1), 3) := by decide +kernel
theorem dX12_laysMatch_173 : decode cX12_laysMatch 173 = .ok (.goto (-164), 3) := by decide +kernel
theorem dX12_laysMatch_176 : decode cX12_laysMatch 176 = .ok (.aload_n 0, 1) := by decide +kernel
theorem dX12_laysMatch_177 : decode cX12_laysMatch 177 = .ok (.invokevirtual 335, 3) := by decide +kernel
theorem dX12_laysMatch_180 : decode cX12_laysMatch 180 = .ok (.return_, 1) := by decide +kernel
theorem dX12_lesser_0 : decode cX12_lesser 0 = .ok (.iload_n 0, 1) := by decide +kernel
theorem dX12_lesser_1 : decode cX12_lesser 1 = .ok (.iload_n 1, 1) := by decide +kernel
theorem dX12_lesser_2 : decode cX12_lesser 2 = .ok (.if_icmp .ge 7, 3) := by decide +kernel
theorem dX12_lesser_5 : decode cX12_lesser 5 = .ok (.iload_n 0, 1) := by decide +kernel
theorem dX12_lesser_6 : decode cX12_lesser 6 = .ok (.goto 4, 3) := by decide +kernel
theorem dX12_lesser_9 : decode cX12_lesser 9 = .ok (.iload_n 1, 1) := by decide +kernel
theorem dX12_lesser_10 : decode cX12_lesser 10 = .ok (.ireturn, 1) := by decide +kernel
theorem dX12_goesMatch_0 : decode cX12_goesMatch 0 = .ok (.iconst 0, 1) := by decide +kernel
theorem dX12_goesMatch_1 : decode cX12_goesMatch 1 = .ok (.istore_n 1, 1) := by decide +kernel
theorem dX12_goesMatch_2 : decode cX12_goesMatch 2 = .ok (.aload_n 0, 1) := by decide +kernel
theorem dX12_goesMatch_3 : decode cX12_goesMatch 3 = .ok (.iconst 0, 1) := by decide +kernel
theorem dX12_goesMatch_4 : decode cX12_goesMatch 4 = .ok (.putfield 338, 3) := by decide +kernel
theorem dX12_goesMatch_7 : decode cX12_goesMatch 7 = .ok (.iconst 0, 1) := by decide +kernel
theorem dX12_goesMatch_8 : decode cX12_goesMatch 8 = .ok (.istore_n 2, 1) := by decide +kernel
theorem dX12_goesMatch_9 : decode cX12_goesMatch 9 = .ok (.iload_n 2, 1) := by decide +kernel
theorem dX12_goesMatch_10 : decode cX12_goesMatch 10 = .ok (.aload_n 0, 1) := by decide +kernel
theorem dX12_goesMatch_11 : decode cX12_goesMatch 11 = .ok (.getfield 160, 3) := by decide +kernel
theorem dX12_goesMatch_14 : decode cX12_goesMatch 14 = .ok (.if_icmp .ge 123, 3) := by decide +kernel
theorem dX12_goesMatch_17 : decode cX12_goesMatch 17 = .ok (.aload_n 0, 1) := by decide +kernel
theorem dX12_goesMatch_18 : decode cX12_goesMatch 18 = .ok (.getfield 95, 3) := by decide +kernel
theorem dX12_goesMatch_21 : decode cX12_goesMatch 21 = .ok (.iload_n 2, 1) := by decide +kernel
theorem dX12_goesMatch_22 : decode cX12_goesMatch 22 = .ok (.iload_n 1, 1) := by decide +kernel
theorem dX12_goesMatch_23 : decode cX12_goesMatch 23 = .ok (.invokestatic 326, 3) := by decide +kernel
theorem dX12_goesMatch_26 : decode cX12_goesMatch 26 = .ok (.iaload, 1) := by decide +kernel
theorem dX12_goesMatch_27 : decode cX12_goesMatch 27 = .ok (.istore_n 3, 1) := by decide +kernel
theorem dX12_goesMatch_28 : decode cX12_goesMatch 28 = .ok (.iload_n 1, 1) := by decide +kernel
theorem dX12_goesMatch_29 : decode cX12_goesMatch 29 = .ok (.istore 4, 2) := by decide +kernel
theorem dX12_goesMatch_31 : decode cX12_goesMatch 31 = .ok (.iload 4, 2) := by decide +kernel
theorem dX12_goesMatch_33 : decode cX12_goesMatch 33 = .ok (.aload_n 0, 1) := by decide +kernel
theorem dX12_goesMatch_34 : decode cX12_goesMatch 34 = .ok (.getfield 308, 3) := by decide +kernel
theorem dX12_goesMatch_37 : decode cX12_goesMatch 37 = .ok (.if_icmp .ge 49, 3) := by decide +kernel
theorem dX12_goesMatch_40 : decode cX12_goesMatch 40 = .ok (.iload 4, 2) := by decide +kernel
theorem dX12_goesMatch_42 : decode cX12_goesMatch 42 = .ok (.iload_n 1, 1) := by decide +kernel
theorem dX12_goesMatch_43 : decode cX12_goesMatch 43 = .ok (.isub, 1) := by decide +kernel
theorem dX12_goesMatch_44 : decode cX12_goesMatch 44 = .ok (.aload_n 0, 1) := by decide +kernel
theorem dX12_goesMatch_45 : decode cX12_goesMatch 45 = .ok (.getfield 7, 3) := by decide +kernel
theorem dX12_goesMatch_48 : decode cX12_goesMatch 48 = .ok (.bipush 15, 2) := by decide +kernel
theorem dX12_goesMatch_50 : decode cX12_goesMatch 50 = .ok (.iaload, 1) := by decide +kernel
theorem dX12_goesMatch_51 : decode cX12_goesMatch 51 = .ok (.imul, 1) := by decide +kernel
theorem dX12_goesMatch_52 : decode cX12_goesMatch 52 = .ok (.aload_n 0, 1) := by decide +kernel
theorem dX12_goesMatch_53 : decode cX12_goesMatch 53 = .ok (.iload_n 2, 1) := by decide +kernel
theorem dX12_goesMatch_54 : decode cX12_goesMatch 54 = .ok (.iload 4, 2) := by decide +kernel
theorem dX12_goesMatch_56 : decode cX12_goesMatch 56 = .ok (.invokevirtual 332, 3) := by decide +kernel
theorem dX12_goesMatch_59 : decode cX12_goesMatch 59 = .ok (.iadd, 1) := by decide +kernel
theorem dX12_goesMatch_60 : decode cX12_goesMatch 60 = .ok (.aload_n 0, 1) := by decide +kernel
theorem dX12_goesMatch_61 : decode cX12_goesMatch 61 = .ok (.getfield 95, 3) := by decide +kernel
theorem dX12_goesMatch_64 : decode cX12_goesMatch 64 = .ok (.iload_n 2, 1) := by decide +kernel
theorem dX12_goesMatch_65 : decode cX12_goesMatch 65 = .ok (.iconst 1, 1) := by decide +kernel
theorem dX12_goesMatch_66 : decode cX12_goesMatch 66 = .ok (.iadd, 1) := by decide +kernel
theorem dX12_goesMatch_67 : decode cX12_goesMatch 67 = .ok (.iload 4, 2) := by decide +kernel
theorem dX12_goesMatch_69 : decode cX12_goesMatch 69 = .ok (.iconst 1, 1) := by decide +kernel
theorem dX12_goesMatch_70 : decode cX12_goesMatch 70 = .ok (.iadd, 1) := by decide +kernel
theorem dX12_goesMatch_71 : decode cX12_goesMatch 71 = .ok (.invokestatic 326, 3) := by decide +kernel
theorem dX12_goesMatch_74 : decode cX12_goesMatch 74 = .ok (.iaload, 1) := by decide +kernel
theorem dX12_goesMatch_75 : decode cX12_goesMatch 75 = .ok (.iadd, 1) := by decide +kernel
theorem dX12_goesMatch_76 : decode cX12_goesMatch 76 = .ok (.iload_n 3, 1) := by decide +kernel
theorem dX12_goesMatch_77 : decode cX12_goesMatch 77 = .ok (.if_icmp .eq 9, 3) := by decide +kernel
theorem dX12_goesMatch_80 : decode cX12_goesMatch 80 = .ok (.iinc 4 1, 3) := by decide +kernel
theorem dX12_goesMatch_83 : decode cX12_goesMatch 83 = .ok (.goto (-52), 3) := by decide +kernel
theorem dX12_goesMatch_86 : decode cX12_goesMatch 86 = .ok (.aload_n 0, 1) := by decide +kernel
theorem dX12_goesMatch_87 : decode cX12_goesMatch 87 = .ok (.getfield 98, 3) := by decide +kernel
theorem dX12_goesMatch_90 : decode cX12_goesMatch 90 = .ok (.iload_n 2, 1) := by decide +kernel
theorem dX12_goesMatch_91 : decode cX12_goesMatch 91 = .ok (.iload 4, 2) := by decide +kernel
theorem dX12_goesMatch_93 : decode cX12_goesMatch 93 = .ok (.aload_n 0, 1) := by decide +kernel
theorem dX12_goesMatch_94 : decode cX12_goesMatch 94 = .ok (.getfield 308, 3) := by decide +kernel
theorem dX12_goesMatch_97 : decode cX12_goesMatch 97 = .ok (.if_icmp .ge 8, 3) := by decide +kernel
theorem dX12_goesMatch_100 : decode cX12_goesMatch 100 = .ok (.iload 4, 2) := by decide +kernel
theorem dX12_goesMatch_102 : decode cX12_goesMatch 102 = .ok (.goto 4, 3) := by decide +kernel
theorem dX12_goesMatch_105 : decode cX12_goesMatch 105 = .ok (.iconst (-1), 1) := by decide +kernel
theorem dX12_goesMatch_106 : decode cX12_goesMatch 106 = .ok (.iastore, 1) := by decide +kernel
theorem dX12_goesMatch_107 : decode cX12_goesMatch 107 = .ok (.iload 4, 2) := by decide +kernel
theorem dX12_goesMatch_109 : decode cX12_goesMatch 109 = .ok (.aload_n 0, 1) := by decide +kernel
theorem dX12_goesMatch_110 : decode cX12_goesMatch 110 = .ok (.getfield 308, 3) := by decide +kernel
theorem dX12_goesMatch_113 : decode cX12_goesMatch 113 = .ok (.if_icmp .ge 18, 3) := by decide +kernel
theorem dX12_goesMatch_116 : decode cX12_goesMatch 116 = .ok (.aload_n 0, 1) := by decide +kernel
theorem dX12_goesMatch_117 : decode cX12_goesMatch 117 = .ok (.dup, 1) := by decide +kernel
theorem dX12_goesMatch_118 : decode cX12_goesMatch 118 = .ok (.getfield 338, 3) := by decide +kernel
theorem dX12_goesMatch_121 : decode cX12_goesMatch 121 = .ok (.iconst 1, 1) := by decide +kernel
theorem dX12_goesMatch_122 : decode cX12_goesMatch 122 = .ok (.iadd, 1) := by decide +kernel
theorem dX12_goesMatch_123 : decode cX12_goesMatch 123 = .ok (.putfield 338, 3) := by decide +kernel
theorem dX12_goesMatch_126 : decode cX12_goesMatch 126 = .ok (.iload 4, 2) := by decide +kernel
theorem dX12_goesMatch_128 : decode cX12_goesMatch 128 = .ok (.iconst 1, 1) := by decide +kernel
theorem dX12_goesMatch_129 : decode cX12_goesMatch 129 = .ok (.iadd, 1) := by decide +kernel
theorem dX12_goesMatch_130 : decode cX12_goesMatch 130 = .ok (.istore_n 1, 1) := by decide +kernel
theorem dX12_goesMatch_131 : decode cX12_goesMatch 131 = .ok (.iinc 2 1, 3) := by decide +kernel
theorem dX12_goesMatch_134 : decode cX12_goesMatch 134 = .ok (.goto (-125), 3) := by decide +kernel
theorem dX12_goesMatch_137 : decode cX12_goesMatch 137 = .ok (.return_, 1) := by decide +kernel
theorem dX12_match_0 : decode cX12_match 0 = .ok (.aload_n 0, 1) := by decide +kernel
theorem dX12_match_1 : decode cX12_match 1 = .ok (.iconst 0, 1) := by decide +kernel
theorem dX12_match_2 : decode cX12_match 2 = .ok (.putfield 119, 3) := by decide +kernel
theorem dX12_match_5 : decode cX12_match 5 = .ok (.aload_n 0, 1) := by decide +kernel
theorem dX12_match_6 : decode cX12_match 6 = .ok (.iload_n 1, 1) := by decide +kernel
theorem dX12_match_7 : decode cX12_match 7 = .ok (.iconst 0, 1) := by decide +kernel
theorem dX12_match_8 : decode cX12_match 8 = .ok (.iconst 1, 1) := by decide +kernel
theorem dX12_match_9 : decode cX12_match 9 = .ok (.invokestatic 133, 3) := by decide +kernel
theorem dX12_match_12 : decode cX12_match 12 = .ok (.iconst 1, 1) := by decide +kernel
theorem dX12_match_13 : decode cX12_match 13 = .ok (.invokevirtual 148, 3) := by decide +kernel
theorem dX12_match_16 : decode cX12_match 16 = .ok (.ifCond .ne 5, 3) := by decide +kernel
theorem dX12_match_19 : decode cX12_match 19 = .ok (.iconst 0, 1) := by decide +kernel
theorem dX12_match_20 : decode cX12_match 20 = .ok (.ireturn, 1) := by decide +kernel
theorem dX12_match_21 : decode cX12_match 21 = .ok (.aload_n 0, 1) := by decide +kernel
theorem dX12_match_22 : decode cX12_match 22 = .ok (.invokevirtual 341, 3) := by decide +kernel
theorem dX12_match_25 : decode cX12_match 25 = .ok (.iload_n 1, 1) := by decide +kernel
theorem dX12_match_26 : decode cX12_match 26 = .ok (.ifCond .ne 12, 3) := by decide +kernel
theorem dX12_match_29 : decode cX12_match 29 = .ok (.aload_n 0, 1) := by decide +kernel
theorem dX12_match_30 : decode cX12_match 30 = .ok (.getfield 95, 3) := by decide +kernel
theorem dX12_match_33 : decode cX12_match 33 = .ok (.iconst 0, 1) := by decide +kernel
theorem dX12_match_34 : decode cX12_match 34 = .ok (.iaload, 1) := by decide +kernel
theorem dX12_match_35 : decode cX12_match 35 = .ok (.goto 7, 3) := by decide +kernel
theorem dX12_match_38 : decode cX12_match 38 = .ok (.aload_n 0, 1) := by decide +kernel
theorem dX12_match_39 : decode cX12_match 39 = .ok (.getfield 338, 3) := by decide +kernel
theorem dX12_match_42 : decode cX12_match 42 = .ok (.ireturn, 1) := by decide +kernel
theorem dX12_matched_0 : decode cX12_matched 0 = .ok (.aload_n 0, 1) := by decide +kernel
theorem dX12_matched_1 : decode cX12_matched 1 = .ok (.iconst 0, 1) := by decide +kernel
theorem dX12_matched_2 : decode cX12_matched 2 = .ok (.putfield 119, 3) := by decide +kernel
theorem dX12_matched_5 : decode cX12_matched 5 = .ok (.aload_n 0, 1) := by decide +kernel
theorem dX12_matched_6 : decode cX12_matched 6 = .ok (.iload_n 1, 1) := by decide +kernel
theorem dX12_matched_7 : decode cX12_matched 7 = .ok (.iconst 0, 1) := by decide +kernel
theorem dX12_matched_8 : decode cX12_matched 8 = .ok (.aload_n 0, 1) := by decide +kernel
theorem dX12_matched_9 : decode cX12_matched 9 = .ok (.getfield 160, 3) := by decide +kernel
theorem dX12_matched_12 : decode cX12_matched 12 = .ok (.iconst 1, 1) := by decide +kernel
theorem dX12_matched_13 : decode cX12_matched 13 = .ok (.isub, 1) := by decide +kernel
theorem dX12_matched_14 : decode cX12_matched 14 = .ok (.invokestatic 133, 3) := by decide +kernel
theorem dX12_matched_17 : decode cX12_matched 17 = .ok (.iconst 1, 1) := by decide +kernel
theorem dX12_matched_18 : decode cX12_matched 18 = .ok (.invokevirtual 148, 3) := by decide +kernel
theorem dX12_matched_21 : decode cX12_matched 21 = .ok (.ifCond .ne 5, 3) := by decide +kernel
theorem dX12_matched_24 : decode cX12_matched 24 = .ok (.iconst 0, 1) := by decide +kernel
theorem dX12_matched_25 : decode cX12_matched 25 = .ok (.ireturn, 1) := by decide +kernel
theorem dX12_matched_26 : decode cX12_matched 26 = .ok (.aload_n 0, 1) := by decide +kernel
theorem dX12_matched_27 : decode cX12_matched 27 = .ok (.invokevirtual 341, 3) := by decide +kernel
theorem dX12_matched_30 : decode cX12_matched 30 = .ok (.aload_n 0, 1) := by decide +kernel
theorem dX12_matched_31 : decode cX12_matched 31 = .ok (.getfield 98, 3) := by decide +kernel
theorem dX12_matched_34 : decode cX12_matched 34 = .ok (.iload_n 1, 1) := by decide +kernel
theorem dX12_matched_35 : decode cX12_matched 35 = .ok (.iaload, 1) := by decide +kernel
theorem dX12_matched_36 : decode cX12_matched 36 = .ok (.ireturn, 1) := by decide +kernel
theorem dX12_periodAt_0 : decode cX12_periodAt 0 = .ok (.iload_n 2, 1) := by decide +kernel
theorem dX12_periodAt_1 : decode cX12_periodAt 1 = .ok (.aload_n 0, 1) := by decide +kernel
theorem dX12_periodAt_2 : decode cX12_periodAt 2 = .ok (.getfield 7, 3) := by decide +kernel
theorem dX12_periodAt_5 : decode cX12_periodAt 5 = .ok (.iconst 2, 1) := by decide +kernel
theorem dX12_periodAt_6 : decode cX12_periodAt 6 = .ok (.iaload, 1) := by decide +kernel
theorem dX12_periodAt_7 : decode cX12_periodAt 7 = .ok (.idiv, 1) := by decide +kernel
theorem dX12_periodAt_8 : decode cX12_periodAt 8 = .ok (.istore_n 3, 1) := by decide +kernel
theorem dX12_periodAt_9 : decode cX12_periodAt 9 = .ok (.aload_n 0, 1) := by decide +kernel
theorem dX12_periodAt_10 : decode cX12_periodAt 10 = .ok (.getfield 77, 3) := by decide +kernel
theorem dX12_periodAt_13 : decode cX12_periodAt 13 = .ok (.iload_n 1, 1) := by decide +kernel
theorem dX12_periodAt_14 : decode cX12_periodAt 14 = .ok (.iconst 1, 1) := by decide +kernel
theorem dX12_periodAt_15 : decode cX12_periodAt 15 = .ok (.iadd, 1) := by decide +kernel
theorem dX12_periodAt_16 : decode cX12_periodAt 16 = .ok (.iaload, 1) := by decide +kernel
theorem dX12_periodAt_17 : decode cX12_periodAt 17 = .ok (.iconst 1, 1) := by decide +kernel
theorem dX12_periodAt_18 : decode cX12_periodAt 18 = .ok (.isub, 1) := by decide +kernel
theorem dX12_periodAt_19 : decode cX12_periodAt 19 = .ok (.istore 4, 2) := by decide +kernel
theorem dX12_periodAt_21 : decode cX12_periodAt 21 = .ok (.aload_n 0, 1) := by decide +kernel
theorem dX12_periodAt_22 : decode cX12_periodAt 22 = .ok (.iload_n 3, 1) := by decide +kernel
theorem dX12_periodAt_23 : decode cX12_periodAt 23 = .ok (.iload 4, 2) := by decide +kernel
theorem dX12_periodAt_25 : decode cX12_periodAt 25 = .ok (.if_icmp .ge 7, 3) := by decide +kernel
theorem dX12_periodAt_28 : decode cX12_periodAt 28 = .ok (.iload_n 3, 1) := by decide +kernel
theorem dX12_periodAt_29 : decode cX12_periodAt 29 = .ok (.goto 5, 3) := by decide +kernel
theorem dX12_periodAt_32 : decode cX12_periodAt 32 = .ok (.iload 4, 2) := by decide +kernel
theorem dX12_periodAt_34 : decode cX12_periodAt 34 = .ok (.invokevirtual 251, 3) := by decide +kernel
theorem dX12_periodAt_37 : decode cX12_periodAt 37 = .ok (.ireturn, 1) := by decide +kernel
theorem dX12_laysBehind_0 : decode cX12_laysBehind 0 = .ok (.aload_n 0, 1) := by decide +kernel
theorem dX12_laysBehind_1 : decode cX12_laysBehind 1 = .ok (.iload_n 1, 1) := by decide +kernel
theorem dX12_laysBehind_2 : decode cX12_laysBehind 2 = .ok (.iload_n 2, 1) := by decide +kernel
theorem dX12_laysBehind_3 : decode cX12_laysBehind 3 = .ok (.invokevirtual 344, 3) := by decide +kernel
theorem dX12_laysBehind_6 : decode cX12_laysBehind 6 = .ok (.istore_n 3, 1) := by decide +kernel
theorem dX12_laysBehind_7 : decode cX12_laysBehind 7 = .ok (.iload_n 2, 1) := by decide +kernel
theorem dX12_laysBehind_8 : decode cX12_laysBehind 8 = .ok (.iload_n 3, 1) := by decide +kernel
theorem dX12_laysBehind_9 : decode cX12_laysBehind 9 = .ok (.iadd, 1) := by decide +kernel
theorem dX12_laysBehind_10 : decode cX12_laysBehind 10 = .ok (.iload_n 3, 1) := by decide +kernel
theorem dX12_laysBehind_11 : decode cX12_laysBehind 11 = .ok (.iconst 4, 1) := by decide +kernel
theorem dX12_laysBehind_12 : decode cX12_laysBehind 12 = .ok (.idiv, 1) := by decide +kernel
theorem dX12_laysBehind_13 : decode cX12_laysBehind 13 = .ok (.isub, 1) := by decide +kernel
theorem dX12_laysBehind_14 : decode cX12_laysBehind 14 = .ok (.istore 4, 2) := by decide +kernel
theorem dX12_laysBehind_16 : decode cX12_laysBehind 16 = .ok (.iload_n 2, 1) := by decide +kernel
theorem dX12_laysBehind_17 : decode cX12_laysBehind 17 = .ok (.iload_n 3, 1) := by decide +kernel
theorem dX12_laysBehind_18 : decode cX12_laysBehind 18 = .ok (.iadd, 1) := by decide +kernel
theorem dX12_laysBehind_19 : decode cX12_laysBehind 19 = .ok (.iload_n 3, 1) := by decide +kernel
theorem dX12_laysBehind_20 : decode cX12_laysBehind 20 = .ok (.iconst 4, 1) := by decide +kernel
theorem dX12_laysBehind_21 : decode cX12_laysBehind 21 = .ok (.idiv, 1) := by decide +kernel
theorem dX12_laysBehind_22 : decode cX12_laysBehind 22 = .ok (.iadd, 1) := by decide +kernel
theorem dX12_laysBehind_23 : decode cX12_laysBehind 23 = .ok (.aload_n 0, 1) := by decide +kernel
theorem dX12_laysBehind_24 : decode cX12_laysBehind 24 = .ok (.iload_n 1, 1) := by decide +kernel
theorem dX12_laysBehind_25 : decode cX12_laysBehind 25 = .ok (.invokevirtual 302, 3) := by decide +kernel
theorem dX12_laysBehind_28 : decode cX12_laysBehind 28 = .ok (.iconst 1, 1) := by decide +kernel
theorem dX12_laysBehind_29 : decode cX12_laysBehind 29 = .ok (.isub, 1) := by decide +kernel
theorem dX12_laysBehind_30 : decode cX12_laysBehind 30 = .ok (.invokestatic 329, 3) := by decide +kernel
theorem dX12_laysBehind_33 : decode cX12_laysBehind 33 = .ok (.istore 5, 2) := by decide +kernel
theorem dX12_laysBehind_35 : decode cX12_laysBehind 35 = .ok (.iconst (-1), 1) := by decide +kernel
theorem dX12_laysBehind_36 : decode cX12_laysBehind 36 = .ok (.istore 6, 2) := by decide +kernel
theorem dX12_laysBehind_38 : decode cX12_laysBehind 38 = .ok (.iconst 0, 1) := by decide +kernel
theorem dX12_laysBehind_39 : decode cX12_laysBehind 39 = .ok (.istore 7, 2) := by decide +kernel
theorem dX12_laysBehind_41 : decode cX12_laysBehind 41 = .ok (.iload 4, 2) := by decide +kernel
theorem dX12_laysBehind_43 : decode cX12_laysBehind 43 = .ok (.istore 8, 2) := by decide +kernel
theorem dX12_laysBehind_45 : decode cX12_laysBehind 45 = .ok (.iload 8, 2) := by decide +kernel
theorem dX12_laysBehind_47 : decode cX12_laysBehind 47 = .ok (.iload 5, 2) := by decide +kernel
theorem dX12_laysBehind_49 : decode cX12_laysBehind 49 = .ok (.if_icmp .gt 56, 3) := by decide +kernel
theorem dX12_laysBehind_52 : decode cX12_laysBehind 52 = .ok (.aload_n 0, 1) := by decide +kernel
theorem dX12_laysBehind_53 : decode cX12_laysBehind 53 = .ok (.getfield 101, 3) := by decide +kernel
theorem dX12_laysBehind_56 : decode cX12_laysBehind 56 = .ok (.iload 8, 2) := by decide +kernel
theorem dX12_laysBehind_58 : decode cX12_laysBehind 58 = .ok (.iaload, 1) := by decide +kernel
theorem dX12_laysBehind_59 : decode cX12_laysBehind 59 = .ok (.aload_n 0, 1) := by decide +kernel
theorem dX12_laysBehind_60 : decode cX12_laysBehind 60 = .ok (.getfield 7, 3) := by decide +kernel
theorem dX12_laysBehind_63 : decode cX12_laysBehind 63 = .ok (.bipush 13, 2) := by decide +kernel
theorem dX12_laysBehind_65 : decode cX12_laysBehind 65 = .ok (.iaload, 1) := by decide +kernel
theorem dX12_laysBehind_66 : decode cX12_laysBehind 66 = .ok (.iload 8, 2) := by decide +kernel
theorem dX12_laysBehind_68 : decode cX12_laysBehind 68 = .ok (.iload_n 2, 1) := by decide +kernel
theorem dX12_laysBehind_69 : decode cX12_laysBehind 69 = .ok (.isub, 1) := by decide +kernel
theorem dX12_laysBehind_70 : decode cX12_laysBehind 70 = .ok (.iload_n 3, 1) := by decide +kernel
theorem dX12_laysBehind_71 : decode cX12_laysBehind 71 = .ok (.invokestatic 163, 3) := by decide +kernel
theorem dX12_laysBehind_74 : decode cX12_laysBehind 74 = .ok (.imul, 1) := by decide +kernel
theorem dX12_laysBehind_75 : decode cX12_laysBehind 75 = .ok (.isub, 1) := by decide +kernel
theorem dX12_laysBehind_76 : decode cX12_laysBehind 76 = .ok (.istore 9, 2) := by decide +kernel
theorem dX12_laysBehind_78 : decode cX12_laysBehind 78 = .ok (.iload 6, 2) := by decide +kernel
theorem dX12_laysBehind_80 : decode cX12_laysBehind 80 = .ok (.iconst (-1), 1) := by decide +kernel
theorem dX12_laysBehind_81 : decode cX12_laysBehind 81 = .ok (.if_icmp .eq 10, 3) := by decide +kernel
theorem dX12_laysBehind_84 : decode cX12_laysBehind 84 = .ok (.iload 9, 2) := by decide +kernel
theorem dX12_laysBehind_86 : decode cX12_laysBehind 86 = .ok (.iload 7, 2) := by decide +kernel
theorem dX12_laysBehind_88 : decode cX12_laysBehind 88 = .ok (.if_icmp .le 11, 3) := by decide +kernel
theorem dX12_laysBehind_91 : decode cX12_laysBehind 91 = .ok (.iload 8, 2) := by decide +kernel
theorem dX12_laysBehind_93 : decode cX12_laysBehind 93 = .ok (.istore 6, 2) := by decide +kernel
theorem dX12_laysBehind_95 : decode cX12_laysBehind 95 = .ok (.iload 9, 2) := by decide +kernel
theorem dX12_laysBehind_97 : decode cX12_laysBehind 97 = .ok (.istore 7, 2) := by decide +kernel
theorem dX12_laysBehind_99 : decode cX12_laysBehind 99 = .ok (.iinc 8 1, 3) := by decide +kernel
theorem dX12_laysBehind_102 : decode cX12_laysBehind 102 = .ok (.goto (-57), 3) := by decide +kernel
theorem dX12_laysBehind_105 : decode cX12_laysBehind 105 = .ok (.aload_n 0, 1) := by decide +kernel
theorem dX12_laysBehind_106 : decode cX12_laysBehind 106 = .ok (.getfield 104, 3) := by decide +kernel
theorem dX12_laysBehind_109 : decode cX12_laysBehind 109 = .ok (.iload_n 2, 1) := by decide +kernel
theorem dX12_laysBehind_110 : decode cX12_laysBehind 110 = .ok (.iload 6, 2) := by decide +kernel
theorem dX12_laysBehind_112 : decode cX12_laysBehind 112 = .ok (.iastore, 1) := by decide +kernel
theorem dX12_laysBehind_113 : decode cX12_laysBehind 113 = .ok (.aload_n 0, 1) := by decide +kernel
theorem dX12_laysBehind_114 : decode cX12_laysBehind 114 = .ok (.getfield 101, 3) := by decide +kernel
theorem dX12_laysBehind_117 : decode cX12_laysBehind 117 = .ok (.iload_n 2, 1) := by decide +kernel
theorem dX12_laysBehind_118 : decode cX12_laysBehind 118 = .ok (.aload_n 0, 1) := by decide +kernel
theorem dX12_laysBehind_119 : decode cX12_laysBehind 119 = .ok (.getfield 19, 3) := by decide +kernel
theorem dX12_laysBehind_122 : decode cX12_laysBehind 122 = .ok (.iload_n 2, 1) := by decide +kernel
theorem dX12_laysBehind_123 : decode cX12_laysBehind 123 = .ok (.iaload, 1) := by decide +kernel
theorem dX12_laysBehind_124 : decode cX12_laysBehind 124 = .ok (.iload 7, 2) := by decide +kernel
theorem dX12_laysBehind_126 : decode cX12_laysBehind 126 = .ok (.iadd, 1) := by decide +kernel
theorem dX12_laysBehind_127 : decode cX12_laysBehind 127 = .ok (.iastore, 1) := by decide +kernel
theorem dX12_laysBehind_128 : decode cX12_laysBehind 128 = .ok (.return_, 1) := by decide +kernel
theorem dX12_marksOf_0 : decode cX12_marksOf 0 = .ok (.aload_n 0, 1) := by decide +kernel
theorem dX12_marksOf_1 : decode cX12_marksOf 1 = .ok (.iload_n 1, 1) := by decide +kernel
theorem dX12_marksOf_2 : decode cX12_marksOf 2 = .ok (.invokevirtual 299, 3) := by decide +kernel
theorem dX12_marksOf_5 : decode cX12_marksOf 5 = .ok (.istore_n 2, 1) := by decide +kernel
theorem dX12_marksOf_6 : decode cX12_marksOf 6 = .ok (.aload_n 0, 1) := by decide +kernel
theorem dX12_marksOf_7 : decode cX12_marksOf 7 = .ok (.iload_n 1, 1) := by decide +kernel
theorem dX12_marksOf_8 : decode cX12_marksOf 8 = .ok (.invokevirtual 302, 3) := by decide +kernel
theorem dX12_marksOf_11 : decode cX12_marksOf 11 = .ok (.istore_n 3, 1) := by decide +kernel
theorem dX12_marksOf_12 : decode cX12_marksOf 12 = .ok (.iload_n 3, 1) := by decide +kernel
theorem dX12_marksOf_13 : decode cX12_marksOf 13 = .ok (.iconst 1, 1) := by decide +kernel
theorem dX12_marksOf_14 : decode cX12_marksOf 14 = .ok (.isub, 1) := by decide +kernel
theorem dX12_marksOf_15 : decode cX12_marksOf 15 = .ok (.istore 4, 2) := by decide +kernel
theorem dX12_marksOf_17 : decode cX12_marksOf 17 = .ok (.iload 4, 2) := by decide +kernel
theorem dX12_marksOf_19 : decode cX12_marksOf 19 = .ok (.iload_n 2, 1) := by decide +kernel
theorem dX12_marksOf_20 : decode cX12_marksOf 20 = .ok (.if_icmp .lt 16, 3) := by decide +kernel
theorem dX12_marksOf_23 : decode cX12_marksOf 23 = .ok (.aload_n 0, 1) := by decide +kernel
theorem dX12_marksOf_24 : decode cX12_marksOf 24 = .ok (.iload_n 1, 1) := by decide +kernel
theorem dX12_marksOf_25 : decode cX12_marksOf 25 = .ok (.iload 4, 2) := by decide +kernel
theorem dX12_marksOf_27 : decode cX12_marksOf 27 = .ok (.invokevirtual 347, 3) := by decide +kernel
theorem dX12_marksOf_30 : decode cX12_marksOf 30 = .ok (.iinc 4 (-1), 3) := by decide +kernel
theorem dX12_marksOf_33 : decode cX12_marksOf 33 = .ok (.goto (-16), 3) := by decide +kernel
theorem dX12_marksOf_36 : decode cX12_marksOf 36 = .ok (.iload_n 2, 1) := by decide +kernel
theorem dX12_marksOf_37 : decode cX12_marksOf 37 = .ok (.istore 4, 2) := by decide +kernel
theorem dX12_marksOf_39 : decode cX12_marksOf 39 = .ok (.iload_n 2, 1) := by decide +kernel
theorem dX12_marksOf_40 : decode cX12_marksOf 40 = .ok (.istore 5, 2) := by decide +kernel
theorem dX12_marksOf_42 : decode cX12_marksOf 42 = .ok (.iload 5, 2) := by decide +kernel
theorem dX12_marksOf_44 : decode cX12_marksOf 44 = .ok (.iload_n 2, 1) := by decide +kernel
theorem dX12_marksOf_45 : decode cX12_marksOf 45 = .ok (.aload_n 0, 1) := by decide +kernel
theorem dX12_marksOf_46 : decode cX12_marksOf 46 = .ok (.iload_n 1, 1) := by decide +kernel
theorem dX12_marksOf_47 : decode cX12_marksOf 47 = .ok (.iload_n 2, 1) := by decide +kernel
theorem dX12_marksOf_48 : decode cX12_marksOf 48 = .ok (.invokevirtual 344, 3) := by decide +kernel
theorem dX12_marksOf_51 : decode cX12_marksOf 51 = .ok (.iadd, 1) := by decide +kernel
theorem dX12_marksOf_52 : decode cX12_marksOf 52 = .ok (.iload_n 3, 1) := by decide +kernel
theorem dX12_marksOf_53 : decode cX12_marksOf 53 = .ok (.invokestatic 329, 3) := by decide +kernel
theorem dX12_marksOf_56 : decode cX12_marksOf 56 = .ok (.if_icmp .ge 35, 3) := by decide +kernel
theorem dX12_marksOf_59 : decode cX12_marksOf 59 = .ok (.aload_n 0, 1) := by decide +kernel
theorem dX12_marksOf_60 : decode cX12_marksOf 60 = .ok (.getfield 101, 3) := by decide +kernel
theorem dX12_marksOf_63 : decode cX12_marksOf 63 = .ok (.iload 5, 2) := by decide +kernel
theorem dX12_marksOf_65 : decode cX12_marksOf 65 = .ok (.iaload, 1) := by decide +kernel
theorem dX12_marksOf_66 : decode cX12_marksOf 66 = .ok (.aload_n 0, 1) := by decide +kernel
theorem dX12_marksOf_67 : decode cX12_marksOf 67 = .ok (.getfield 101, 3) := by decide +kernel
theorem dX12_marksOf_70 : decode cX12_marksOf 70 = .ok (.iload 4, 2) := by decide +kernel
theorem dX12_marksOf_72 : decode cX12_marksOf 72 = .ok (.iaload, 1) := by decide +kernel
theorem dX12_marksOf_73 : decode cX12_marksOf 73 = .ok (.if_icmp .le 8, 3) := by decide +kernel
theorem dX12_marksOf_76 : decode cX12_marksOf 76 = .ok (.iload 5, 2) := by decide +kernel
theorem dX12_marksOf_78 : decode cX12_marksOf 78 = .ok (.goto 5, 3) := by decide +kernel
theorem dX12_marksOf_81 : decode cX12_marksOf 81 = .ok (.iload 4, 2) := by decide +kernel
theorem dX12_marksOf_83 : decode cX12_marksOf 83 = .ok (.istore 4, 2) := by decide +kernel
theorem dX12_marksOf_85 : decode cX12_marksOf 85 = .ok (.iinc 5 1, 3) := by decide +kernel
theorem dX12_marksOf_88 : decode cX12_marksOf 88 = .ok (.goto (-46), 3) := by decide +kernel
theorem dX12_marksOf_91 : decode cX12_marksOf 91 = .ok (.aload_n 0, 1) := by decide +kernel
theorem dX12_marksOf_92 : decode cX12_marksOf 92 = .ok (.getfield 116, 3) := by decide +kernel
theorem dX12_marksOf_95 : decode cX12_marksOf 95 = .ok (.iload_n 1, 1) := by decide +kernel
theorem dX12_marksOf_96 : decode cX12_marksOf 96 = .ok (.aload_n 0, 1) := by decide +kernel
theorem dX12_marksOf_97 : decode cX12_marksOf 97 = .ok (.getfield 101, 3) := by decide +kernel
theorem dX12_marksOf_100 : decode cX12_marksOf 100 = .ok (.iload 4, 2) := by decide +kernel
theorem dX12_marksOf_102 : decode cX12_marksOf 102 = .ok (.iaload, 1) := by decide +kernel
theorem dX12_marksOf_103 : decode cX12_marksOf 103 = .ok (.iastore, 1) := by decide +kernel
theorem dX12_marksOf_104 : decode cX12_marksOf 104 = .ok (.iload 4, 2) := by decide +kernel
theorem dX12_marksOf_106 : decode cX12_marksOf 106 = .ok (.istore 5, 2) := by decide +kernel
theorem dX12_marksOf_108 : decode cX12_marksOf 108 = .ok (.iload 5, 2) := by decide +kernel
theorem dX12_marksOf_110 : decode cX12_marksOf 110 = .ok (.iconst (-1), 1) := by decide +kernel
theorem dX12_marksOf_111 : decode cX12_marksOf 111 = .ok (.if_icmp .eq 46, 3) := by decide +kernel
theorem dX12_marksOf_114 : decode cX12_marksOf 114 = .ok (.aload_n 0, 1) := by decide +kernel
theorem dX12_marksOf_115 : decode cX12_marksOf 115 = .ok (.getfield 107, 3) := by decide +kernel
theorem dX12_marksOf_118 : decode cX12_marksOf 118 = .ok (.aload_n 0, 1) := by decide +kernel
theorem dX12_marksOf_119 : decode cX12_marksOf 119 = .ok (.getfield 350, 3) := by decide +kernel
theorem dX12_marksOf_122 : decode cX12_marksOf 122 = .ok (.iload 5, 2) := by decide +kernel
theorem dX12_marksOf_124 : decode cX12_marksOf 124 = .ok (.iastore, 1) := by decide +kernel
theorem dX12_marksOf_125 : decode cX12_marksOf 125 = .ok (.aload_n 0, 1) := by decide +kernel
theorem dX12_marksOf_126 : decode cX12_marksOf 126 = .ok (.getfield 110, 3) := by decide +kernel
theorem dX12_marksOf_129 : decode cX12_marksOf 129 = .ok (.aload_n 0, 1) := by decide +kernel
theorem dX12_marksOf_130 : decode cX12_marksOf 130 = .ok (.getfield 350, 3) := by decide +kernel
theorem dX12_marksOf_133 : decode cX12_marksOf 133 = .ok (.iload_n 1, 1) := by decide +kernel
theorem dX12_marksOf_134 : decode cX12_marksOf 134 = .ok (.iastore, 1) := by decide +kernel
theorem dX12_marksOf_135 : decode cX12_marksOf 135 = .ok (.aload_n 0, 1) := by decide +kernel
theorem dX12_marksOf_136 : decode cX12_marksOf 136 = .ok (.dup, 1) := by decide +kernel
theorem dX12_marksOf_137 : decode cX12_marksOf 137 = .ok (.getfield 350, 3) := by decide +kernel
theorem dX12_marksOf_140 : decode cX12_marksOf 140 = .ok (.iconst 1, 1) := by decide +kernel
theorem dX12_marksOf_141 : decode cX12_marksOf 141 = .ok (.iadd, 1) := by decide +kernel
theorem dX12_marksOf_142 : decode cX12_marksOf 142 = .ok (.putfield 350, 3) := by decide +kernel
theorem dX12_marksOf_145 : decode cX12_marksOf 145 = .ok (.aload_n 0, 1) := by decide +kernel
theorem dX12_marksOf_146 : decode cX12_marksOf 146 = .ok (.getfield 104, 3) := by decide +kernel
theorem dX12_marksOf_149 : decode cX12_marksOf 149 = .ok (.iload 5, 2) := by decide +kernel
theorem dX12_marksOf_151 : decode cX12_marksOf 151 = .ok (.iaload, 1) := by decide +kernel
theorem dX12_marksOf_152 : decode cX12_marksOf 152 = .ok (.istore 5, 2) := by decide +kernel
theorem dX12_marksOf_154 : decode cX12_marksOf 154 = .ok (.goto (-46), 3) := by decide +kernel
theorem dX12_marksOf_157 : decode cX12_marksOf 157 = .ok (.return_, 1) := by decide +kernel
theorem dX12_laysMarks_0 : decode cX12_laysMarks 0 = .ok (.aload_n 0, 1) := by decide +kernel
theorem dX12_laysMarks_1 : decode cX12_laysMarks 1 = .ok (.invokevirtual 290, 3) := by decide +kernel
theorem dX12_laysMarks_4 : decode cX12_laysMarks 4 = .ok (.aload_n 0, 1) := by decide +kernel
theorem dX12_laysMarks_5 : decode cX12_laysMarks 5 = .ok (.iconst 0, 1) := by decide +kernel
theorem dX12_laysMarks_6 : decode cX12_laysMarks 6 = .ok (.putfield 350, 3) := by decide +kernel
theorem dX12_laysMarks_9 : decode cX12_laysMarks 9 = .ok (.iconst 0, 1) := by decide +kernel
theorem dX12_laysMarks_10 : decode cX12_laysMarks 10 = .ok (.istore_n 1, 1) := by decide +kernel
theorem dX12_laysMarks_11 : decode cX12_laysMarks 11 = .ok (.iload_n 1, 1) := by decide +kernel
theorem dX12_laysMarks_12 : decode cX12_laysMarks 12 = .ok (.aload_n 0, 1) := by decide +kernel
theorem dX12_laysMarks_13 : decode cX12_laysMarks 13 = .ok (.getfield 287, 3) := by decide +kernel
theorem dX12_laysMarks_16 : decode cX12_laysMarks 16 = .ok (.if_icmp .ge 39, 3) := by decide +kernel
theorem dX12_laysMarks_19 : decode cX12_laysMarks 19 = .ok (.aload_n 0, 1) := by decide +kernel
theorem dX12_laysMarks_20 : decode cX12_laysMarks 20 = .ok (.getfield 113, 3) := by decide +kernel
theorem dX12_laysMarks_23 : decode cX12_laysMarks 23 = .ok (.iload_n 1, 1) := by decide +kernel
theorem dX12_laysMarks_24 : decode cX12_laysMarks 24 = .ok (.aload_n 0, 1) := by decide +kernel
theorem dX12_laysMarks_25 : decode cX12_laysMarks 25 = .ok (.getfield 350, 3) := by decide +kernel
theorem dX12_laysMarks_28 : decode cX12_laysMarks 28 = .ok (.iastore, 1) := by decide +kernel
theorem dX12_laysMarks_29 : decode cX12_laysMarks 29 = .ok (.aload_n 0, 1) := by decide +kernel
theorem dX12_laysMarks_30 : decode cX12_laysMarks 30 = .ok (.getfield 116, 3) := by decide +kernel
theorem dX12_laysMarks_33 : decode cX12_laysMarks 33 = .ok (.iload_n 1, 1) := by decide +kernel
theorem dX12_laysMarks_34 : decode cX12_laysMarks 34 = .ok (.iconst 0, 1) := by decide +kernel
theorem dX12_laysMarks_35 : decode cX12_laysMarks 35 = .ok (.iastore, 1) := by decide +kernel
theorem dX12_laysMarks_36 : decode cX12_laysMarks 36 = .ok (.aload_n 0, 1) := by decide +kernel
theorem dX12_laysMarks_37 : decode cX12_laysMarks 37 = .ok (.iload_n 1, 1) := by decide +kernel
theorem dX12_laysMarks_38 : decode cX12_laysMarks 38 = .ok (.invokevirtual 296, 3) := by decide +kernel
theorem dX12_laysMarks_41 : decode cX12_laysMarks 41 = .ok (.ifCond .eq 8, 3) := by decide +kernel
theorem dX12_laysMarks_44 : decode cX12_laysMarks 44 = .ok (.aload_n 0, 1) := by decide +kernel
theorem dX12_laysMarks_45 : decode cX12_laysMarks 45 = .ok (.iload_n 1, 1) := by decide +kernel
theorem dX12_laysMarks_46 : decode cX12_laysMarks 46 = .ok (.invokevirtual 353, 3) := by decide +kernel
theorem dX12_laysMarks_49 : decode cX12_laysMarks 49 = .ok (.iinc 1 1, 3) := by decide +kernel
theorem dX12_laysMarks_52 : decode cX12_laysMarks 52 = .ok (.goto (-41), 3) := by decide +kernel
theorem dX12_laysMarks_55 : decode cX12_laysMarks 55 = .ok (.aload_n 0, 1) := by decide +kernel
theorem dX12_laysMarks_56 : decode cX12_laysMarks 56 = .ok (.getfield 113, 3) := by decide +kernel
theorem dX12_laysMarks_59 : decode cX12_laysMarks 59 = .ok (.aload_n 0, 1) := by decide +kernel
theorem dX12_laysMarks_60 : decode cX12_laysMarks 60 = .ok (.getfield 287, 3) := by decide +kernel
theorem dX12_laysMarks_63 : decode cX12_laysMarks 63 = .ok (.aload_n 0, 1) := by decide +kernel
theorem dX12_laysMarks_64 : decode cX12_laysMarks 64 = .ok (.getfield 350, 3) := by decide +kernel
theorem dX12_laysMarks_67 : decode cX12_laysMarks 67 = .ok (.iastore, 1) := by decide +kernel
theorem dX12_laysMarks_68 : decode cX12_laysMarks 68 = .ok (.return_, 1) := by decide +kernel
theorem dX12_marks_0 : decode cX12_marks 0 = .ok (.aload_n 0, 1) := by decide +kernel
theorem dX12_marks_1 : decode cX12_marks 1 = .ok (.iconst 0, 1) := by decide +kernel
theorem dX12_marks_2 : decode cX12_marks 2 = .ok (.putfield 119, 3) := by decide +kernel
theorem dX12_marks_5 : decode cX12_marks 5 = .ok (.aload_n 0, 1) := by decide +kernel
theorem dX12_marks_6 : decode cX12_marks 6 = .ok (.invokevirtual 293, 3) := by decide +kernel
theorem dX12_marks_9 : decode cX12_marks 9 = .ok (.aload_n 0, 1) := by decide +kernel
theorem dX12_marks_10 : decode cX12_marks 10 = .ok (.getfield 350, 3) := by decide +kernel
theorem dX12_marks_13 : decode cX12_marks 13 = .ok (.ireturn, 1) := by decide +kernel
theorem dX12_mark_0 : decode cX12_mark 0 = .ok (.aload_n 0, 1) := by decide +kernel
theorem dX12_mark_1 : decode cX12_mark 1 = .ok (.iconst 0, 1) := by decide +kernel
theorem dX12_mark_2 : decode cX12_mark 2 = .ok (.putfield 119, 3) := by decide +kernel
theorem dX12_mark_5 : decode cX12_mark 5 = .ok (.aload_n 0, 1) := by decide +kernel
theorem dX12_mark_6 : decode cX12_mark 6 = .ok (.invokevirtual 293, 3) := by decide +kernel
theorem dX12_mark_9 : decode cX12_mark 9 = .ok (.aload_n 0, 1) := by decide +kernel
theorem dX12_mark_10 : decode cX12_mark 10 = .ok (.iload_n 1, 1) := by decide +kernel
theorem dX12_mark_11 : decode cX12_mark 11 = .ok (.iconst 0, 1) := by decide +kernel
theorem dX12_mark_12 : decode cX12_mark 12 = .ok (.aload_n 0, 1) := by decide +kernel
theorem dX12_mark_13 : decode cX12_mark 13 = .ok (.getfield 350, 3) := by decide +kernel
theorem dX12_mark_16 : decode cX12_mark 16 = .ok (.iconst 1, 1) := by decide +kernel
theorem dX12_mark_17 : decode cX12_mark 17 = .ok (.isub, 1) := by decide +kernel
theorem dX12_mark_18 : decode cX12_mark 18 = .ok (.invokestatic 133, 3) := by decide +kernel
theorem dX12_mark_21 : decode cX12_mark 21 = .ok (.iconst 1, 1) := by decide +kernel
theorem dX12_mark_22 : decode cX12_mark 22 = .ok (.invokevirtual 148, 3) := by decide +kernel
theorem dX12_mark_25 : decode cX12_mark 25 = .ok (.ifCond .eq 12, 3) := by decide +kernel
theorem dX12_mark_28 : decode cX12_mark 28 = .ok (.aload_n 0, 1) := by decide +kernel
theorem dX12_mark_29 : decode cX12_mark 29 = .ok (.getfield 107, 3) := by decide +kernel
theorem dX12_mark_32 : decode cX12_mark 32 = .ok (.iload_n 1, 1) := by decide +kernel
theorem dX12_mark_33 : decode cX12_mark 33 = .ok (.iaload, 1) := by decide +kernel
theorem dX12_mark_34 : decode cX12_mark 34 = .ok (.goto 4, 3) := by decide +kernel
theorem dX12_mark_37 : decode cX12_mark 37 = .ok (.iconst 0, 1) := by decide +kernel
theorem dX12_mark_38 : decode cX12_mark 38 = .ok (.ireturn, 1) := by decide +kernel
theorem dX12_off_0 : decode cX12_off 0 = .ok (.lload_n 0, 1) := by decide +kernel
theorem dX12_off_1 : decode cX12_off 1 = .ok (.lload_n 2, 1) := by decide +kernel
theorem dX12_off_2 : decode cX12_off 2 = .ok (.lcmp, 1) := by decide +kernel
theorem dX12_off_3 : decode cX12_off 3 = .ok (.ifCond .le 9, 3) := by decide +kernel
theorem dX12_off_6 : decode cX12_off 6 = .ok (.lload_n 0, 1) := by decide +kernel
theorem dX12_off_7 : decode cX12_off 7 = .ok (.lload_n 2, 1) := by decide +kernel
theorem dX12_off_8 : decode cX12_off 8 = .ok (.lsub, 1) := by decide +kernel
theorem dX12_off_9 : decode cX12_off 9 = .ok (.goto 6, 3) := by decide +kernel
theorem dX12_off_12 : decode cX12_off 12 = .ok (.lload_n 2, 1) := by decide +kernel
theorem dX12_off_13 : decode cX12_off 13 = .ok (.lload_n 0, 1) := by decide +kernel
theorem dX12_off_14 : decode cX12_off 14 = .ok (.lsub, 1) := by decide +kernel
theorem dX12_off_15 : decode cX12_off 15 = .ok (.lreturn, 1) := by decide +kernel
theorem dX12_near_0 : decode cX12_near 0 = .ok (.aload_n 0, 1) := by decide +kernel
theorem dX12_near_1 : decode cX12_near 1 = .ok (.iconst 0, 1) := by decide +kernel
theorem dX12_near_2 : decode cX12_near 2 = .ok (.putfield 119, 3) := by decide +kernel
theorem dX12_near_5 : decode cX12_near 5 = .ok (.aload_n 0, 1) := by decide +kernel
theorem dX12_near_6 : decode cX12_near 6 = .ok (.invokevirtual 293, 3) := by decide +kernel
theorem dX12_near_9 : decode cX12_near 9 = .ok (.iconst (-1), 1) := by decide +kernel
theorem dX12_near_10 : decode cX12_near 10 = .ok (.istore_n 2, 1) := by decide +kernel
theorem dX12_near_11 : decode cX12_near 11 = .ok (.iconst 0, 1) := by decide +kernel
theorem dX12_near_12 : decode cX12_near 12 = .ok (.istore_n 3, 1) := by decide +kernel
theorem dX12_near_13 : decode cX12_near 13 = .ok (.iload_n 3, 1) := by decide +kernel
theorem dX12_near_14 : decode cX12_near 14 = .ok (.aload_n 0, 1) := by decide +kernel
theorem dX12_near_15 : decode cX12_near 15 = .ok (.getfield 350, 3) := by decide +kernel
theorem dX12_near_18 : decode cX12_near 18 = .ok (.if_icmp .ge 44, 3) := by decide +kernel
theorem dX12_near_21 : decode cX12_near 21 = .ok (.iload_n 2, 1) := by decide +kernel
theorem dX12_near_22 : decode cX12_near 22 = .ok (.iconst (-1), 1) := by decide +kernel
theorem dX12_near_23 : decode cX12_near 23 = .ok (.if_icmp .eq 31, 3) := by decide +kernel
theorem dX12_near_26 : decode cX12_near 26 = .ok (.aload_n 0, 1) := by decide +kernel
theorem dX12_near_27 : decode cX12_near 27 = .ok (.getfield 107, 3) := by decide +kernel
theorem dX12_near_30 : decode cX12_near 30 = .ok (.iload_n 3, 1) := by decide +kernel
theorem dX12_near_31 : decode cX12_near 31 = .ok (.iaload, 1) := by decide +kernel
theorem dX12_near_32 : decode cX12_near 32 = .ok (.i2l, 1) := by decide +kernel
theorem dX12_near_33 : decode cX12_near 33 = .ok (.iload_n 1, 1) := by decide +kernel
theorem dX12_near_34 : decode cX12_near 34 = .ok (.i2l, 1) := by decide +kernel
theorem dX12_near_35 : decode cX12_near 35 = .ok (.invokestatic 356, 3) := by decide +kernel
theorem dX12_near_38 : decode cX12_near 38 = .ok (.aload_n 0, 1) := by decide +kernel
theorem dX12_near_39 : decode cX12_near 39 = .ok (.getfield 107, 3) := by decide +kernel
theorem dX12_near_42 : decode cX12_near 42 = .ok (.iload_n 2, 1) := by decide +kernel
theorem dX12_near_43 : decode cX12_near 43 = .ok (.iaload, 1) := by decide +kernel
theorem dX12_near_44 : decode cX12_near 44 = .ok (.i2l, 1) := by decide +kernel
theorem dX12_near_45 : decode cX12_near 45 = .ok (.iload_n 1, 1) := by decide +kernel
theorem dX12_near_46 : decode cX12_near 46 = .ok (.i2l, 1) := by decide +kernel
theorem dX12_near_47 : decode cX12_near 47 = .ok (.invokestatic 356, 3) := by decide +kernel
theorem dX12_near_50 : decode cX12_near 50 = .ok (.lcmp, 1) := by decide +kernel
theorem dX12_near_51 : decode cX12_near 51 = .ok (.ifCond .ge 5, 3) := by decide +kernel
theorem dX12_near_54 : decode cX12_near 54 = .ok (.iload_n 3, 1) := by decide +kernel
theorem dX12_near_55 : decode cX12_near 55 = .ok (.istore_n 2, 1) := by decide +kernel
theorem dX12_near_56 : decode cX12_near 56 = .ok (.iinc 3 1, 3) := by decide +kernel
theorem dX12_near_59 : decode cX12_near 59 = .ok (.goto (-46), 3) := by decide +kernel
theorem dX12_near_62 : decode cX12_near 62 = .ok (.iload_n 2, 1) := by decide +kernel
theorem dX12_near_63 : decode cX12_near 63 = .ok (.iconst (-1), 1) := by decide +kernel
theorem dX12_near_64 : decode cX12_near 64 = .ok (.if_icmp .ne 7, 3) := by decide +kernel
theorem dX12_near_67 : decode cX12_near 67 = .ok (.iconst (-1), 1) := by decide +kernel
theorem dX12_near_68 : decode cX12_near 68 = .ok (.goto 9, 3) := by decide +kernel
theorem dX12_near_71 : decode cX12_near 71 = .ok (.aload_n 0, 1) := by decide +kernel
theorem dX12_near_72 : decode cX12_near 72 = .ok (.getfield 107, 3) := by decide +kernel
theorem dX12_near_75 : decode cX12_near 75 = .ok (.iload_n 2, 1) := by decide +kernel
theorem dX12_near_76 : decode cX12_near 76 = .ok (.iaload, 1) := by decide +kernel
theorem dX12_near_77 : decode cX12_near 77 = .ok (.ireturn, 1) := by decide +kernel
theorem dX12_behind_0 : decode cX12_behind 0 = .ok (.aload_n 0, 1) := by decide +kernel
theorem dX12_behind_1 : decode cX12_behind 1 = .ok (.iconst 0, 1) := by decide +kernel
theorem dX12_behind_2 : decode cX12_behind 2 = .ok (.putfield 119, 3) := by decide +kernel
theorem dX12_behind_5 : decode cX12_behind 5 = .ok (.aload_n 0, 1) := by decide +kernel
theorem dX12_behind_6 : decode cX12_behind 6 = .ok (.invokevirtual 293, 3) := by decide +kernel
theorem dX12_behind_9 : decode cX12_behind 9 = .ok (.iconst 0, 1) := by decide +kernel
theorem dX12_behind_10 : decode cX12_behind 10 = .ok (.istore_n 2, 1) := by decide +kernel
theorem dX12_behind_11 : decode cX12_behind 11 = .ok (.iload_n 2, 1) := by decide +kernel
theorem dX12_behind_12 : decode cX12_behind 12 = .ok (.aload_n 0, 1) := by decide +kernel
theorem dX12_behind_13 : decode cX12_behind 13 = .ok (.getfield 350, 3) := by decide +kernel
theorem dX12_behind_16 : decode cX12_behind 16 = .ok (.if_icmp .ge 26, 3) := by decide +kernel
theorem dX12_behind_19 : decode cX12_behind 19 = .ok (.aload_n 0, 1) := by decide +kernel
theorem dX12_behind_20 : decode cX12_behind 20 = .ok (.getfield 107, 3) := by decide +kernel
theorem dX12_behind_23 : decode cX12_behind 23 = .ok (.iload_n 2, 1) := by decide +kernel
theorem dX12_behind_24 : decode cX12_behind 24 = .ok (.iaload, 1) := by decide +kernel
theorem dX12_behind_25 : decode cX12_behind 25 = .ok (.iload_n 1, 1) := by decide +kernel
theorem dX12_behind_26 : decode cX12_behind 26 = .ok (.if_icmp .le 10, 3) := by decide +kernel
theorem dX12_behind_29 : decode cX12_behind 29 = .ok (.aload_n 0, 1) := by decide +kernel
theorem dX12_behind_30 : decode cX12_behind 30 = .ok (.getfield 107, 3) := by decide +kernel
theorem dX12_behind_33 : decode cX12_behind 33 = .ok (.iload_n 2, 1) := by decide +kernel
theorem dX12_behind_34 : decode cX12_behind 34 = .ok (.iaload, 1) := by decide +kernel
theorem dX12_behind_35 : decode cX12_behind 35 = .ok (.ireturn, 1) := by decide +kernel
theorem dX12_behind_36 : decode cX12_behind 36 = .ok (.iinc 2 1, 3) := by decide +kernel
theorem dX12_behind_39 : decode cX12_behind 39 = .ok (.goto (-28), 3) := by decide +kernel
theorem dX12_behind_42 : decode cX12_behind 42 = .ok (.iconst (-1), 1) := by decide +kernel
theorem dX12_behind_43 : decode cX12_behind 43 = .ok (.ireturn, 1) := by decide +kernel
theorem dX12_hasGap_0 : decode cX12_hasGap 0 = .ok (.iload_n 1, 1) := by decide +kernel
theorem dX12_hasGap_1 : decode cX12_hasGap 1 = .ok (.iconst 1, 1) := by decide +kernel
theorem dX12_hasGap_2 : decode cX12_hasGap 2 = .ok (.iadd, 1) := by decide +kernel
theorem dX12_hasGap_3 : decode cX12_hasGap 3 = .ok (.aload_n 0, 1) := by decide +kernel
theorem dX12_hasGap_4 : decode cX12_hasGap 4 = .ok (.getfield 350, 3) := by decide +kernel
theorem dX12_hasGap_7 : decode cX12_hasGap 7 = .ok (.if_icmp .ge 24, 3) := by decide +kernel
theorem dX12_hasGap_10 : decode cX12_hasGap 10 = .ok (.aload_n 0, 1) := by decide +kernel
theorem dX12_hasGap_11 : decode cX12_hasGap 11 = .ok (.getfield 110, 3) := by decide +kernel
theorem dX12_hasGap_14 : decode cX12_hasGap 14 = .ok (.iload_n 1, 1) := by decide +kernel
theorem dX12_hasGap_15 : decode cX12_hasGap 15 = .ok (.iconst 1, 1) := by decide +kernel
theorem dX12_hasGap_16 : decode cX12_hasGap 16 = .ok (.iadd, 1) := by decide +kernel
theorem dX12_hasGap_17 : decode cX12_hasGap 17 = .ok (.iaload, 1) := by decide +kernel
theorem dX12_hasGap_18 : decode cX12_hasGap 18 = .ok (.aload_n 0, 1) := by decide +kernel
theorem dX12_hasGap_19 : decode cX12_hasGap 19 = .ok (.getfield 110, 3) := by decide +kernel
theorem dX12_hasGap_22 : decode cX12_hasGap 22 = .ok (.iload_n 1, 1) := by decide +kernel
theorem dX12_hasGap_23 : decode cX12_hasGap 23 = .ok (.iaload, 1) := by decide +kernel
theorem dX12_hasGap_24 : decode cX12_hasGap 24 = .ok (.if_icmp .ne 7, 3) := by decide +kernel
theorem dX12_hasGap_27 : decode cX12_hasGap 27 = .ok (.iconst 1, 1) := by decide +kernel
theorem dX12_hasGap_28 : decode cX12_hasGap 28 = .ok (.goto 4, 3) := by decide +kernel
theorem dX12_hasGap_31 : decode cX12_hasGap 31 = .ok (.iconst 0, 1) := by decide +kernel
theorem dX12_hasGap_32 : decode cX12_hasGap 32 = .ok (.ireturn, 1) := by decide +kernel
theorem dX12_gapOf_0 : decode cX12_gapOf 0 = .ok (.aload_n 0, 1) := by decide +kernel
theorem dX12_gapOf_1 : decode cX12_gapOf 1 = .ok (.getfield 107, 3) := by decide +kernel
theorem dX12_gapOf_4 : decode cX12_gapOf 4 = .ok (.iload_n 1, 1) := by decide +kernel
theorem dX12_gapOf_5 : decode cX12_gapOf 5 = .ok (.iconst 1, 1) := by decide +kernel
theorem dX12_gapOf_6 : decode cX12_gapOf 6 = .ok (.iadd, 1) := by decide +kernel
theorem dX12_gapOf_7 : decode cX12_gapOf 7 = .ok (.iaload, 1) := by decide +kernel
theorem dX12_gapOf_8 : decode cX12_gapOf 8 = .ok (.aload_n 0, 1) := by decide +kernel
theorem dX12_gapOf_9 : decode cX12_gapOf 9 = .ok (.getfield 107, 3) := by decide +kernel
theorem dX12_gapOf_12 : decode cX12_gapOf 12 = .ok (.iload_n 1, 1) := by decide +kernel
theorem dX12_gapOf_13 : decode cX12_gapOf 13 = .ok (.iaload, 1) := by decide +kernel
theorem dX12_gapOf_14 : decode cX12_gapOf 14 = .ok (.isub, 1) := by decide +kernel
theorem dX12_gapOf_15 : decode cX12_gapOf 15 = .ok (.ireturn, 1) := by decide +kernel
theorem dX12_gaps_0 : decode cX12_gaps 0 = .ok (.aload_n 0, 1) := by decide +kernel
theorem dX12_gaps_1 : decode cX12_gaps 1 = .ok (.iconst 0, 1) := by decide +kernel
theorem dX12_gaps_2 : decode cX12_gaps 2 = .ok (.putfield 119, 3) := by decide +kernel
theorem dX12_gaps_5 : decode cX12_gaps 5 = .ok (.aload_n 0, 1) := by decide +kernel
theorem dX12_gaps_6 : decode cX12_gaps 6 = .ok (.iload_n 1, 1) := by decide +kernel
theorem dX12_gaps_7 : decode cX12_gaps 7 = .ok (.iconst 0, 1) := by decide +kernel
theorem dX12_gaps_8 : decode cX12_gaps 8 = .ok (.iconst 4, 1) := by decide +kernel
theorem dX12_gaps_9 : decode cX12_gaps 9 = .ok (.invokestatic 133, 3) := by decide +kernel
theorem dX12_gaps_12 : decode cX12_gaps 12 = .ok (.iconst 1, 1) := by decide +kernel
theorem dX12_gaps_13 : decode cX12_gaps 13 = .ok (.invokevirtual 148, 3) := by decide +kernel
theorem dX12_gaps_16 : decode cX12_gaps 16 = .ok (.ifCond .ne 5, 3) := by decide +kernel
theorem dX12_gaps_19 : decode cX12_gaps 19 = .ok (.iconst 0, 1) := by decide +kernel
theorem dX12_gaps_20 : decode cX12_gaps 20 = .ok (.ireturn, 1) := by decide +kernel
theorem dX12_gaps_21 : decode cX12_gaps 21 = .ok (.aload_n 0, 1) := by decide +kernel
theorem dX12_gaps_22 : decode cX12_gaps 22 = .ok (.invokevirtual 293, 3) := by decide +kernel
theorem dX12_gaps_25 : decode cX12_gaps 25 = .ok (.iconst 0, 1) := by decide +kernel
theorem dX12_gaps_26 : decode cX12_gaps 26 = .ok (.istore_n 2, 1) := by decide +kernel
theorem dX12_gaps_27 : decode cX12_gaps 27 = .ok (.iconst 0, 1) := by decide +kernel
theorem dX12_gaps_28 : decode cX12_gaps 28 = .ok (.istore_n 3, 1) := by decide +kernel
theorem dX12_gaps_29 : decode cX12_gaps 29 = .ok (.iconst 0, 1) := by decide +kernel
theorem dX12_gaps_30 : decode cX12_gaps 30 = .ok (.istore 4, 2) := by decide +kernel
theorem dX12_gaps_32 : decode cX12_gaps 32 = .ok (.iconst (-1), 1) := by decide +kernel
theorem dX12_gaps_33 : decode cX12_gaps 33 = .ok (.istore 5, 2) := by decide +kernel
theorem dX12_gaps_35 : decode cX12_gaps 35 = .ok (.iconst (-1), 1) := by decide +kernel
theorem dX12_gaps_36 : decode cX12_gaps 36 = .ok (.istore 6, 2) := by decide +kernel
theorem dX12_gaps_38 : decode cX12_gaps 38 = .ok (.iconst 0, 1) := by decide +kernel
theorem dX12_gaps_39 : decode cX12_gaps 39 = .ok (.istore 7, 2) := by decide +kernel
theorem dX12_gaps_41 : decode cX12_gaps 41 = .ok (.iload 7, 2) := by decide +kernel
theorem dX12_gaps_43 : decode cX12_gaps 43 = .ok (.aload_n 0, 1) := by decide +kernel
theorem dX12_gaps_44 : decode cX12_gaps 44 = .ok (.getfield 350, 3) := by decide +kernel
theorem dX12_gaps_47 : decode cX12_gaps 47 = .ok (.if_icmp .ge 147, 3) := by decide +kernel
theorem dX12_gaps_50 : decode cX12_gaps 50 = .ok (.aload_n 0, 1) := by decide +kernel
theorem dX12_gaps_51 : decode cX12_gaps 51 = .ok (.iload 7, 2) := by decide +kernel
theorem dX12_gaps_53 : decode cX12_gaps 53 = .ok (.invokevirtual 360, 3) := by decide +kernel
theorem dX12_gaps_56 : decode cX12_gaps 56 = .ok (.ifCond .ne 6, 3) := by decide +kernel
theorem dX12_gaps_59 : decode cX12_gaps 59 = .ok (.goto 129, 3) := by decide +kernel
theorem dX12_gaps_62 : decode cX12_gaps 62 = .ok (.iinc 2 1, 3) := by decide +kernel
theorem dX12_gaps_65 : decode cX12_gaps 65 = .ok (.iload 4, 2) := by decide +kernel
theorem dX12_gaps_67 : decode cX12_gaps 67 = .ok (.aload_n 0, 1) := by decide +kernel
theorem dX12_gaps_68 : decode cX12_gaps 68 = .ok (.getfield 19, 3) := by decide +kernel
theorem dX12_gaps_71 : decode cX12_gaps 71 = .ok (.aload_n 0, 1) := by decide +kernel
theorem dX12_gaps_72 : decode cX12_gaps 72 = .ok (.getfield 107, 3) := by decide +kernel
theorem dX12_gaps_75 : decode cX12_gaps 75 = .ok (.iload 7, 2) := by decide +kernel
theorem dX12_gaps_77 : decode cX12_gaps 77 = .ok (.iaload, 1) := by decide +kernel
theorem dX12_gaps_78 : decode cX12_gaps 78 = .ok (.iaload, 1) := by decide +kernel
theorem dX12_gaps_79 : decode cX12_gaps 79 = .ok (.aload_n 0, 1) := by decide +kernel
theorem dX12_gaps_80 : decode cX12_gaps 80 = .ok (.getfield 19, 3) := by decide +kernel
theorem dX12_gaps_83 : decode cX12_gaps 83 = .ok (.aload_n 0, 1) := by decide +kernel
theorem dX12_gaps_84 : decode cX12_gaps 84 = .ok (.getfield 107, 3) := by decide +kernel
theorem dX12_gaps_87 : decode cX12_gaps 87 = .ok (.iload 7, 2) := by decide +kernel
theorem dX12_gaps_89 : decode cX12_gaps 89 = .ok (.iconst 1, 1) := by decide +kernel
theorem dX12_gaps_90 : decode cX12_gaps 90 = .ok (.iadd, 1) := by decide +kernel
theorem dX12_gaps_91 : decode cX12_gaps 91 = .ok (.iaload, 1) := by decide +kernel
theorem dX12_gaps_92 : decode cX12_gaps 92 = .ok (.iaload, 1) := by decide +kernel
theorem dX12_gaps_93 : decode cX12_gaps 93 = .ok (.invokestatic 163, 3) := by decide +kernel
theorem dX12_gaps_96 : decode cX12_gaps 96 = .ok (.iadd, 1) := by decide +kernel
theorem dX12_gaps_97 : decode cX12_gaps 97 = .ok (.istore 4, 2) := by decide +kernel
theorem dX12_gaps_99 : decode cX12_gaps 99 = .ok (.iload_n 3, 1) := by decide +kernel
theorem dX12_gaps_100 : decode cX12_gaps 100 = .ok (.aload_n 0, 1) := by decide +kernel
theorem dX12_gaps_101 : decode cX12_gaps 101 = .ok (.iload 7, 2) := by decide +kernel
theorem dX12_gaps_103 : decode cX12_gaps 103 = .ok (.iconst 1, 1) := by decide +kernel
theorem dX12_gaps_104 : decode cX12_gaps 104 = .ok (.iadd, 1) := by decide +kernel
theorem dX12_gaps_105 : decode cX12_gaps 105 = .ok (.invokevirtual 360, 3) := by decide +kernel
theorem dX12_gaps_108 : decode cX12_gaps 108 = .ok (.ifCond .eq 23, 3) := by decide +kernel
theorem dX12_gaps_111 : decode cX12_gaps 111 = .ok (.aload_n 0, 1) := by decide +kernel
theorem dX12_gaps_112 : decode cX12_gaps 112 = .ok (.iload 7, 2) := by decide +kernel
theorem dX12_gaps_114 : decode cX12_gaps 114 = .ok (.invokevirtual 363, 3) := by decide +kernel
theorem dX12_gaps_117 : decode cX12_gaps 117 = .ok (.aload_n 0, 1) := by decide +kernel
theorem dX12_gaps_118 : decode cX12_gaps 118 = .ok (.iload 7, 2) := by decide +kernel
theorem dX12_gaps_120 : decode cX12_gaps 120 = .ok (.iconst 1, 1) := by decide +kernel
theorem dX12_gaps_121 : decode cX12_gaps 121 = .ok (.iadd, 1) := by decide +kernel
theorem dX12_gaps_122 : decode cX12_gaps 122 = .ok (.invokevirtual 363, 3) := by decide +kernel
theorem dX12_gaps_125 : decode cX12_gaps 125 = .ok (.invokestatic 163, 3) := by decide +kernel
theorem dX12_gaps_128 : decode cX12_gaps 128 = .ok (.goto 4, 3) := by decide +kernel
theorem dX12_gaps_131 : decode cX12_gaps 131 = .ok (.iconst 0, 1) := by decide +kernel
theorem dX12_gaps_132 : decode cX12_gaps 132 = .ok (.iadd, 1) := by decide +kernel
theorem dX12_gaps_133 : decode cX12_gaps 133 = .ok (.istore_n 3, 1) := by decide +kernel
theorem dX12_gaps_134 : decode cX12_gaps 134 = .ok (.aload_n 0, 1) := by decide +kernel
theorem dX12_gaps_135 : decode cX12_gaps 135 = .ok (.iload 7, 2) := by decide +kernel
theorem dX12_gaps_137 : decode cX12_gaps 137 = .ok (.invokevirtual 363, 3) := by decide +kernel
theorem dX12_gaps_140 : decode cX12_gaps 140 = .ok (.iload 5, 2) := by decide +kernel
theorem dX12_gaps_142 : decode cX12_gaps 142 = .ok (.if_icmp .le 12, 3) := by decide +kernel
theorem dX12_gaps_145 : decode cX12_gaps 145 = .ok (.aload_n 0, 1) := by decide +kernel
theorem dX12_gaps_146 : decode cX12_gaps 146 = .ok (.iload 7, 2) := by decide +kernel
theorem dX12_gaps_148 : decode cX12_gaps 148 = .ok (.invokevirtual 363, 3) := by decide +kernel
theorem dX12_gaps_151 : decode cX12_gaps 151 = .ok (.goto 5, 3) := by decide +kernel
theorem dX12_gaps_154 : decode cX12_gaps 154 = .ok (.iload 5, 2) := by decide +kernel
theorem dX12_gaps_156 : decode cX12_gaps 156 = .ok (.istore 5, 2) := by decide +kernel
theorem dX12_gaps_158 : decode cX12_gaps 158 = .ok (.iload 6, 2) := by decide +kernel
theorem dX12_gaps_160 : decode cX12_gaps 160 = .ok (.iconst (-1), 1) := by decide +kernel
theorem dX12_gaps_161 : decode cX12_gaps 161 = .ok (.if_icmp .eq 14, 3) := by decide +kernel
theorem dX12_gaps_164 : decode cX12_gaps 164 = .ok (.aload_n 0, 1) := by decide +kernel
theorem dX12_gaps_165 : decode cX12_gaps 165 = .ok (.iload 7, 2) := by decide +kernel
theorem dX12_gaps_167 : decode cX12_gaps 167 = .ok (.invokevirtual 363, 3) := by decide +kernel
theorem dX12_gaps_170 : decode cX12_gaps 170 = .ok (.iload 6, 2) := by decide +kernel
theorem dX12_gaps_172 : decode cX12_gaps 172 = .ok (.if_icmp .ge 12, 3) := by decide +kernel
theorem dX12_gaps_175 : decode cX12_gaps 175 = .ok (.aload_n 0, 1) := by decide +kernel
theorem dX12_gaps_176 : decode cX12_gaps 176 = .ok (.iload 7, 2) := by decide +kernel
theorem dX12_gaps_178 : decode cX12_gaps 178 = .ok (.invokevirtual 363, 3) := by decide +kernel
theorem dX12_gaps_181 : decode cX12_gaps 181 = .ok (.goto 5, 3) := by decide +kernel
theorem dX12_gaps_184 : decode cX12_gaps 184 = .ok (.iload 6, 2) := by decide +kernel
theorem dX12_gaps_186 : decode cX12_gaps 186 = .ok (.istore 6, 2) := by decide +kernel
theorem dX12_gaps_188 : decode cX12_gaps 188 = .ok (.iinc 7 1, 3) := by decide +kernel
theorem dX12_gaps_191 : decode cX12_gaps 191 = .ok (.goto (-150), 3) := by decide +kernel
theorem dX12_gaps_194 : decode cX12_gaps 194 = .ok (.iload_n 1, 1) := by decide +kernel
theorem dX12_gaps_195 : decode cX12_gaps 195 = .ok (.tableswitch 39 0 3 #[29, 31, 33, 36], 29) := by decide +kernel
theorem dX12_gaps_224 : decode cX12_gaps 224 = .ok (.iload_n 2, 1) := by decide +kernel
theorem dX12_gaps_225 : decode cX12_gaps 225 = .ok (.ireturn, 1) := by decide +kernel
theorem dX12_gaps_226 : decode cX12_gaps 226 = .ok (.iload_n 3, 1) := by decide +kernel
theorem dX12_gaps_227 : decode cX12_gaps 227 = .ok (.ireturn, 1) := by decide +kernel
theorem dX12_gaps_228 : decode cX12_gaps 228 = .ok (.iload 4, 2) := by decide +kernel
theorem dX12_gaps_230 : decode cX12_gaps 230 = .ok (.ireturn, 1) := by decide +kernel
theorem dX12_gaps_231 : decode cX12_gaps 231 = .ok (.iload 5, 2) := by decide +kernel
theorem dX12_gaps_233 : decode cX12_gaps 233 = .ok (.ireturn, 1) := by decide +kernel
theorem dX12_gaps_234 : decode cX12_gaps 234 = .ok (.iload 6, 2) := by decide +kernel
theorem dX12_gaps_236 : decode cX12_gaps 236 = .ok (.ireturn, 1) := by decide +kernel
theorem dX12_roughOf_0 : decode cX12_roughOf 0 = .ok (.aload_n 0, 1) := by decide +kernel
theorem dX12_roughOf_1 : decode cX12_roughOf 1 = .ok (.iload_n 1, 1) := by decide +kernel
theorem dX12_roughOf_2 : decode cX12_roughOf 2 = .ok (.invokevirtual 360, 3) := by decide +kernel
theorem dX12_roughOf_5 : decode cX12_roughOf 5 = .ok (.ifCond .ne 5, 3) := by decide +kernel
theorem dX12_roughOf_8 : decode cX12_roughOf 8 = .ok (.iconst (-1), 1) := by decide +kernel
theorem dX12_roughOf_9 : decode cX12_roughOf 9 = .ok (.ireturn, 1) := by decide +kernel
theorem dX12_roughOf_10 : decode cX12_roughOf 10 = .ok (.iconst 0, 1) := by decide +kernel
theorem dX12_roughOf_11 : decode cX12_roughOf 11 = .ok (.istore_n 2, 1) := by decide +kernel
theorem dX12_roughOf_12 : decode cX12_roughOf 12 = .ok (.iconst 0, 1) := by decide +kernel
theorem dX12_roughOf_13 : decode cX12_roughOf 13 = .ok (.istore_n 3, 1) := by decide +kernel
theorem dX12_roughOf_14 : decode cX12_roughOf 14 = .ok (.iload_n 3, 1) := by decide +kernel
theorem dX12_roughOf_15 : decode cX12_roughOf 15 = .ok (.aload_n 0, 1) := by decide +kernel
theorem dX12_roughOf_16 : decode cX12_roughOf 16 = .ok (.iload_n 1, 1) := by decide +kernel
theorem dX12_roughOf_17 : decode cX12_roughOf 17 = .ok (.invokevirtual 363, 3) := by decide +kernel
theorem dX12_roughOf_20 : decode cX12_roughOf 20 = .ok (.if_icmp .ge 41, 3) := by decide +kernel
theorem dX12_roughOf_23 : decode cX12_roughOf 23 = .ok (.iload_n 2, 1) := by decide +kernel
theorem dX12_roughOf_24 : decode cX12_roughOf 24 = .ok (.aload_n 0, 1) := by decide +kernel
theorem dX12_roughOf_25 : decode cX12_roughOf 25 = .ok (.aload_n 0, 1) := by decide +kernel
theorem dX12_roughOf_26 : decode cX12_roughOf 26 = .ok (.getfield 107, 3) := by decide +kernel
theorem dX12_roughOf_29 : decode cX12_roughOf 29 = .ok (.iload_n 1, 1) := by decide +kernel
theorem dX12_roughOf_30 : decode cX12_roughOf 30 = .ok (.iaload, 1) := by decide +kernel
theorem dX12_roughOf_31 : decode cX12_roughOf 31 = .ok (.iload_n 3, 1) := by decide +kernel
theorem dX12_roughOf_32 : decode cX12_roughOf 32 = .ok (.iadd, 1) := by decide +kernel
theorem dX12_roughOf_33 : decode cX12_roughOf 33 = .ok (.invokevirtual 366, 3) := by decide +kernel
theorem dX12_roughOf_36 : decode cX12_roughOf 36 = .ok (.aload_n 0, 1) := by decide +kernel
theorem dX12_roughOf_37 : decode cX12_roughOf 37 = .ok (.aload_n 0, 1) := by decide +kernel
theorem dX12_roughOf_38 : decode cX12_roughOf 38 = .ok (.getfield 107, 3) := by decide +kernel
theorem dX12_roughOf_41 : decode cX12_roughOf 41 = .ok (.iload_n 1, 1) := by decide +kernel
theorem dX12_roughOf_42 : decode cX12_roughOf 42 = .ok (.iconst 1, 1) := by decide +kernel
theorem dX12_roughOf_43 : decode cX12_roughOf 43 = .ok (.iadd, 1) := by decide +kernel
theorem dX12_roughOf_44 : decode cX12_roughOf 44 = .ok (.iaload, 1) := by decide +kernel
theorem dX12_roughOf_45 : decode cX12_roughOf 45 = .ok (.iload_n 3, 1) := by decide +kernel
theorem dX12_roughOf_46 : decode cX12_roughOf 46 = .ok (.iadd, 1) := by decide +kernel
theorem dX12_roughOf_47 : decode cX12_roughOf 47 = .ok (.invokevirtual 366, 3) := by decide +kernel
theorem dX12_roughOf_50 : decode cX12_roughOf 50 = .ok (.invokestatic 163, 3) := by decide +kernel
theorem dX12_roughOf_53 : decode cX12_roughOf 53 = .ok (.iadd, 1) := by decide +kernel
theorem dX12_roughOf_54 : decode cX12_roughOf 54 = .ok (.istore_n 2, 1) := by decide +kernel
theorem dX12_roughOf_55 : decode cX12_roughOf 55 = .ok (.iinc 3 1, 3) := by decide +kernel
theorem dX12_roughOf_58 : decode cX12_roughOf 58 = .ok (.goto (-44), 3) := by decide +kernel
theorem dX12_roughOf_61 : decode cX12_roughOf 61 = .ok (.iload_n 2, 1) := by decide +kernel
theorem dX12_roughOf_62 : decode cX12_roughOf 62 = .ok (.ireturn, 1) := by decide +kernel
theorem dX12_rough_0 : decode cX12_rough 0 = .ok (.aload_n 0, 1) := by decide +kernel
theorem dX12_rough_1 : decode cX12_rough 1 = .ok (.iconst 0, 1) := by decide +kernel
theorem dX12_rough_2 : decode cX12_rough 2 = .ok (.putfield 119, 3) := by decide +kernel
theorem dX12_rough_5 : decode cX12_rough 5 = .ok (.aload_n 0, 1) := by decide +kernel
theorem dX12_rough_6 : decode cX12_rough 6 = .ok (.invokevirtual 293, 3) := by decide +kernel
theorem dX12_rough_9 : decode cX12_rough 9 = .ok (.aload_n 0, 1) := by decide +kernel
theorem dX12_rough_10 : decode cX12_rough 10 = .ok (.iload_n 1, 1) := by decide +kernel
theorem dX12_rough_11 : decode cX12_rough 11 = .ok (.iconst 0, 1) := by decide +kernel
theorem dX12_rough_12 : decode cX12_rough 12 = .ok (.aload_n 0, 1) := by decide +kernel
theorem dX12_rough_13 : decode cX12_rough 13 = .ok (.getfield 350, 3) := by decide +kernel
theorem dX12_rough_16 : decode cX12_rough 16 = .ok (.iconst 1, 1) := by decide +kernel
theorem dX12_rough_17 : decode cX12_rough 17 = .ok (.isub, 1) := by decide +kernel
theorem dX12_rough_18 : decode cX12_rough 18 = .ok (.invokestatic 133, 3) := by decide +kernel
theorem dX12_rough_21 : decode cX12_rough 21 = .ok (.iconst 1, 1) := by decide +kernel
theorem dX12_rough_22 : decode cX12_rough 22 = .ok (.invokevirtual 148, 3) := by decide +kernel
theorem dX12_rough_25 : decode cX12_rough 25 = .ok (.ifCond .eq 11, 3) := by decide +kernel
theorem dX12_rough_28 : decode cX12_rough 28 = .ok (.aload_n 0, 1) := by decide +kernel
theorem dX12_rough_29 : decode cX12_rough 29 = .ok (.iload_n 1, 1) := by decide +kernel
theorem dX12_rough_30 : decode cX12_rough 30 = .ok (.invokevirtual 369, 3) := by decide +kernel
theorem dX12_rough_33 : decode cX12_rough 33 = .ok (.goto 4, 3) := by decide +kernel
theorem dX12_rough_36 : decode cX12_rough 36 = .ok (.iconst 0, 1) := by decide +kernel
theorem dX12_rough_37 : decode cX12_rough 37 = .ok (.ireturn, 1) := by decide +kernel
theorem dX12_roughest_0 : decode cX12_roughest 0 = .ok (.aload_n 0, 1) := by decide +kernel
theorem dX12_roughest_1 : decode cX12_roughest 1 = .ok (.iconst 0, 1) := by decide +kernel
theorem dX12_roughest_2 : decode cX12_roughest 2 = .ok (.putfield 119, 3) := by decide +kernel
theorem dX12_roughest_5 : decode cX12_roughest 5 = .ok (.aload_n 0, 1) := by decide +kernel
theorem dX12_roughest_6 : decode cX12_roughest 6 = .ok (.invokevirtual 293, 3) := by decide +kernel
theorem dX12_roughest_9 : decode cX12_roughest 9 = .ok (.iconst (-1), 1) := by decide +kernel
theorem dX12_roughest_10 : decode cX12_roughest 10 = .ok (.istore_n 1, 1) := by decide +kernel
theorem dX12_roughest_11 : decode cX12_roughest 11 = .ok (.iconst 0, 1) := by decide +kernel
theorem dX12_roughest_12 : decode cX12_roughest 12 = .ok (.istore_n 2, 1) := by decide +kernel
theorem dX12_roughest_13 : decode cX12_roughest 13 = .ok (.iload_n 2, 1) := by decide +kernel
theorem dX12_roughest_14 : decode cX12_roughest 14 = .ok (.aload_n 0, 1) := by decide +kernel
theorem dX12_roughest_15 : decode cX12_roughest 15 = .ok (.getfield 350, 3) := by decide +kernel
theorem dX12_roughest_18 : decode cX12_roughest 18 = .ok (.if_icmp .ge 38, 3) := by decide +kernel
theorem dX12_roughest_21 : decode cX12_roughest 21 = .ok (.aload_n 0, 1) := by decide +kernel
theorem dX12_roughest_22 : decode cX12_roughest 22 = .ok (.iload_n 2, 1) := by decide +kernel
theorem dX12_roughest_23 : decode cX12_roughest 23 = .ok (.invokevirtual 369, 3) := by decide +kernel
theorem dX12_roughest_26 : decode cX12_roughest 26 = .ok (.iconst (-1), 1) := by decide +kernel
theorem dX12_roughest_27 : decode cX12_roughest 27 = .ok (.if_icmp .eq 23, 3) := by decide +kernel
theorem dX12_roughest_30 : decode cX12_roughest 30 = .ok (.iload_n 1, 1) := by decide +kernel
theorem dX12_roughest_31 : decode cX12_roughest 31 = .ok (.iconst (-1), 1) := by decide +kernel
theorem dX12_roughest_32 : decode cX12_roughest 32 = .ok (.if_icmp .eq 16, 3) := by decide +kernel
theorem dX12_roughest_35 : decode cX12_roughest 35 = .ok (.aload_n 0, 1) := by decide +kernel
theorem dX12_roughest_36 : decode cX12_roughest 36 = .ok (.iload_n 2, 1) := by decide +kernel
theorem dX12_roughest_37 : decode cX12_roughest 37 = .ok (.invokevirtual 369, 3) := by decide +kernel
theorem dX12_roughest_40 : decode cX12_roughest 40 = .ok (.aload_n 0, 1) := by decide +kernel
theorem dX12_roughest_41 : decode cX12_roughest 41 = .ok (.iload_n 1, 1) := by decide +kernel
theorem dX12_roughest_42 : decode cX12_roughest 42 = .ok (.invokevirtual 369, 3) := by decide +kernel
theorem dX12_roughest_45 : decode cX12_roughest 45 = .ok (.if_icmp .le 5, 3) := by decide +kernel
theorem dX12_roughest_48 : decode cX12_roughest 48 = .ok (.iload_n 2, 1) := by decide +kernel
theorem dX12_roughest_49 : decode cX12_roughest 49 = .ok (.istore_n 1, 1) := by decide +kernel
theorem dX12_roughest_50 : decode cX12_roughest 50 = .ok (.iinc 2 1, 3) := by decide +kernel
theorem dX12_roughest_53 : decode cX12_roughest 53 = .ok (.goto (-40), 3) := by decide +kernel
theorem dX12_roughest_56 : decode cX12_roughest 56 = .ok (.iload_n 1, 1) := by decide +kernel
theorem dX12_roughest_57 : decode cX12_roughest 57 = .ok (.ireturn, 1) := by decide +kernel
theorem dX12_mean_0 : decode cX12_mean 0 = .ok (.aload_n 0, 1) := by decide +kernel
theorem dX12_mean_1 : decode cX12_mean 1 = .ok (.iconst 0, 1) := by decide +kernel
theorem dX12_mean_2 : decode cX12_mean 2 = .ok (.putfield 119, 3) := by decide +kernel
theorem dX12_mean_5 : decode cX12_mean 5 = .ok (.aload_n 0, 1) := by decide +kernel
theorem dX12_mean_6 : decode cX12_mean 6 = .ok (.invokevirtual 293, 3) := by decide +kernel
theorem dX12_mean_9 : decode cX12_mean 9 = .ok (.iconst 0, 1) := by decide +kernel
theorem dX12_mean_10 : decode cX12_mean 10 = .ok (.istore_n 2, 1) := by decide +kernel
theorem dX12_mean_11 : decode cX12_mean 11 = .ok (.iconst 0, 1) := by decide +kernel
theorem dX12_mean_12 : decode cX12_mean 12 = .ok (.istore_n 3, 1) := by decide +kernel
theorem dX12_mean_13 : decode cX12_mean 13 = .ok (.iconst 0, 1) := by decide +kernel
theorem dX12_mean_14 : decode cX12_mean 14 = .ok (.istore 4, 2) := by decide +kernel
theorem dX12_mean_16 : decode cX12_mean 16 = .ok (.iload 4, 2) := by decide +kernel
theorem dX12_mean_18 : decode cX12_mean 18 = .ok (.aload_n 0, 1) := by decide +kernel
theorem dX12_mean_19 : decode cX12_mean 19 = .ok (.getfield 350, 3) := by decide +kernel
theorem dX12_mean_22 : decode cX12_mean 22 = .ok (.if_icmp .ge 48, 3) := by decide +kernel
theorem dX12_mean_25 : decode cX12_mean 25 = .ok (.iload_n 2, 1) := by decide +kernel
theorem dX12_mean_26 : decode cX12_mean 26 = .ok (.aload_n 0, 1) := by decide +kernel
theorem dX12_mean_27 : decode cX12_mean 27 = .ok (.iload 4, 2) := by decide +kernel
theorem dX12_mean_29 : decode cX12_mean 29 = .ok (.invokevirtual 360, 3) := by decide +kernel
theorem dX12_mean_32 : decode cX12_mean 32 = .ok (.ifCond .eq 7, 3) := by decide +kernel
theorem dX12_mean_35 : decode cX12_mean 35 = .ok (.iconst 1, 1) := by decide +kernel
theorem dX12_mean_36 : decode cX12_mean 36 = .ok (.goto 4, 3) := by decide +kernel
theorem dX12_mean_39 : decode cX12_mean 39 = .ok (.iconst 0, 1) := by decide +kernel
theorem dX12_mean_40 : decode cX12_mean 40 = .ok (.iadd, 1) := by decide +kernel
theorem dX12_mean_41 : decode cX12_mean 41 = .ok (.istore_n 2, 1) := by decide +kernel
theorem dX12_mean_42 : decode cX12_mean 42 = .ok (.iload_n 3, 1) := by decide +kernel
theorem dX12_mean_43 : decode cX12_mean 43 = .ok (.aload_n 0, 1) := by decide +kernel
theorem dX12_mean_44 : decode cX12_mean 44 = .ok (.iload 4, 2) := by decide +kernel
theorem dX12_mean_46 : decode cX12_mean 46 = .ok (.invokevirtual 360, 3) := by decide +kernel
theorem dX12_mean_49 : decode cX12_mean 49 = .ok (.ifCond .eq 12, 3) := by decide +kernel
theorem dX12_mean_52 : decode cX12_mean 52 = .ok (.aload_n 0, 1) := by decide +kernel
theorem dX12_mean_53 : decode cX12_mean 53 = .ok (.iload 4, 2) := by decide +kernel
theorem dX12_mean_55 : decode cX12_mean 55 = .ok (.invokevirtual 363, 3) := by decide +kernel
theorem dX12_mean_58 : decode cX12_mean 58 = .ok (.goto 4, 3) := by decide +kernel
theorem dX12_mean_61 : decode cX12_mean 61 = .ok (.iconst 0, 1) := by decide +kernel
theorem dX12_mean_62 : decode cX12_mean 62 = .ok (.iadd, 1) := by decide +kernel
theorem dX12_mean_63 : decode cX12_mean 63 = .ok (.istore_n 3, 1) := by decide +kernel
theorem dX12_mean_64 : decode cX12_mean 64 = .ok (.iinc 4 1, 3) := by decide +kernel
theorem dX12_mean_67 : decode cX12_mean 67 = .ok (.goto (-51), 3) := by decide +kernel
theorem dX12_mean_70 : decode cX12_mean 70 = .ok (.aload_n 0, 1) := by decide +kernel
theorem dX12_mean_71 : decode cX12_mean 71 = .ok (.iload_n 2, 1) := by decide +kernel
theorem dX12_mean_72 : decode cX12_mean 72 = .ok (.ifCond .le 7, 3) := by decide +kernel
theorem dX12_mean_75 : decode cX12_mean 75 = .ok (.iconst 1, 1) := by decide +kernel
theorem dX12_mean_76 : decode cX12_mean 76 = .ok (.goto 4, 3) := by decide +kernel
theorem dX12_mean_79 : decode cX12_mean 79 = .ok (.iconst 0, 1) := by decide +kernel
theorem dX12_mean_80 : decode cX12_mean 80 = .ok (.iconst 1, 1) := by decide +kernel
theorem dX12_mean_81 : decode cX12_mean 81 = .ok (.invokevirtual 148, 3) := by decide +kernel
theorem dX12_mean_84 : decode cX12_mean 84 = .ok (.ifCond .ne 5, 3) := by decide +kernel
theorem dX12_mean_87 : decode cX12_mean 87 = .ok (.iconst 0, 1) := by decide +kernel
theorem dX12_mean_88 : decode cX12_mean 88 = .ok (.ireturn, 1) := by decide +kernel
theorem dX12_mean_89 : decode cX12_mean 89 = .ok (.iload_n 3, 1) := by decide +kernel
theorem dX12_mean_90 : decode cX12_mean 90 = .ok (.iload_n 2, 1) := by decide +kernel
theorem dX12_mean_91 : decode cX12_mean 91 = .ok (.invokestatic 207, 3) := by decide +kernel
theorem dX12_mean_94 : decode cX12_mean 94 = .ok (.istore 4, 2) := by decide +kernel
theorem dX12_mean_96 : decode cX12_mean 96 = .ok (.iload_n 1, 1) := by decide +kernel
theorem dX12_mean_97 : decode cX12_mean 97 = .ok (.ifCond .eq 10, 3) := by decide +kernel
theorem dX12_mean_100 : decode cX12_mean 100 = .ok (.iload_n 2, 1) := by decide +kernel
theorem dX12_mean_101 : decode cX12_mean 101 = .ok (.iload 4, 2) := by decide +kernel
theorem dX12_mean_103 : decode cX12_mean 103 = .ok (.idiv, 1) := by decide +kernel
theorem dX12_mean_104 : decode cX12_mean 104 = .ok (.goto 7, 3) := by decide +kernel
theorem dX12_mean_107 : decode cX12_mean 107 = .ok (.iload_n 3, 1) := by decide +kernel
theorem dX12_mean_108 : decode cX12_mean 108 = .ok (.iload 4, 2) := by decide +kernel
theorem dX12_mean_110 : decode cX12_mean 110 = .ok (.idiv, 1) := by decide +kernel
theorem dX12_mean_111 : decode cX12_mean 111 = .ok (.ireturn, 1) := by decide +kernel
theorem dX12_graspOf_0 : decode cX12_graspOf 0 = .ok (.aload_n 0, 1) := by decide +kernel
theorem dX12_graspOf_1 : decode cX12_graspOf 1 = .ok (.iload_n 1, 1) := by decide +kernel
theorem dX12_graspOf_2 : decode cX12_graspOf 2 = .ok (.invokevirtual 360, 3) := by decide +kernel
theorem dX12_graspOf_5 : decode cX12_graspOf 5 = .ok (.ifCond .eq 9, 3) := by decide +kernel
theorem dX12_graspOf_8 : decode cX12_graspOf 8 = .ok (.aload_n 0, 1) := by decide +kernel
theorem dX12_graspOf_9 : decode cX12_graspOf 9 = .ok (.iload_n 1, 1) := by decide +kernel
theorem dX12_graspOf_10 : decode cX12_graspOf 10 = .ok (.invokevirtual 363, 3) := by decide +kernel
theorem dX12_graspOf_13 : decode cX12_graspOf 13 = .ok (.ireturn, 1) := by decide +kernel
theorem dX12_graspOf_14 : decode cX12_graspOf 14 = .ok (.iload_n 1, 1) := by decide +kernel
theorem dX12_graspOf_15 : decode cX12_graspOf 15 = .ok (.aload_n 0, 1) := by decide +kernel
theorem dX12_graspOf_16 : decode cX12_graspOf 16 = .ok (.getfield 113, 3) := by decide +kernel
theorem dX12_graspOf_19 : decode cX12_graspOf 19 = .ok (.aload_n 0, 1) := by decide +kernel
theorem dX12_graspOf_20 : decode cX12_graspOf 20 = .ok (.getfield 110, 3) := by decide +kernel
theorem dX12_graspOf_23 : decode cX12_graspOf 23 = .ok (.iload_n 1, 1) := by decide +kernel
theorem dX12_graspOf_24 : decode cX12_graspOf 24 = .ok (.iaload, 1) := by decide +kernel
theorem dX12_graspOf_25 : decode cX12_graspOf 25 = .ok (.iaload, 1) := by decide +kernel
theorem dX12_graspOf_26 : decode cX12_graspOf 26 = .ok (.if_icmp .le 7, 3) := by decide +kernel
theorem dX12_graspOf_29 : decode cX12_graspOf 29 = .ok (.iconst 1, 1) := by decide +kernel
theorem dX12_graspOf_30 : decode cX12_graspOf 30 = .ok (.goto 4, 3) := by decide +kernel
theorem dX12_graspOf_33 : decode cX12_graspOf 33 = .ok (.iconst 0, 1) := by decide +kernel
theorem dX12_graspOf_34 : decode cX12_graspOf 34 = .ok (.istore_n 2, 1) := by decide +kernel
theorem dX12_graspOf_35 : decode cX12_graspOf 35 = .ok (.iload_n 2, 1) := by decide +kernel
theorem dX12_graspOf_36 : decode cX12_graspOf 36 = .ok (.ifCond .eq 13, 3) := by decide +kernel
theorem dX12_graspOf_39 : decode cX12_graspOf 39 = .ok (.aload_n 0, 1) := by decide +kernel
theorem dX12_graspOf_40 : decode cX12_graspOf 40 = .ok (.iload_n 1, 1) := by decide +kernel
theorem dX12_graspOf_41 : decode cX12_graspOf 41 = .ok (.iconst 1, 1) := by decide +kernel
theorem dX12_graspOf_42 : decode cX12_graspOf 42 = .ok (.isub, 1) := by decide +kernel
theorem dX12_graspOf_43 : decode cX12_graspOf 43 = .ok (.invokevirtual 363, 3) := by decide +kernel
theorem dX12_graspOf_46 : decode cX12_graspOf 46 = .ok (.goto 19, 3) := by decide +kernel
theorem dX12_graspOf_49 : decode cX12_graspOf 49 = .ok (.aload_n 0, 1) := by decide +kernel
theorem dX12_graspOf_50 : decode cX12_graspOf 50 = .ok (.aload_n 0, 1) := by decide +kernel
theorem dX12_graspOf_51 : decode cX12_graspOf 51 = .ok (.getfield 110, 3) := by decide +kernel
theorem dX12_graspOf_54 : decode cX12_graspOf 54 = .ok (.iload_n 1, 1) := by decide +kernel
theorem dX12_graspOf_55 : decode cX12_graspOf 55 = .ok (.iaload, 1) := by decide +kernel
theorem dX12_graspOf_56 : decode cX12_graspOf 56 = .ok (.aload_n 0, 1) := by decide +kernel
theorem dX12_graspOf_57 : decode cX12_graspOf 57 = .ok (.getfield 107, 3) := by decide +kernel
theorem dX12_graspOf_60 : decode cX12_graspOf 60 = .ok (.iload_n 1, 1) := by decide +kernel
theorem dX12_graspOf_61 : decode cX12_graspOf 61 = .ok (.iaload, 1) := by decide +kernel
theorem dX12_graspOf_62 : decode cX12_graspOf 62 = .ok (.invokevirtual 344, 3) := by decide +kernel
theorem dX12_graspOf_65 : decode cX12_graspOf 65 = .ok (.ireturn, 1) := by decide +kernel
theorem dX12_markNear_0 : decode cX12_markNear 0 = .ok (.aload_n 0, 1) := by decide +kernel
theorem dX12_markNear_1 : decode cX12_markNear 1 = .ok (.getfield 113, 3) := by decide +kernel
theorem dX12_markNear_4 : decode cX12_markNear 4 = .ok (.iload_n 1, 1) := by decide +kernel
theorem dX12_markNear_5 : decode cX12_markNear 5 = .ok (.iaload, 1) := by decide +kernel
theorem dX12_markNear_6 : decode cX12_markNear 6 = .ok (.istore_n 3, 1) := by decide +kernel
theorem dX12_markNear_7 : decode cX12_markNear 7 = .ok (.iload_n 3, 1) := by decide +kernel
theorem dX12_markNear_8 : decode cX12_markNear 8 = .ok (.istore 4, 2) := by decide +kernel
theorem dX12_markNear_10 : decode cX12_markNear 10 = .ok (.iload 4, 2) := by decide +kernel
theorem dX12_markNear_12 : decode cX12_markNear 12 = .ok (.aload_n 0, 1) := by decide +kernel
theorem dX12_markNear_13 : decode cX12_markNear 13 = .ok (.getfield 113, 3) := by decide +kernel
theorem dX12_markNear_16 : decode cX12_markNear 16 = .ok (.iload_n 1, 1) := by decide +kernel
theorem dX12_markNear_17 : decode cX12_markNear 17 = .ok (.iconst 1, 1) := by decide +kernel
theorem dX12_markNear_18 : decode cX12_markNear 18 = .ok (.iadd, 1) := by decide +kernel
theorem dX12_markNear_19 : decode cX12_markNear 19 = .ok (.iaload, 1) := by decide +kernel
theorem dX12_markNear_20 : decode cX12_markNear 20 = .ok (.if_icmp .ge 40, 3) := by decide +kernel
theorem dX12_markNear_23 : decode cX12_markNear 23 = .ok (.aload_n 0, 1) := by decide +kernel
theorem dX12_markNear_24 : decode cX12_markNear 24 = .ok (.getfield 107, 3) := by decide +kernel
theorem dX12_markNear_27 : decode cX12_markNear 27 = .ok (.iload 4, 2) := by decide +kernel
theorem dX12_markNear_29 : decode cX12_markNear 29 = .ok (.iaload, 1) := by decide +kernel
theorem dX12_markNear_30 : decode cX12_markNear 30 = .ok (.iload_n 2, 1) := by decide +kernel
theorem dX12_markNear_31 : decode cX12_markNear 31 = .ok (.invokestatic 163, 3) := by decide +kernel
theorem dX12_markNear_34 : decode cX12_markNear 34 = .ok (.aload_n 0, 1) := by decide +kernel
theorem dX12_markNear_35 : decode cX12_markNear 35 = .ok (.getfield 107, 3) := by decide +kernel
theorem dX12_markNear_38 : decode cX12_markNear 38 = .ok (.iload_n 3, 1) := by decide +kernel
theorem dX12_markNear_39 : decode cX12_markNear 39 = .ok (.iaload, 1) := by decide +kernel
theorem dX12_markNear_40 : decode cX12_markNear 40 = .ok (.iload_n 2, 1) := by decide +kernel
theorem dX12_markNear_41 : decode cX12_markNear 41 = .ok (.invokestatic 163, 3) := by decide +kernel
theorem dX12_markNear_44 : decode cX12_markNear 44 = .ok (.if_icmp .ge 8, 3) := by decide +kernel
theorem dX12_markNear_47 : decode cX12_markNear 47 = .ok (.iload 4, 2) := by decide +kernel
theorem dX12_markNear_49 : decode cX12_markNear 49 = .ok (.goto 4, 3) := by decide +kernel
theorem dX12_markNear_52 : decode cX12_markNear 52 = .ok (.iload_n 3, 1) := by decide +kernel
theorem dX12_markNear_53 : decode cX12_markNear 53 = .ok (.istore_n 3, 1) := by decide +kernel
theorem dX12_markNear_54 : decode cX12_markNear 54 = .ok (.iinc 4 1, 3) := by decide +kernel
theorem dX12_markNear_57 : decode cX12_markNear 57 = .ok (.goto (-47), 3) := by decide +kernel
theorem dX12_markNear_60 : decode cX12_markNear 60 = .ok (.iload_n 3, 1) := by decide +kernel
theorem dX12_markNear_61 : decode cX12_markNear 61 = .ok (.ireturn, 1) := by decide +kernel
theorem dX12_setAnew_0 : decode cX12_setAnew 0 = .ok (.iconst 0, 1) := by decide +kernel
theorem dX12_setAnew_1 : decode cX12_setAnew 1 = .ok (.istore 5, 2) := by decide +kernel
theorem dX12_setAnew_3 : decode cX12_setAnew 3 = .ok (.aload_n 0, 1) := by decide +kernel
theorem dX12_setAnew_4 : decode cX12_setAnew 4 = .ok (.getfield 107, 3) := by decide +kernel
theorem dX12_setAnew_7 : decode cX12_setAnew 7 = .ok (.aload_n 0, 1) := by decide +kernel
theorem dX12_setAnew_8 : decode cX12_setAnew 8 = .ok (.getfield 113, 3) := by decide +kernel
theorem dX12_setAnew_11 : decode cX12_setAnew 11 = .ok (.iload_n 1, 1) := by decide +kernel
theorem dX12_setAnew_12 : decode cX12_setAnew 12 = .ok (.iaload, 1) := by decide +kernel
theorem dX12_setAnew_13 : decode cX12_setAnew 13 = .ok (.iaload, 1) := by decide +kernel
theorem dX12_setAnew_14 : decode cX12_setAnew 14 = .ok (.istore 6, 2) := by decide +kernel
theorem dX12_setAnew_16 : decode cX12_setAnew 16 = .ok (.iload 6, 2) := by decide +kernel
theorem dX12_setAnew_18 : decode cX12_setAnew 18 = .ok (.aload_n 0, 1) := by decide +kernel
theorem dX12_setAnew_19 : decode cX12_setAnew 19 = .ok (.iload_n 1, 1) := by decide +kernel
theorem dX12_setAnew_20 : decode cX12_setAnew 20 = .ok (.invokevirtual 302, 3) := by decide +kernel
theorem dX12_setAnew_23 : decode cX12_setAnew 23 = .ok (.if_icmp .ge 96, 3) := by decide +kernel
theorem dX12_setAnew_26 : decode cX12_setAnew 26 = .ok (.aload_n 0, 1) := by decide +kernel
theorem dX12_setAnew_27 : decode cX12_setAnew 27 = .ok (.iload_n 1, 1) := by decide +kernel
theorem dX12_setAnew_28 : decode cX12_setAnew 28 = .ok (.iload 6, 2) := by decide +kernel
theorem dX12_setAnew_30 : decode cX12_setAnew 30 = .ok (.invokevirtual 372, 3) := by decide +kernel
theorem dX12_setAnew_33 : decode cX12_setAnew 33 = .ok (.istore 7, 2) := by decide +kernel
theorem dX12_setAnew_35 : decode cX12_setAnew 35 = .ok (.aload_n 0, 1) := by decide +kernel
theorem dX12_setAnew_36 : decode cX12_setAnew 36 = .ok (.iload 7, 2) := by decide +kernel
theorem dX12_setAnew_38 : decode cX12_setAnew 38 = .ok (.invokevirtual 375, 3) := by decide +kernel
theorem dX12_setAnew_41 : decode cX12_setAnew 41 = .ok (.istore 8, 2) := by decide +kernel
theorem dX12_setAnew_43 : decode cX12_setAnew 43 = .ok (.iload_n 2, 1) := by decide +kernel
theorem dX12_setAnew_44 : decode cX12_setAnew 44 = .ok (.iload 6, 2) := by decide +kernel
theorem dX12_setAnew_46 : decode cX12_setAnew 46 = .ok (.invokestatic 163, 3) := by decide +kernel
theorem dX12_setAnew_49 : decode cX12_setAnew 49 = .ok (.istore 9, 2) := by decide +kernel
theorem dX12_setAnew_51 : decode cX12_setAnew 51 = .ok (.iload 9, 2) := by decide +kernel
theorem dX12_setAnew_53 : decode cX12_setAnew 53 = .ok (.iload 8, 2) := by decide +kernel
theorem dX12_setAnew_55 : decode cX12_setAnew 55 = .ok (.if_icmp .ge 35, 3) := by decide +kernel
theorem dX12_setAnew_58 : decode cX12_setAnew 58 = .ok (.iload 5, 2) := by decide +kernel
theorem dX12_setAnew_60 : decode cX12_setAnew 60 = .ok (.aload_n 0, 1) := by decide +kernel
theorem dX12_setAnew_61 : decode cX12_setAnew 61 = .ok (.aload_n 0, 1) := by decide +kernel
theorem dX12_setAnew_62 : decode cX12_setAnew 62 = .ok (.getfield 107, 3) := by decide +kernel
theorem dX12_setAnew_65 : decode cX12_setAnew 65 = .ok (.iload 7, 2) := by decide +kernel
theorem dX12_setAnew_67 : decode cX12_setAnew 67 = .ok (.iaload, 1) := by decide +kernel
theorem dX12_setAnew_68 : decode cX12_setAnew 68 = .ok (.iload_n 2, 1) := by decide +kernel
theorem dX12_setAnew_69 : decode cX12_setAnew 69 = .ok (.iadd, 1) := by decide +kernel
theorem dX12_setAnew_70 : decode cX12_setAnew 70 = .ok (.iload 6, 2) := by decide +kernel
theorem dX12_setAnew_72 : decode cX12_setAnew 72 = .ok (.isub, 1) := by decide +kernel
theorem dX12_setAnew_73 : decode cX12_setAnew 73 = .ok (.invokevirtual 366, 3) := by decide +kernel
theorem dX12_setAnew_76 : decode cX12_setAnew 76 = .ok (.iload 8, 2) := by decide +kernel
theorem dX12_setAnew_78 : decode cX12_setAnew 78 = .ok (.iload 9, 2) := by decide +kernel
theorem dX12_setAnew_80 : decode cX12_setAnew 80 = .ok (.isub, 1) := by decide +kernel
theorem dX12_setAnew_81 : decode cX12_setAnew 81 = .ok (.imul, 1) := by decide +kernel
theorem dX12_setAnew_82 : decode cX12_setAnew 82 = .ok (.iload 8, 2) := by decide +kernel
theorem dX12_setAnew_84 : decode cX12_setAnew 84 = .ok (.invokestatic 378, 3) := by decide +kernel
theorem dX12_setAnew_87 : decode cX12_setAnew 87 = .ok (.iadd, 1) := by decide +kernel
theorem dX12_setAnew_88 : decode cX12_setAnew 88 = .ok (.istore 5, 2) := by decide +kernel
theorem dX12_setAnew_90 : decode cX12_setAnew 90 = .ok (.iload 8, 2) := by decide +kernel
theorem dX12_setAnew_92 : decode cX12_setAnew 92 = .ok (.iload_n 3, 1) := by decide +kernel
theorem dX12_setAnew_93 : decode cX12_setAnew 93 = .ok (.imul, 1) := by decide +kernel
theorem dX12_setAnew_94 : decode cX12_setAnew 94 = .ok (.iload 4, 2) := by decide +kernel
theorem dX12_setAnew_96 : decode cX12_setAnew 96 = .ok (.idiv, 1) := by decide +kernel
theorem dX12_setAnew_97 : decode cX12_setAnew 97 = .ok (.istore 10, 2) := by decide +kernel
theorem dX12_setAnew_99 : decode cX12_setAnew 99 = .ok (.iload 6, 2) := by decide +kernel
theorem dX12_setAnew_101 : decode cX12_setAnew 101 = .ok (.iload 10, 2) := by decide +kernel
theorem dX12_setAnew_103 : decode cX12_setAnew 103 = .ok (.iconst 1, 1) := by decide +kernel
theorem dX12_setAnew_104 : decode cX12_setAnew 104 = .ok (.if_icmp .ge 7, 3) := by decide +kernel
theorem dX12_setAnew_107 : decode cX12_setAnew 107 = .ok (.iconst 1, 1) := by decide +kernel
theorem dX12_setAnew_108 : decode cX12_setAnew 108 = .ok (.goto 5, 3) := by decide +kernel
theorem dX12_setAnew_111 : decode cX12_setAnew 111 = .ok (.iload 10, 2) := by decide +kernel
theorem dX12_setAnew_113 : decode cX12_setAnew 113 = .ok (.iadd, 1) := by decide +kernel
theorem dX12_setAnew_114 : decode cX12_setAnew 114 = .ok (.istore 6, 2) := by decide +kernel
theorem dX12_setAnew_116 : decode cX12_setAnew 116 = .ok (.goto (-100), 3) := by decide +kernel
theorem dX12_setAnew_119 : decode cX12_setAnew 119 = .ok (.iload 5, 2) := by decide +kernel
theorem dX12_setAnew_121 : decode cX12_setAnew 121 = .ok (.ireturn, 1) := by decide +kernel
theorem dX12_anew_0 : decode cX12_anew 0 = .ok (.aload_n 0, 1) := by decide +kernel
theorem dX12_anew_1 : decode cX12_anew 1 = .ok (.iconst 0, 1) := by decide +kernel
theorem dX12_anew_2 : decode cX12_anew 2 = .ok (.putfield 119, 3) := by decide +kernel
theorem dX12_anew_5 : decode cX12_anew 5 = .ok (.aload_n 0, 1) := by decide +kernel
theorem dX12_anew_6 : decode cX12_anew 6 = .ok (.iload_n 3, 1) := by decide +kernel
theorem dX12_anew_7 : decode cX12_anew 7 = .ok (.iconst 0, 1) := by decide +kernel
theorem dX12_anew_8 : decode cX12_anew 8 = .ok (.aload_n 0, 1) := by decide +kernel
theorem dX12_anew_9 : decode cX12_anew 9 = .ok (.getfield 130, 3) := by decide +kernel
theorem dX12_anew_12 : decode cX12_anew 12 = .ok (.iconst 1, 1) := by decide +kernel
theorem dX12_anew_13 : decode cX12_anew 13 = .ok (.isub, 1) := by decide +kernel
theorem dX12_anew_14 : decode cX12_anew 14 = .ok (.invokestatic 133, 3) := by decide +kernel
theorem dX12_anew_17 : decode cX12_anew 17 = .ok (.iconst 1, 1) := by decide +kernel
theorem dX12_anew_18 : decode cX12_anew 18 = .ok (.invokevirtual 148, 3) := by decide +kernel
theorem dX12_anew_21 : decode cX12_anew 21 = .ok (.ifCond .eq 34, 3) := by decide +kernel
theorem dX12_anew_24 : decode cX12_anew 24 = .ok (.aload_n 0, 1) := by decide +kernel
theorem dX12_anew_25 : decode cX12_anew 25 = .ok (.iload_n 1, 1) := by decide +kernel
theorem dX12_anew_26 : decode cX12_anew 26 = .ok (.iconst 1, 1) := by decide +kernel
theorem dX12_anew_27 : decode cX12_anew 27 = .ok (.iconst 4, 1) := by decide +kernel
theorem dX12_anew_28 : decode cX12_anew 28 = .ok (.invokestatic 133, 3) := by decide +kernel
theorem dX12_anew_31 : decode cX12_anew 31 = .ok (.ifCond .eq 16, 3) := by decide +kernel
theorem dX12_anew_34 : decode cX12_anew 34 = .ok (.iload_n 2, 1) := by decide +kernel
theorem dX12_anew_35 : decode cX12_anew 35 = .ok (.iconst 1, 1) := by decide +kernel
theorem dX12_anew_36 : decode cX12_anew 36 = .ok (.iconst 4, 1) := by decide +kernel
theorem dX12_anew_37 : decode cX12_anew 37 = .ok (.invokestatic 133, 3) := by decide +kernel
theorem dX12_anew_40 : decode cX12_anew 40 = .ok (.ifCond .eq 7, 3) := by decide +kernel
theorem dX12_anew_43 : decode cX12_anew 43 = .ok (.iconst 1, 1) := by decide +kernel
theorem dX12_anew_44 : decode cX12_anew 44 = .ok (.goto 4, 3) := by decide +kernel
theorem dX12_anew_47 : decode cX12_anew 47 = .ok (.iconst 0, 1) := by decide +kernel
theorem dX12_anew_48 : decode cX12_anew 48 = .ok (.iconst 2, 1) := by decide +kernel
theorem dX12_anew_49 : decode cX12_anew 49 = .ok (.invokevirtual 148, 3) := by decide +kernel
theorem dX12_anew_52 : decode cX12_anew 52 = .ok (.ifCond .ne 5, 3) := by decide +kernel
theorem dX12_anew_55 : decode cX12_anew 55 = .ok (.iconst 0, 1) := by decide +kernel
theorem dX12_anew_56 : decode cX12_anew 56 = .ok (.ireturn, 1) := by decide +kernel
theorem dX12_anew_57 : decode cX12_anew 57 = .ok (.aload_n 0, 1) := by decide +kernel
theorem dX12_anew_58 : decode cX12_anew 58 = .ok (.invokevirtual 293, 3) := by decide +kernel
theorem dX12_anew_61 : decode cX12_anew 61 = .ok (.iconst 0, 1) := by decide +kernel
theorem dX12_anew_62 : decode cX12_anew 62 = .ok (.istore 4, 2) := by decide +kernel
theorem dX12_anew_64 : decode cX12_anew 64 = .ok (.iload 4, 2) := by decide +kernel
theorem dX12_anew_66 : decode cX12_anew 66 = .ok (.aload_n 0, 1) := by decide +kernel
theorem dX12_anew_67 : decode cX12_anew 67 = .ok (.getfield 287, 3) := by decide +kernel
theorem dX12_anew_70 : decode cX12_anew 70 = .ok (.if_icmp .ge 49, 3) := by decide +kernel
theorem dX12_anew_73 : decode cX12_anew 73 = .ok (.aload_n 0, 1) := by decide +kernel
theorem dX12_anew_74 : decode cX12_anew 74 = .ok (.iload 4, 2) := by decide +kernel
theorem dX12_anew_76 : decode cX12_anew 76 = .ok (.invokevirtual 296, 3) := by decide +kernel
theorem dX12_anew_79 : decode cX12_anew 79 = .ok (.ifCond .eq 34, 3) := by decide +kernel
theorem dX12_anew_82 : decode cX12_anew 82 = .ok (.iload_n 3, 1) := by decide +kernel
theorem dX12_anew_83 : decode cX12_anew 83 = .ok (.aload_n 0, 1) := by decide +kernel
theorem dX12_anew_84 : decode cX12_anew 84 = .ok (.iload 4, 2) := by decide +kernel
theorem dX12_anew_86 : decode cX12_anew 86 = .ok (.invokevirtual 299, 3) := by decide +kernel
theorem dX12_anew_89 : decode cX12_anew 89 = .ok (.aload_n 0, 1) := by decide +kernel
theorem dX12_anew_90 : decode cX12_anew 90 = .ok (.iload 4, 2) := by decide +kernel
theorem dX12_anew_92 : decode cX12_anew 92 = .ok (.invokevirtual 302, 3) := by decide +kernel
theorem dX12_anew_95 : decode cX12_anew 95 = .ok (.iconst 1, 1) := by decide +kernel
theorem dX12_anew_96 : decode cX12_anew 96 = .ok (.isub, 1) := by decide +kernel
theorem dX12_anew_97 : decode cX12_anew 97 = .ok (.invokestatic 133, 3) := by decide +kernel
theorem dX12_anew_100 : decode cX12_anew 100 = .ok (.ifCond .eq 13, 3) := by decide +kernel
theorem dX12_anew_103 : decode cX12_anew 103 = .ok (.aload_n 0, 1) := by decide +kernel
theorem dX12_anew_104 : decode cX12_anew 104 = .ok (.iload 4, 2) := by decide +kernel
theorem dX12_anew_106 : decode cX12_anew 106 = .ok (.iload_n 3, 1) := by decide +kernel
theorem dX12_anew_107 : decode cX12_anew 107 = .ok (.iload_n 1, 1) := by decide +kernel
theorem dX12_anew_108 : decode cX12_anew 108 = .ok (.iload_n 2, 1) := by decide +kernel
theorem dX12_anew_109 : decode cX12_anew 109 = .ok (.invokevirtual 381, 3) := by decide +kernel
theorem dX12_anew_112 : decode cX12_anew 112 = .ok (.ireturn, 1) := by decide +kernel
theorem dX12_anew_113 : decode cX12_anew 113 = .ok (.iinc 4 1, 3) := by decide +kernel
theorem dX12_anew_116 : decode cX12_anew 116 = .ok (.goto (-52), 3) := by decide +kernel
theorem dX12_anew_119 : decode cX12_anew 119 = .ok (.aload_n 0, 1) := by decide +kernel
theorem dX12_anew_120 : decode cX12_anew 120 = .ok (.getfield 19, 3) := by decide +kernel
theorem dX12_anew_123 : decode cX12_anew 123 = .ok (.iload_n 3, 1) := by decide +kernel
theorem dX12_anew_124 : decode cX12_anew 124 = .ok (.iaload, 1) := by decide +kernel
theorem dX12_anew_125 : decode cX12_anew 125 = .ok (.ireturn, 1) := by decide +kernel
theorem dJ9_floorDiv_7cf53_0 : decode cJ9_floorDiv_7cf53 0 = .ok (.iload_n 0, 1) := by decide +kernel
theorem dJ9_floorDiv_7cf53_1 : decode cJ9_floorDiv_7cf53 1 = .ok (.iload_n 1, 1) := by decide +kernel
theorem dJ9_floorDiv_7cf53_2 : decode cJ9_floorDiv_7cf53 2 = .ok (.idiv, 1) := by decide +kernel
theorem dJ9_floorDiv_7cf53_3 : decode cJ9_floorDiv_7cf53 3 = .ok (.istore_n 2, 1) := by decide +kernel
theorem dJ9_floorDiv_7cf53_4 : decode cJ9_floorDiv_7cf53 4 = .ok (.iload_n 0, 1) := by decide +kernel
theorem dJ9_floorDiv_7cf53_5 : decode cJ9_floorDiv_7cf53 5 = .ok (.iload_n 1, 1) := by decide +kernel
theorem dJ9_floorDiv_7cf53_6 : decode cJ9_floorDiv_7cf53 6 = .ok (.ixor, 1) := by decide +kernel
theorem dJ9_floorDiv_7cf53_7 : decode cJ9_floorDiv_7cf53 7 = .ok (.ifCond .ge 14, 3) := by decide +kernel
theorem dJ9_floorDiv_7cf53_10 : decode cJ9_floorDiv_7cf53 10 = .ok (.iload_n 2, 1) := by decide +kernel
theorem dJ9_floorDiv_7cf53_11 : decode cJ9_floorDiv_7cf53 11 = .ok (.iload_n 1, 1) := by decide +kernel
theorem dJ9_floorDiv_7cf53_12 : decode cJ9_floorDiv_7cf53 12 = .ok (.imul, 1) := by decide +kernel
theorem dJ9_floorDiv_7cf53_13 : decode cJ9_floorDiv_7cf53 13 = .ok (.iload_n 0, 1) := by decide +kernel
theorem dJ9_floorDiv_7cf53_14 : decode cJ9_floorDiv_7cf53 14 = .ok (.if_icmp .eq 7, 3) := by decide +kernel
theorem dJ9_floorDiv_7cf53_17 : decode cJ9_floorDiv_7cf53 17 = .ok (.iload_n 2, 1) := by decide +kernel
theorem dJ9_floorDiv_7cf53_18 : decode cJ9_floorDiv_7cf53 18 = .ok (.iconst 1, 1) := by decide +kernel
theorem dJ9_floorDiv_7cf53_19 : decode cJ9_floorDiv_7cf53 19 = .ok (.isub, 1) := by decide +kernel
theorem dJ9_floorDiv_7cf53_20 : decode cJ9_floorDiv_7cf53 20 = .ok (.ireturn, 1) := by decide +kernel
theorem dJ9_floorDiv_7cf53_21 : decode cJ9_floorDiv_7cf53 21 = .ok (.iload_n 2, 1) := by decide +kernel
theorem dJ9_floorDiv_7cf53_22 : decode cJ9_floorDiv_7cf53 22 = .ok (.ireturn, 1) := by decide +kernel
theorem dJ9_abs_0f7a4_0 : decode cJ9_abs_0f7a4 0 = .ok (.iload_n 0, 1) := by decide +kernel
theorem dJ9_abs_0f7a4_1 : decode cJ9_abs_0f7a4 1 = .ok (.ifCond .ge 8, 3) := by decide +kernel
theorem dJ9_abs_0f7a4_4 : decode cJ9_abs_0f7a4 4 = .ok (.iload_n 0, 1) := by decide +kernel
theorem dJ9_abs_0f7a4_5 : decode cJ9_abs_0f7a4 5 = .ok (.ineg, 1) := by decide +kernel
theorem dJ9_abs_0f7a4_6 : decode cJ9_abs_0f7a4 6 = .ok (.goto 4, 3) := by decide +kernel
theorem dJ9_abs_0f7a4_9 : decode cJ9_abs_0f7a4 9 = .ok (.iload_n 0, 1) := by decide +kernel
theorem dJ9_abs_0f7a4_10 : decode cJ9_abs_0f7a4 10 = .ok (.ireturn, 1) := by decide +kernel
theorem dJ9_abs_067f4_0 : decode cJ9_abs_067f4 0 = .ok (.lload_n 0, 1) := by decide +kernel
theorem dJ9_abs_067f4_1 : decode cJ9_abs_067f4 1 = .ok (.lconst 0, 1) := by decide +kernel
theorem dJ9_abs_067f4_2 : decode cJ9_abs_067f4 2 = .ok (.lcmp, 1) := by decide +kernel
theorem dJ9_abs_067f4_3 : decode cJ9_abs_067f4 3 = .ok (.ifCond .ge 8, 3) := by decide +kernel
theorem dJ9_abs_067f4_6 : decode cJ9_abs_067f4 6 = .ok (.lload_n 0, 1) := by decide +kernel
theorem dJ9_abs_067f4_7 : decode cJ9_abs_067f4 7 = .ok (.lneg, 1) := by decide +kernel
theorem dJ9_abs_067f4_8 : decode cJ9_abs_067f4 8 = .ok (.goto 4, 3) := by decide +kernel
theorem dJ9_abs_067f4_11 : decode cJ9_abs_067f4 11 = .ok (.lload_n 0, 1) := by decide +kernel
theorem dJ9_abs_067f4_12 : decode cJ9_abs_067f4 12 = .ok (.lreturn, 1) := by decide +kernel
theorem dJ9_max_7cf53_0 : decode cJ9_max_7cf53 0 = .ok (.iload_n 0, 1) := by decide +kernel
theorem dJ9_max_7cf53_1 : decode cJ9_max_7cf53 1 = .ok (.iload_n 1, 1) := by decide +kernel
theorem dJ9_max_7cf53_2 : decode cJ9_max_7cf53 2 = .ok (.if_icmp .lt 7, 3) := by decide +kernel
theorem dJ9_max_7cf53_5 : decode cJ9_max_7cf53 5 = .ok (.iload_n 0, 1) := by decide +kernel
theorem dJ9_max_7cf53_6 : decode cJ9_max_7cf53 6 = .ok (.goto 4, 3) := by decide +kernel
theorem dJ9_max_7cf53_9 : decode cJ9_max_7cf53 9 = .ok (.iload_n 1, 1) := by decide +kernel
theorem dJ9_max_7cf53_10 : decode cJ9_max_7cf53 10 = .ok (.ireturn, 1) := by decide +kernel
theorem dJ9_min_7cf53_0 : decode cJ9_min_7cf53 0 = .ok (.iload_n 0, 1) := by decide +kernel
theorem dJ9_min_7cf53_1 : decode cJ9_min_7cf53 1 = .ok (.iload_n 1, 1) := by decide +kernel
theorem dJ9_min_7cf53_2 : decode cJ9_min_7cf53 2 = .ok (.if_icmp .gt 7, 3) := by decide +kernel
theorem dJ9_min_7cf53_5 : decode cJ9_min_7cf53 5 = .ok (.iload_n 0, 1) := by decide +kernel
theorem dJ9_min_7cf53_6 : decode cJ9_min_7cf53 6 = .ok (.goto 4, 3) := by decide +kernel
theorem dJ9_min_7cf53_9 : decode cJ9_min_7cf53 9 = .ok (.iload_n 1, 1) := by decide +kernel
theorem dJ9_min_7cf53_10 : decode cJ9_min_7cf53 10 = .ok (.ireturn, 1) := by decide +kernel
