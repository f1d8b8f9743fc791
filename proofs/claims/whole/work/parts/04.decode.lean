theorem dX0_init_0 : decode cX0_init 0 = .ok (.aload_n 0, 1) := by decide +kernel
theorem dX0_init_1 : decode cX0_init 1 = .ok (.invokespecial 1, 3) := by decide +kernel
theorem dX0_init_4 : decode cX0_init 4 = .ok (.aload_n 0, 1) := by decide +kernel
theorem dX0_init_5 : decode cX0_init 5 = .ok (.bipush 16, 2) := by decide +kernel
theorem dX0_init_7 : decode cX0_init 7 = .ok (.newarray .int, 2) := by decide +kernel
theorem dX0_init_9 : decode cX0_init 9 = .ok (.putfield 9, 3) := by decide +kernel
theorem dX0_init_12 : decode cX0_init 12 = .ok (.iconst 0, 1) := by decide +kernel
theorem dX0_init_13 : decode cX0_init 13 = .ok (.istore_n 1, 1) := by decide +kernel
theorem dX0_init_14 : decode cX0_init 14 = .ok (.iload_n 1, 1) := by decide +kernel
theorem dX0_init_15 : decode cX0_init 15 = .ok (.bipush 16, 2) := by decide +kernel
theorem dX0_init_17 : decode cX0_init 17 = .ok (.if_icmp .ge 20, 3) := by decide +kernel
theorem dX0_init_20 : decode cX0_init 20 = .ok (.aload_n 0, 1) := by decide +kernel
theorem dX0_init_21 : decode cX0_init 21 = .ok (.getfield 9, 3) := by decide +kernel
theorem dX0_init_24 : decode cX0_init 24 = .ok (.iload_n 1, 1) := by decide +kernel
theorem dX0_init_25 : decode cX0_init 25 = .ok (.getstatic 13, 3) := by decide +kernel
theorem dX0_init_28 : decode cX0_init 28 = .ok (.iload_n 1, 1) := by decide +kernel
theorem dX0_init_29 : decode cX0_init 29 = .ok (.iaload, 1) := by decide +kernel
theorem dX0_init_30 : decode cX0_init 30 = .ok (.iastore, 1) := by decide +kernel
theorem dX0_init_31 : decode cX0_init 31 = .ok (.iinc 1 1, 3) := by decide +kernel
theorem dX0_init_34 : decode cX0_init 34 = .ok (.goto (-20), 3) := by decide +kernel
theorem dX0_init_37 : decode cX0_init 37 = .ok (.return_, 1) := by decide +kernel
theorem dX0_of_0 : decode cX0_of 0 = .ok (.iload_n 1, 1) := by decide +kernel
theorem dX0_of_1 : decode cX0_of 1 = .ok (.iconst 2, 1) := by decide +kernel
theorem dX0_of_2 : decode cX0_of 2 = .ok (.if_icmp .lt 9, 3) := by decide +kernel
theorem dX0_of_5 : decode cX0_of 5 = .ok (.iload_n 1, 1) := by decide +kernel
theorem dX0_of_6 : decode cX0_of 6 = .ok (.bipush 15, 2) := by decide +kernel
theorem dX0_of_8 : decode cX0_of 8 = .ok (.if_icmp .le 7, 3) := by decide +kernel
theorem dX0_of_11 : decode cX0_of 11 = .ok (.iconst 0, 1) := by decide +kernel
theorem dX0_of_12 : decode cX0_of 12 = .ok (.goto 9, 3) := by decide +kernel
theorem dX0_of_15 : decode cX0_of 15 = .ok (.aload_n 0, 1) := by decide +kernel
theorem dX0_of_16 : decode cX0_of 16 = .ok (.getfield 9, 3) := by decide +kernel
theorem dX0_of_19 : decode cX0_of 19 = .ok (.iload_n 1, 1) := by decide +kernel
theorem dX0_of_20 : decode cX0_of 20 = .ok (.iaload, 1) := by decide +kernel
theorem dX0_of_21 : decode cX0_of 21 = .ok (.ireturn, 1) := by decide +kernel
theorem dX0_allows_0 : decode cX0_allows 0 = .ok (.iload_n 1, 1) := by decide +kernel
theorem dX0_allows_1 : decode cX0_allows 1 = .ok (.iconst 2, 1) := by decide +kernel
theorem dX0_allows_2 : decode cX0_allows 2 = .ok (.if_icmp .lt 27, 3) := by decide +kernel
theorem dX0_allows_5 : decode cX0_allows 5 = .ok (.iload_n 1, 1) := by decide +kernel
theorem dX0_allows_6 : decode cX0_allows 6 = .ok (.bipush 15, 2) := by decide +kernel
theorem dX0_allows_8 : decode cX0_allows 8 = .ok (.if_icmp .gt 21, 3) := by decide +kernel
theorem dX0_allows_11 : decode cX0_allows 11 = .ok (.iload_n 2, 1) := by decide +kernel
theorem dX0_allows_12 : decode cX0_allows 12 = .ok (.getstatic 16, 3) := by decide +kernel
theorem dX0_allows_15 : decode cX0_allows 15 = .ok (.iload_n 1, 1) := by decide +kernel
theorem dX0_allows_16 : decode cX0_allows 16 = .ok (.iaload, 1) := by decide +kernel
theorem dX0_allows_17 : decode cX0_allows 17 = .ok (.if_icmp .lt 12, 3) := by decide +kernel
theorem dX0_allows_20 : decode cX0_allows 20 = .ok (.iload_n 2, 1) := by decide +kernel
theorem dX0_allows_21 : decode cX0_allows 21 = .ok (.getstatic 19, 3) := by decide +kernel
theorem dX0_allows_24 : decode cX0_allows 24 = .ok (.iload_n 1, 1) := by decide +kernel
theorem dX0_allows_25 : decode cX0_allows 25 = .ok (.iaload, 1) := by decide +kernel
theorem dX0_allows_26 : decode cX0_allows 26 = .ok (.if_icmp .le 5, 3) := by decide +kernel
theorem dX0_allows_29 : decode cX0_allows 29 = .ok (.iconst 0, 1) := by decide +kernel
theorem dX0_allows_30 : decode cX0_allows 30 = .ok (.ireturn, 1) := by decide +kernel
theorem dX0_allows_31 : decode cX0_allows 31 = .ok (.iload_n 1, 1) := by decide +kernel
theorem dX0_allows_32 : decode cX0_allows 32 = .ok (.iconst 4, 1) := by decide +kernel
theorem dX0_allows_33 : decode cX0_allows 33 = .ok (.if_icmp .ne 19, 3) := by decide +kernel
theorem dX0_allows_36 : decode cX0_allows 36 = .ok (.iload_n 2, 1) := by decide +kernel
theorem dX0_allows_37 : decode cX0_allows 37 = .ok (.aload_n 0, 1) := by decide +kernel
theorem dX0_allows_38 : decode cX0_allows 38 = .ok (.getfield 9, 3) := by decide +kernel
theorem dX0_allows_41 : decode cX0_allows 41 = .ok (.iconst 5, 1) := by decide +kernel
theorem dX0_allows_42 : decode cX0_allows 42 = .ok (.iaload, 1) := by decide +kernel
theorem dX0_allows_43 : decode cX0_allows 43 = .ok (.if_icmp .ge 7, 3) := by decide +kernel
theorem dX0_allows_46 : decode cX0_allows 46 = .ok (.iconst 1, 1) := by decide +kernel
theorem dX0_allows_47 : decode cX0_allows 47 = .ok (.goto 4, 3) := by decide +kernel
theorem dX0_allows_50 : decode cX0_allows 50 = .ok (.iconst 0, 1) := by decide +kernel
theorem dX0_allows_51 : decode cX0_allows 51 = .ok (.ireturn, 1) := by decide +kernel
theorem dX0_allows_52 : decode cX0_allows 52 = .ok (.iload_n 1, 1) := by decide +kernel
theorem dX0_allows_53 : decode cX0_allows 53 = .ok (.iconst 5, 1) := by decide +kernel
theorem dX0_allows_54 : decode cX0_allows 54 = .ok (.if_icmp .ne 13, 3) := by decide +kernel
theorem dX0_allows_57 : decode cX0_allows 57 = .ok (.aload_n 0, 1) := by decide +kernel
theorem dX0_allows_58 : decode cX0_allows 58 = .ok (.getfield 9, 3) := by decide +kernel
theorem dX0_allows_61 : decode cX0_allows 61 = .ok (.iconst 4, 1) := by decide +kernel
theorem dX0_allows_62 : decode cX0_allows 62 = .ok (.iaload, 1) := by decide +kernel
theorem dX0_allows_63 : decode cX0_allows 63 = .ok (.iload_n 2, 1) := by decide +kernel
theorem dX0_allows_64 : decode cX0_allows 64 = .ok (.if_icmp .ge 7, 3) := by decide +kernel
theorem dX0_allows_67 : decode cX0_allows 67 = .ok (.iconst 1, 1) := by decide +kernel
theorem dX0_allows_68 : decode cX0_allows 68 = .ok (.goto 4, 3) := by decide +kernel
theorem dX0_allows_71 : decode cX0_allows 71 = .ok (.iconst 0, 1) := by decide +kernel
theorem dX0_allows_72 : decode cX0_allows 72 = .ok (.ireturn, 1) := by decide +kernel
theorem dX0_put_0 : decode cX0_put 0 = .ok (.aload_n 0, 1) := by decide +kernel
theorem dX0_put_1 : decode cX0_put 1 = .ok (.iload_n 1, 1) := by decide +kernel
theorem dX0_put_2 : decode cX0_put 2 = .ok (.iload_n 2, 1) := by decide +kernel
theorem dX0_put_3 : decode cX0_put 3 = .ok (.invokevirtual 22, 3) := by decide +kernel
theorem dX0_put_6 : decode cX0_put 6 = .ok (.ifCond .eq 10, 3) := by decide +kernel
theorem dX0_put_9 : decode cX0_put 9 = .ok (.aload_n 0, 1) := by decide +kernel
theorem dX0_put_10 : decode cX0_put 10 = .ok (.getfield 9, 3) := by decide +kernel
theorem dX0_put_13 : decode cX0_put 13 = .ok (.iload_n 1, 1) := by decide +kernel
theorem dX0_put_14 : decode cX0_put 14 = .ok (.iload_n 2, 1) := by decide +kernel
theorem dX0_put_15 : decode cX0_put 15 = .ok (.iastore, 1) := by decide +kernel
theorem dX0_put_16 : decode cX0_put 16 = .ok (.return_, 1) := by decide +kernel
theorem dX7_init_0 : decode cX7_init 0 = .ok (.aload_n 0, 1) := by decide +kernel
theorem dX7_init_1 : decode cX7_init 1 = .ok (.invokespecial 3, 3) := by decide +kernel
theorem dX7_init_4 : decode cX7_init 4 = .ok (.aload_n 0, 1) := by decide +kernel
theorem dX7_init_5 : decode cX7_init 5 = .ok (.sipush 800, 3) := by decide +kernel
theorem dX7_init_8 : decode cX7_init 8 = .ok (.newarray .int, 2) := by decide +kernel
theorem dX7_init_10 : decode cX7_init 10 = .ok (.putfield 9, 3) := by decide +kernel
theorem dX7_init_13 : decode cX7_init 13 = .ok (.aload_n 0, 1) := by decide +kernel
theorem dX7_init_14 : decode cX7_init 14 = .ok (.sipush 400, 3) := by decide +kernel
theorem dX7_init_17 : decode cX7_init 17 = .ok (.newarray .int, 2) := by decide +kernel
theorem dX7_init_19 : decode cX7_init 19 = .ok (.putfield 15, 3) := by decide +kernel
theorem dX7_init_22 : decode cX7_init 22 = .ok (.return_, 1) := by decide +kernel
theorem dX7_size_0 : decode cX7_size 0 = .ok (.aload_n 0, 1) := by decide +kernel
theorem dX7_size_1 : decode cX7_size 1 = .ok (.getfield 18, 3) := by decide +kernel
theorem dX7_size_4 : decode cX7_size 4 = .ok (.ireturn, 1) := by decide +kernel
theorem dX7_has_0 : decode cX7_has 0 = .ok (.iload_n 1, 1) := by decide +kernel
theorem dX7_has_1 : decode cX7_has 1 = .ok (.ifCond .lt 15, 3) := by decide +kernel
theorem dX7_has_4 : decode cX7_has 4 = .ok (.iload_n 1, 1) := by decide +kernel
theorem dX7_has_5 : decode cX7_has 5 = .ok (.aload_n 0, 1) := by decide +kernel
theorem dX7_has_6 : decode cX7_has 6 = .ok (.getfield 18, 3) := by decide +kernel
theorem dX7_has_9 : decode cX7_has 9 = .ok (.if_icmp .ge 7, 3) := by decide +kernel
theorem dX7_has_12 : decode cX7_has 12 = .ok (.iconst 1, 1) := by decide +kernel
theorem dX7_has_13 : decode cX7_has 13 = .ok (.goto 4, 3) := by decide +kernel
theorem dX7_has_16 : decode cX7_has 16 = .ok (.iconst 0, 1) := by decide +kernel
theorem dX7_has_17 : decode cX7_has 17 = .ok (.ireturn, 1) := by decide +kernel
theorem dX7_hasRoom_0 : decode cX7_hasRoom 0 = .ok (.aload_n 0, 1) := by decide +kernel
theorem dX7_hasRoom_1 : decode cX7_hasRoom 1 = .ok (.getfield 18, 3) := by decide +kernel
theorem dX7_hasRoom_4 : decode cX7_hasRoom 4 = .ok (.iload_n 1, 1) := by decide +kernel
theorem dX7_hasRoom_5 : decode cX7_hasRoom 5 = .ok (.iadd, 1) := by decide +kernel
theorem dX7_hasRoom_6 : decode cX7_hasRoom 6 = .ok (.sipush 800, 3) := by decide +kernel
theorem dX7_hasRoom_9 : decode cX7_hasRoom 9 = .ok (.if_icmp .gt 7, 3) := by decide +kernel
theorem dX7_hasRoom_12 : decode cX7_hasRoom 12 = .ok (.iconst 1, 1) := by decide +kernel
theorem dX7_hasRoom_13 : decode cX7_hasRoom 13 = .ok (.goto 4, 3) := by decide +kernel
theorem dX7_hasRoom_16 : decode cX7_hasRoom 16 = .ok (.iconst 0, 1) := by decide +kernel
theorem dX7_hasRoom_17 : decode cX7_hasRoom 17 = .ok (.ireturn, 1) := by decide +kernel
theorem dX7_at_0 : decode cX7_at 0 = .ok (.iload_n 1, 1) := by decide +kernel
theorem dX7_at_1 : decode cX7_at 1 = .ok (.ifCond .lt 11, 3) := by decide +kernel
theorem dX7_at_4 : decode cX7_at 4 = .ok (.iload_n 1, 1) := by decide +kernel
theorem dX7_at_5 : decode cX7_at 5 = .ok (.aload_n 0, 1) := by decide +kernel
theorem dX7_at_6 : decode cX7_at 6 = .ok (.getfield 18, 3) := by decide +kernel
theorem dX7_at_9 : decode cX7_at 9 = .ok (.if_icmp .lt 7, 3) := by decide +kernel
theorem dX7_at_12 : decode cX7_at 12 = .ok (.iconst 0, 1) := by decide +kernel
theorem dX7_at_13 : decode cX7_at 13 = .ok (.goto 9, 3) := by decide +kernel
theorem dX7_at_16 : decode cX7_at 16 = .ok (.aload_n 0, 1) := by decide +kernel
theorem dX7_at_17 : decode cX7_at 17 = .ok (.getfield 9, 3) := by decide +kernel
theorem dX7_at_20 : decode cX7_at 20 = .ok (.iload_n 1, 1) := by decide +kernel
theorem dX7_at_21 : decode cX7_at 21 = .ok (.iaload, 1) := by decide +kernel
theorem dX7_at_22 : decode cX7_at 22 = .ok (.ireturn, 1) := by decide +kernel
theorem dX7_put_0 : decode cX7_put 0 = .ok (.aload_n 0, 1) := by decide +kernel
theorem dX7_put_1 : decode cX7_put 1 = .ok (.iload_n 1, 1) := by decide +kernel
theorem dX7_put_2 : decode cX7_put 2 = .ok (.invokevirtual 22, 3) := by decide +kernel
theorem dX7_put_5 : decode cX7_put 5 = .ok (.ifCond .eq 10, 3) := by decide +kernel
theorem dX7_put_8 : decode cX7_put 8 = .ok (.aload_n 0, 1) := by decide +kernel
theorem dX7_put_9 : decode cX7_put 9 = .ok (.getfield 9, 3) := by decide +kernel
theorem dX7_put_12 : decode cX7_put 12 = .ok (.iload_n 1, 1) := by decide +kernel
theorem dX7_put_13 : decode cX7_put 13 = .ok (.iload_n 2, 1) := by decide +kernel
theorem dX7_put_14 : decode cX7_put 14 = .ok (.iastore, 1) := by decide +kernel
theorem dX7_put_15 : decode cX7_put 15 = .ok (.return_, 1) := by decide +kernel
theorem dX7_append_0 : decode cX7_append 0 = .ok (.aload_n 0, 1) := by decide +kernel
theorem dX7_append_1 : decode cX7_append 1 = .ok (.getfield 18, 3) := by decide +kernel
theorem dX7_append_4 : decode cX7_append 4 = .ok (.sipush 800, 3) := by decide +kernel
theorem dX7_append_7 : decode cX7_append 7 = .ok (.if_icmp .ge 23, 3) := by decide +kernel
theorem dX7_append_10 : decode cX7_append 10 = .ok (.aload_n 0, 1) := by decide +kernel
theorem dX7_append_11 : decode cX7_append 11 = .ok (.getfield 9, 3) := by decide +kernel
theorem dX7_append_14 : decode cX7_append 14 = .ok (.aload_n 0, 1) := by decide +kernel
theorem dX7_append_15 : decode cX7_append 15 = .ok (.getfield 18, 3) := by decide +kernel
theorem dX7_append_18 : decode cX7_append 18 = .ok (.iload_n 1, 1) := by decide +kernel
theorem dX7_append_19 : decode cX7_append 19 = .ok (.iastore, 1) := by decide +kernel
theorem dX7_append_20 : decode cX7_append 20 = .ok (.aload_n 0, 1) := by decide +kernel
theorem dX7_append_21 : decode cX7_append 21 = .ok (.dup, 1) := by decide +kernel
theorem dX7_append_22 : decode cX7_append 22 = .ok (.getfield 18, 3) := by decide +kernel
theorem dX7_append_25 : decode cX7_append 25 = .ok (.iconst 1, 1) := by decide +kernel
theorem dX7_append_26 : decode cX7_append 26 = .ok (.iadd, 1) := by decide +kernel
theorem dX7_append_27 : decode cX7_append 27 = .ok (.putfield 18, 3) := by decide +kernel
theorem dX7_append_30 : decode cX7_append 30 = .ok (.return_, 1) := by decide +kernel
theorem dX7_drop_0 : decode cX7_drop 0 = .ok (.aload_n 0, 1) := by decide +kernel
theorem dX7_drop_1 : decode cX7_drop 1 = .ok (.iconst 0, 1) := by decide +kernel
theorem dX7_drop_2 : decode cX7_drop 2 = .ok (.aload_n 0, 1) := by decide +kernel
theorem dX7_drop_3 : decode cX7_drop 3 = .ok (.getfield 18, 3) := by decide +kernel
theorem dX7_drop_6 : decode cX7_drop 6 = .ok (.iload_n 1, 1) := by decide +kernel
theorem dX7_drop_7 : decode cX7_drop 7 = .ok (.isub, 1) := by decide +kernel
theorem dX7_drop_8 : decode cX7_drop 8 = .ok (.invokestatic 26, 3) := by decide +kernel
theorem dX7_drop_11 : decode cX7_drop 11 = .ok (.putfield 18, 3) := by decide +kernel
theorem dX7_drop_14 : decode cX7_drop 14 = .ok (.return_, 1) := by decide +kernel
theorem dX7_offItself_0 : decode cX7_offItself 0 = .ok (.iload_n 1, 1) := by decide +kernel
theorem dX7_offItself_1 : decode cX7_offItself 1 = .ok (.ifCond .lt 19, 3) := by decide +kernel
theorem dX7_offItself_4 : decode cX7_offItself 4 = .ok (.iload_n 3, 1) := by decide +kernel
theorem dX7_offItself_5 : decode cX7_offItself 5 = .ok (.ifCond .lt 15, 3) := by decide +kernel
theorem dX7_offItself_8 : decode cX7_offItself 8 = .ok (.iload_n 1, 1) := by decide +kernel
theorem dX7_offItself_9 : decode cX7_offItself 9 = .ok (.iload_n 2, 1) := by decide +kernel
theorem dX7_offItself_10 : decode cX7_offItself 10 = .ok (.iadd, 1) := by decide +kernel
theorem dX7_offItself_11 : decode cX7_offItself 11 = .ok (.iload_n 3, 1) := by decide +kernel
theorem dX7_offItself_12 : decode cX7_offItself 12 = .ok (.iadd, 1) := by decide +kernel
theorem dX7_offItself_13 : decode cX7_offItself 13 = .ok (.aload_n 0, 1) := by decide +kernel
theorem dX7_offItself_14 : decode cX7_offItself 14 = .ok (.getfield 18, 3) := by decide +kernel
theorem dX7_offItself_17 : decode cX7_offItself 17 = .ok (.if_icmp .le 5, 3) := by decide +kernel
theorem dX7_offItself_20 : decode cX7_offItself 20 = .ok (.iconst 0, 1) := by decide +kernel
theorem dX7_offItself_21 : decode cX7_offItself 21 = .ok (.ireturn, 1) := by decide +kernel
theorem dX7_offItself_22 : decode cX7_offItself 22 = .ok (.iconst 0, 1) := by decide +kernel
theorem dX7_offItself_23 : decode cX7_offItself 23 = .ok (.istore 4, 2) := by decide +kernel
theorem dX7_offItself_25 : decode cX7_offItself 25 = .ok (.iload_n 1, 1) := by decide +kernel
theorem dX7_offItself_26 : decode cX7_offItself 26 = .ok (.istore 5, 2) := by decide +kernel
theorem dX7_offItself_28 : decode cX7_offItself 28 = .ok (.iload 5, 2) := by decide +kernel
theorem dX7_offItself_30 : decode cX7_offItself 30 = .ok (.iload_n 1, 1) := by decide +kernel
theorem dX7_offItself_31 : decode cX7_offItself 31 = .ok (.iload_n 2, 1) := by decide +kernel
theorem dX7_offItself_32 : decode cX7_offItself 32 = .ok (.iadd, 1) := by decide +kernel
theorem dX7_offItself_33 : decode cX7_offItself 33 = .ok (.if_icmp .ge 46, 3) := by decide +kernel
theorem dX7_offItself_36 : decode cX7_offItself 36 = .ok (.aload_n 0, 1) := by decide +kernel
theorem dX7_offItself_37 : decode cX7_offItself 37 = .ok (.getfield 9, 3) := by decide +kernel
theorem dX7_offItself_40 : decode cX7_offItself 40 = .ok (.iload 5, 2) := by decide +kernel
theorem dX7_offItself_42 : decode cX7_offItself 42 = .ok (.iaload, 1) := by decide +kernel
theorem dX7_offItself_43 : decode cX7_offItself 43 = .ok (.aload_n 0, 1) := by decide +kernel
theorem dX7_offItself_44 : decode cX7_offItself 44 = .ok (.getfield 9, 3) := by decide +kernel
theorem dX7_offItself_47 : decode cX7_offItself 47 = .ok (.iload 5, 2) := by decide +kernel
theorem dX7_offItself_49 : decode cX7_offItself 49 = .ok (.iload_n 3, 1) := by decide +kernel
theorem dX7_offItself_50 : decode cX7_offItself 50 = .ok (.iadd, 1) := by decide +kernel
theorem dX7_offItself_51 : decode cX7_offItself 51 = .ok (.iaload, 1) := by decide +kernel
theorem dX7_offItself_52 : decode cX7_offItself 52 = .ok (.isub, 1) := by decide +kernel
theorem dX7_offItself_53 : decode cX7_offItself 53 = .ok (.istore 6, 2) := by decide +kernel
theorem dX7_offItself_55 : decode cX7_offItself 55 = .ok (.iload 4, 2) := by decide +kernel
theorem dX7_offItself_57 : decode cX7_offItself 57 = .ok (.iload 6, 2) := by decide +kernel
theorem dX7_offItself_59 : decode cX7_offItself 59 = .ok (.ifCond .ge 9, 3) := by decide +kernel
theorem dX7_offItself_62 : decode cX7_offItself 62 = .ok (.iload 6, 2) := by decide +kernel
theorem dX7_offItself_64 : decode cX7_offItself 64 = .ok (.ineg, 1) := by decide +kernel
theorem dX7_offItself_65 : decode cX7_offItself 65 = .ok (.goto 5, 3) := by decide +kernel
theorem dX7_offItself_68 : decode cX7_offItself 68 = .ok (.iload 6, 2) := by decide +kernel
theorem dX7_offItself_70 : decode cX7_offItself 70 = .ok (.iadd, 1) := by decide +kernel
theorem dX7_offItself_71 : decode cX7_offItself 71 = .ok (.istore 4, 2) := by decide +kernel
theorem dX7_offItself_73 : decode cX7_offItself 73 = .ok (.iinc 5 1, 3) := by decide +kernel
theorem dX7_offItself_76 : decode cX7_offItself 76 = .ok (.goto (-48), 3) := by decide +kernel
theorem dX7_offItself_79 : decode cX7_offItself 79 = .ok (.iload 4, 2) := by decide +kernel
theorem dX7_offItself_81 : decode cX7_offItself 81 = .ok (.ireturn, 1) := by decide +kernel
theorem dX7_loudness_0 : decode cX7_loudness 0 = .ok (.iconst 0, 1) := by decide +kernel
theorem dX7_loudness_1 : decode cX7_loudness 1 = .ok (.istore_n 3, 1) := by decide +kernel
theorem dX7_loudness_2 : decode cX7_loudness 2 = .ok (.iload_n 1, 1) := by decide +kernel
theorem dX7_loudness_3 : decode cX7_loudness 3 = .ok (.istore 4, 2) := by decide +kernel
theorem dX7_loudness_5 : decode cX7_loudness 5 = .ok (.iload 4, 2) := by decide +kernel
theorem dX7_loudness_7 : decode cX7_loudness 7 = .ok (.iload_n 1, 1) := by decide +kernel
theorem dX7_loudness_8 : decode cX7_loudness 8 = .ok (.iload_n 2, 1) := by decide +kernel
theorem dX7_loudness_9 : decode cX7_loudness 9 = .ok (.iadd, 1) := by decide +kernel
theorem dX7_loudness_10 : decode cX7_loudness 10 = .ok (.if_icmp .ge 21, 3) := by decide +kernel
theorem dX7_loudness_13 : decode cX7_loudness 13 = .ok (.iload_n 3, 1) := by decide +kernel
theorem dX7_loudness_14 : decode cX7_loudness 14 = .ok (.aload_n 0, 1) := by decide +kernel
theorem dX7_loudness_15 : decode cX7_loudness 15 = .ok (.iload 4, 2) := by decide +kernel
theorem dX7_loudness_17 : decode cX7_loudness 17 = .ok (.invokevirtual 32, 3) := by decide +kernel
theorem dX7_loudness_20 : decode cX7_loudness 20 = .ok (.invokestatic 36, 3) := by decide +kernel
theorem dX7_loudness_23 : decode cX7_loudness 23 = .ok (.iadd, 1) := by decide +kernel
theorem dX7_loudness_24 : decode cX7_loudness 24 = .ok (.istore_n 3, 1) := by decide +kernel
theorem dX7_loudness_25 : decode cX7_loudness 25 = .ok (.iinc 4 1, 3) := by decide +kernel
theorem dX7_loudness_28 : decode cX7_loudness 28 = .ok (.goto (-23), 3) := by decide +kernel
theorem dX7_loudness_31 : decode cX7_loudness 31 = .ok (.iload_n 3, 1) := by decide +kernel
theorem dX7_loudness_32 : decode cX7_loudness 32 = .ok (.ireturn, 1) := by decide +kernel
theorem dX7_tapeSize_0 : decode cX7_tapeSize 0 = .ok (.aload_n 0, 1) := by decide +kernel
theorem dX7_tapeSize_1 : decode cX7_tapeSize 1 = .ok (.getfield 39, 3) := by decide +kernel
theorem dX7_tapeSize_4 : decode cX7_tapeSize 4 = .ok (.ireturn, 1) := by decide +kernel
theorem dX7_tapeNumber_0 : decode cX7_tapeNumber 0 = .ok (.bipush 24, 2) := by decide +kernel
theorem dX7_tapeNumber_2 : decode cX7_tapeNumber 2 = .ok (.istore_n 2, 1) := by decide +kernel
theorem dX7_tapeNumber_3 : decode cX7_tapeNumber 3 = .ok (.iload_n 2, 1) := by decide +kernel
theorem dX7_tapeNumber_4 : decode cX7_tapeNumber 4 = .ok (.ifCond .lt 42, 3) := by decide +kernel
theorem dX7_tapeNumber_7 : decode cX7_tapeNumber 7 = .ok (.aload_n 0, 1) := by decide +kernel
theorem dX7_tapeNumber_8 : decode cX7_tapeNumber 8 = .ok (.getfield 39, 3) := by decide +kernel
theorem dX7_tapeNumber_11 : decode cX7_tapeNumber 11 = .ok (.sipush 400, 3) := by decide +kernel
theorem dX7_tapeNumber_14 : decode cX7_tapeNumber 14 = .ok (.if_icmp .ge 32, 3) := by decide +kernel
theorem dX7_tapeNumber_17 : decode cX7_tapeNumber 17 = .ok (.aload_n 0, 1) := by decide +kernel
theorem dX7_tapeNumber_18 : decode cX7_tapeNumber 18 = .ok (.getfield 15, 3) := by decide +kernel
theorem dX7_tapeNumber_21 : decode cX7_tapeNumber 21 = .ok (.aload_n 0, 1) := by decide +kernel
theorem dX7_tapeNumber_22 : decode cX7_tapeNumber 22 = .ok (.getfield 39, 3) := by decide +kernel
theorem dX7_tapeNumber_25 : decode cX7_tapeNumber 25 = .ok (.iload_n 1, 1) := by decide +kernel
theorem dX7_tapeNumber_26 : decode cX7_tapeNumber 26 = .ok (.iload_n 2, 1) := by decide +kernel
theorem dX7_tapeNumber_27 : decode cX7_tapeNumber 27 = .ok (.ishr, 1) := by decide +kernel
theorem dX7_tapeNumber_28 : decode cX7_tapeNumber 28 = .ok (.i2b, 1) := by decide +kernel
theorem dX7_tapeNumber_29 : decode cX7_tapeNumber 29 = .ok (.iastore, 1) := by decide +kernel
theorem dX7_tapeNumber_30 : decode cX7_tapeNumber 30 = .ok (.aload_n 0, 1) := by decide +kernel
theorem dX7_tapeNumber_31 : decode cX7_tapeNumber 31 = .ok (.dup, 1) := by decide +kernel
theorem dX7_tapeNumber_32 : decode cX7_tapeNumber 32 = .ok (.getfield 39, 3) := by decide +kernel
theorem dX7_tapeNumber_35 : decode cX7_tapeNumber 35 = .ok (.iconst 1, 1) := by decide +kernel
theorem dX7_tapeNumber_36 : decode cX7_tapeNumber 36 = .ok (.iadd, 1) := by decide +kernel
theorem dX7_tapeNumber_37 : decode cX7_tapeNumber 37 = .ok (.putfield 39, 3) := by decide +kernel
theorem dX7_tapeNumber_40 : decode cX7_tapeNumber 40 = .ok (.iinc 2 (-8), 3) := by decide +kernel
theorem dX7_tapeNumber_43 : decode cX7_tapeNumber 43 = .ok (.goto (-40), 3) := by decide +kernel
theorem dX7_tapeNumber_46 : decode cX7_tapeNumber 46 = .ok (.return_, 1) := by decide +kernel
theorem dX7_appendFromTape_0 : decode cX7_appendFromTape 0 = .ok (.iconst 0, 1) := by decide +kernel
theorem dX7_appendFromTape_1 : decode cX7_appendFromTape 1 = .ok (.istore_n 2, 1) := by decide +kernel
theorem dX7_appendFromTape_2 : decode cX7_appendFromTape 2 = .ok (.iload_n 2, 1) := by decide +kernel
theorem dX7_appendFromTape_3 : decode cX7_appendFromTape 3 = .ok (.iload_n 1, 1) := by decide +kernel
theorem dX7_appendFromTape_4 : decode cX7_appendFromTape 4 = .ok (.if_icmp .ge 27, 3) := by decide +kernel
theorem dX7_appendFromTape_7 : decode cX7_appendFromTape 7 = .ok (.iload_n 2, 1) := by decide +kernel
theorem dX7_appendFromTape_8 : decode cX7_appendFromTape 8 = .ok (.aload_n 0, 1) := by decide +kernel
theorem dX7_appendFromTape_9 : decode cX7_appendFromTape 9 = .ok (.getfield 39, 3) := by decide +kernel
theorem dX7_appendFromTape_12 : decode cX7_appendFromTape 12 = .ok (.if_icmp .ge 19, 3) := by decide +kernel
theorem dX7_appendFromTape_15 : decode cX7_appendFromTape 15 = .ok (.aload_n 0, 1) := by decide +kernel
theorem dX7_appendFromTape_16 : decode cX7_appendFromTape 16 = .ok (.aload_n 0, 1) := by decide +kernel
theorem dX7_appendFromTape_17 : decode cX7_appendFromTape 17 = .ok (.getfield 15, 3) := by decide +kernel
theorem dX7_appendFromTape_20 : decode cX7_appendFromTape 20 = .ok (.iload_n 2, 1) := by decide +kernel
theorem dX7_appendFromTape_21 : decode cX7_appendFromTape 21 = .ok (.iaload, 1) := by decide +kernel
theorem dX7_appendFromTape_22 : decode cX7_appendFromTape 22 = .ok (.invokevirtual 42, 3) := by decide +kernel
theorem dX7_appendFromTape_25 : decode cX7_appendFromTape 25 = .ok (.iinc 2 1, 3) := by decide +kernel
theorem dX7_appendFromTape_28 : decode cX7_appendFromTape 28 = .ok (.goto (-26), 3) := by decide +kernel
theorem dX7_appendFromTape_31 : decode cX7_appendFromTape 31 = .ok (.aload_n 0, 1) := by decide +kernel
theorem dX7_appendFromTape_32 : decode cX7_appendFromTape 32 = .ok (.iconst 0, 1) := by decide +kernel
theorem dX7_appendFromTape_33 : decode cX7_appendFromTape 33 = .ok (.putfield 39, 3) := by decide +kernel
theorem dX7_appendFromTape_36 : decode cX7_appendFromTape 36 = .ok (.return_, 1) := by decide +kernel
theorem dJ9_floorDiv_7cf53_0 : decode cJ9_floorDiv_7cf53 0 = .ok (.iload_n 0, 1) := by decide +kernel
theorem dJ9_floorDiv_7cf53_1 : decode cJ9_floorDiv_7cf53 1 = .ok (.iload_n 1, 1) := by decide +kernel
theorem dJ9_floorDiv_7cf53_2 : decode cJ9_floorDiv_7cf53 2 = .ok (.idiv, 1) := by decide +kernel
theorem dJ9_floorDiv_7cf53_3 : decode cJ9_floorDiv_7cf53 3 = .ok (.istore_n 2, 1) := by decide +kernel
theorem dJ9_floorDiv_7cf53_4 : decode cJ9_floorDiv_7cf53 4 = .ok (.iload_n 0, 1) := by decide +kernel
theorem dJ9_floorDiv_7cf53_5 : decode cJ9_floorDiv_7cf53 5 = .ok (.iload_n 1, 1) := by decide +kernel
theorem dJ9_floorDiv_7cf53_6 : decode cJ9_floorDiv_7cf53 6 = .ok (.ixor, 1) := by decide +kernel
theorem dJ9_floorDiv_7cf53_7 : decode cJ9_floorDiv_7cf53 7 = .ok (.ifCond .ge 14, 3) := by decide +kernel
theorem dJ9_floorDiv_7cf53_10 : decode cJ9_floorDiv_7cf53 10 = .ok (.iload_n 2, 1) := by decide +kernel
theorem dJ9_floorDiv_7cf53_11 : decode cJ9_floorDiv_7cf53 11 = .ok (.iload_n 1, 1) := by decide +kernel
theorem dJ9_floorDiv_7cf53_12 : decode cJ9_floorDiv_7cf53 12 = .ok (.imul, 1) := by decide +kernel
theorem dJ9_floorDiv_7cf53_13 : decode cJ9_floorDiv_7cf53 13 = .ok (.iload_n 0, 1) := by decide +kernel
theorem dJ9_floorDiv_7cf53_14 : decode cJ9_floorDiv_7cf53 14 = .ok (.if_icmp .eq 7, 3) := by decide +kernel
theorem dJ9_floorDiv_7cf53_17 : decode cJ9_floorDiv_7cf53 17 = .ok (.iload_n 2, 1) := by decide +kernel
theorem dJ9_floorDiv_7cf53_18 : decode cJ9_floorDiv_7cf53 18 = .ok (.iconst 1, 1) := by decide +kernel
theorem dJ9_floorDiv_7cf53_19 : decode cJ9_floorDiv_7cf53 19 = .ok (.isub, 1) := by decide +kernel
theorem dJ9_floorDiv_7cf53_20 : decode cJ9_floorDiv_7cf53 20 = .ok (.ireturn, 1) := by decide +kernel
theorem dJ9_floorDiv_7cf53_21 : decode cJ9_floorDiv_7cf53 21 = .ok (.iload_n 2, 1) := by decide +kernel
theorem dJ9_floorDiv_7cf53_22 : decode cJ9_floorDiv_7cf53 22 = .ok (.ireturn, 1) := by decide +kernel
theorem dJ9_abs_0f7a4_0 : decode cJ9_abs_0f7a4 0 = .ok (.iload_n 0, 1) := by decide +kernel
theorem dJ9_abs_0f7a4_1 : decode cJ9_abs_0f7a4 1 = .ok (.ifCond .ge 8, 3) := by decide +kernel
theorem dJ9_abs_0f7a4_4 : decode cJ9_abs_0f7a4 4 = .ok (.iload_n 0, 1) := by decide +kernel
theorem dJ9_abs_0f7a4_5 : decode cJ9_abs_0f7a4 5 = .ok (.ineg, 1) := by decide +kernel
theorem dJ9_abs_0f7a4_6 : decode cJ9_abs_0f7a4 6 = .ok (.goto 4, 3) := by decide +kernel
theorem dJ9_abs_0f7a4_9 : decode cJ9_abs_0f7a4 9 = .ok (.iload_n 0, 1) := by decide +kernel
theorem dJ9_abs_0f7a4_10 : decode cJ9_abs_0f7a4 10 = .ok (.ireturn, 1) := by decide +kernel
theorem dJ9_abs_067f4_0 : decode cJ9_abs_067f4 0 = .ok (.lload_n 0, 1) := by decide +kernel
theorem dJ9_abs_067f4_1 : decode cJ9_abs_067f4 1 = .ok (.lconst 0, 1) := by decide +kernel
theorem dJ9_abs_067f4_2 : decode cJ9_abs_067f4 2 = .ok (.lcmp, 1) := by decide +kernel
theorem dJ9_abs_067f4_3 : decode cJ9_abs_067f4 3 = .ok (.ifCond .ge 8, 3) := by decide +kernel
theorem dJ9_abs_067f4_6 : decode cJ9_abs_067f4 6 = .ok (.lload_n 0, 1) := by decide +kernel
theorem dJ9_abs_067f4_7 : decode cJ9_abs_067f4 7 = .ok (.lneg, 1) := by decide +kernel
theorem dJ9_abs_067f4_8 : decode cJ9_abs_067f4 8 = .ok (.goto 4, 3) := by decide +kernel
theorem dJ9_abs_067f4_11 : decode cJ9_abs_067f4 11 = .ok (.lload_n 0, 1) := by decide +kernel
theorem dJ9_abs_067f4_12 : decode cJ9_abs_067f4 12 = .ok (.lreturn, 1) := by decide +kernel
theorem dJ9_max_7cf53_0 : decode cJ9_max_7cf53 0 = .ok (.iload_n 0, 1) := by decide +kernel
theorem dJ9_max_7cf53_1 : decode cJ9_max_7cf53 1 = .ok (.iload_n 1, 1) := by decide +kernel
theorem dJ9_max_7cf53_2 : decode cJ9_max_7cf53 2 = .ok (.if_icmp .lt 7, 3) := by decide +kernel
theorem dJ9_max_7cf53_5 : decode cJ9_max_7cf53 5 = .ok (.iload_n 0, 1) := by decide +kernel
theorem dJ9_max_7cf53_6 : decode cJ9_max_7cf53 6 = .ok (.goto 4, 3) := by decide +kernel
theorem dJ9_max_7cf53_9 : decode cJ9_max_7cf53 9 = .ok (.iload_n 1, 1) := by decide +kernel
theorem dJ9_max_7cf53_10 : decode cJ9_max_7cf53 10 = .ok (.ireturn, 1) := by decide +kernel
theorem dJ9_min_7cf53_0 : decode cJ9_min_7cf53 0 = .ok (.iload_n 0, 1) := by decide +kernel
theorem dJ9_min_7cf53_1 : decode cJ9_min_7cf53 1 = .ok (.iload_n 1, 1) := by decide +kernel
theorem dJ9_min_7cf53_2 : decode cJ9_min_7cf53 2 = .ok (.if_icmp .gt 7, 3) := by decide +kernel
theorem dJ9_min_7cf53_5 : decode cJ9_min_7cf53 5 = .ok (.iload_n 0, 1) := by decide +kernel
theorem dJ9_min_7cf53_6 : decode cJ9_min_7cf53 6 = .ok (.goto 4, 3) := by decide +kernel
theorem dJ9_min_7cf53_9 : decode cJ9_min_7cf53 9 = .ok (.iload_n 1, 1) := by decide +kernel
theorem dJ9_min_7cf53_10 : decode cJ9_min_7cf53 10 = .ok (.ireturn, 1) := by decide +kernel
