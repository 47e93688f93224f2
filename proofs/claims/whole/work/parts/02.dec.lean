abbrev cL_law : ByteArray := code
def yL_law : MethodName := ⟨RL, "law", "([I)Z"⟩
theorem dX0_init_0 : decode cX0_init 0 = .ok (.aload_n 0, 1) := by decide +kernel
theorem dX0_init_1 : decode cX0_init 1 = .ok (.invokespecial 3, 3) := by decide +kernel
theorem dX0_init_4 : decode cX0_init 4 = .ok (.aload_n 0, 1) := by decide +kernel
theorem dX0_init_5 : decode cX0_init 5 = .ok (.bipush 8, 2) := by decide +kernel
theorem dX0_init_7 : decode cX0_init 7 = .ok (.anewarray 9, 3) := by decide +kernel
theorem dX0_init_10 : decode cX0_init 10 = .ok (.putfield 11, 3) := by decide +kernel
theorem dX0_init_13 : decode cX0_init 13 = .ok (.aload_n 0, 1) := by decide +kernel
theorem dX0_init_14 : decode cX0_init 14 = .ok (.bipush 8, 2) := by decide +kernel
theorem dX0_init_16 : decode cX0_init 16 = .ok (.newarray .int, 2) := by decide +kernel
theorem dX0_init_18 : decode cX0_init 18 = .ok (.putfield 17, 3) := by decide +kernel
theorem dX0_init_21 : decode cX0_init 21 = .ok (.aload_n 0, 1) := by decide +kernel
theorem dX0_init_22 : decode cX0_init 22 = .ok (.aload_n 1, 1) := by decide +kernel
theorem dX0_init_23 : decode cX0_init 23 = .ok (.putfield 21, 3) := by decide +kernel
theorem dX0_init_26 : decode cX0_init 26 = .ok (.iconst 0, 1) := by decide +kernel
theorem dX0_init_27 : decode cX0_init 27 = .ok (.istore_n 2, 1) := by decide +kernel
theorem dX0_init_28 : decode cX0_init 28 = .ok (.iload_n 2, 1) := by decide +kernel
theorem dX0_init_29 : decode cX0_init 29 = .ok (.bipush 8, 2) := by decide +kernel
theorem dX0_init_31 : decode cX0_init 31 = .ok (.if_icmp .ge 22, 3) := by decide +kernel
theorem dX0_init_34 : decode cX0_init 34 = .ok (.aload_n 0, 1) := by decide +kernel
theorem dX0_init_35 : decode cX0_init 35 = .ok (.getfield 11, 3) := by decide +kernel
theorem dX0_init_38 : decode cX0_init 38 = .ok (.iload_n 2, 1) := by decide +kernel
theorem dX0_init_39 : decode cX0_init 39 = .ok (.new 9, 3) := by decide +kernel
theorem dX0_init_42 : decode cX0_init 42 = .ok (.dup, 1) := by decide +kernel
theorem dX0_init_43 : decode cX0_init 43 = .ok (.invokespecial 25, 3) := by decide +kernel
theorem dX0_init_46 : decode cX0_init 46 = .ok (.aastore, 1) := by decide +kernel
theorem dX0_init_47 : decode cX0_init 47 = .ok (.iinc 2 1, 3) := by decide +kernel
theorem dX0_init_50 : decode cX0_init 50 = .ok (.goto (-22), 3) := by decide +kernel
theorem dX0_init_53 : decode cX0_init 53 = .ok (.return_, 1) := by decide +kernel
theorem dX0_fall_0 : decode cX0_fall 0 = .ok (.aload_n 1, 1) := by decide +kernel
theorem dX0_fall_1 : decode cX0_fall 1 = .ok (.getfield 26, 3) := by decide +kernel
theorem dX0_fall_4 : decode cX0_fall 4 = .ok (.bipush 8, 2) := by decide +kernel
theorem dX0_fall_6 : decode cX0_fall 6 = .ok (.invokestatic 32, 3) := by decide +kernel
theorem dX0_fall_9 : decode cX0_fall 9 = .ok (.istore_n 2, 1) := by decide +kernel
theorem dX0_fall_10 : decode cX0_fall 10 = .ok (.iconst 0, 1) := by decide +kernel
theorem dX0_fall_11 : decode cX0_fall 11 = .ok (.istore_n 3, 1) := by decide +kernel
theorem dX0_fall_12 : decode cX0_fall 12 = .ok (.iload_n 3, 1) := by decide +kernel
theorem dX0_fall_13 : decode cX0_fall 13 = .ok (.iload_n 2, 1) := by decide +kernel
theorem dX0_fall_14 : decode cX0_fall 14 = .ok (.if_icmp .ge 55, 3) := by decide +kernel
theorem dX0_fall_17 : decode cX0_fall 17 = .ok (.aload_n 0, 1) := by decide +kernel
theorem dX0_fall_18 : decode cX0_fall 18 = .ok (.getfield 17, 3) := by decide +kernel
theorem dX0_fall_21 : decode cX0_fall 21 = .ok (.iload_n 3, 1) := by decide +kernel
theorem dX0_fall_22 : decode cX0_fall 22 = .ok (.iconst 0, 1) := by decide +kernel
theorem dX0_fall_23 : decode cX0_fall 23 = .ok (.iastore, 1) := by decide +kernel
theorem dX0_fall_24 : decode cX0_fall 24 = .ok (.aload_n 0, 1) := by decide +kernel
theorem dX0_fall_25 : decode cX0_fall 25 = .ok (.getfield 11, 3) := by decide +kernel
theorem dX0_fall_28 : decode cX0_fall 28 = .ok (.iload_n 3, 1) := by decide +kernel
theorem dX0_fall_29 : decode cX0_fall 29 = .ok (.aaload, 1) := by decide +kernel
theorem dX0_fall_30 : decode cX0_fall 30 = .ok (.aload_n 1, 1) := by decide +kernel
theorem dX0_fall_31 : decode cX0_fall 31 = .ok (.aload_n 1, 1) := by decide +kernel
theorem dX0_fall_32 : decode cX0_fall 32 = .ok (.getfield 38, 3) := by decide +kernel
theorem dX0_fall_35 : decode cX0_fall 35 = .ok (.iload_n 3, 1) := by decide +kernel
theorem dX0_fall_36 : decode cX0_fall 36 = .ok (.iaload, 1) := by decide +kernel
theorem dX0_fall_37 : decode cX0_fall 37 = .ok (.invokevirtual 41, 3) := by decide +kernel
theorem dX0_fall_40 : decode cX0_fall 40 = .ok (.invokevirtual 45, 3) := by decide +kernel
theorem dX0_fall_43 : decode cX0_fall 43 = .ok (.aload_n 0, 1) := by decide +kernel
theorem dX0_fall_44 : decode cX0_fall 44 = .ok (.getfield 21, 3) := by decide +kernel
theorem dX0_fall_47 : decode cX0_fall 47 = .ok (.aload_n 0, 1) := by decide +kernel
theorem dX0_fall_48 : decode cX0_fall 48 = .ok (.getfield 11, 3) := by decide +kernel
theorem dX0_fall_51 : decode cX0_fall 51 = .ok (.iload_n 3, 1) := by decide +kernel
theorem dX0_fall_52 : decode cX0_fall 52 = .ok (.aaload, 1) := by decide +kernel
theorem dX0_fall_53 : decode cX0_fall 53 = .ok (.aload_n 0, 1) := by decide +kernel
theorem dX0_fall_54 : decode cX0_fall 54 = .ok (.getfield 21, 3) := by decide +kernel
theorem dX0_fall_57 : decode cX0_fall 57 = .ok (.getfield 49, 3) := by decide +kernel
theorem dX0_fall_60 : decode cX0_fall 60 = .ok (.invokevirtual 54, 3) := by decide +kernel
theorem dX0_fall_63 : decode cX0_fall 63 = .ok (.iinc 3 1, 3) := by decide +kernel
theorem dX0_fall_66 : decode cX0_fall 66 = .ok (.goto (-54), 3) := by decide +kernel
theorem dX0_fall_69 : decode cX0_fall 69 = .ok (.aload_n 0, 1) := by decide +kernel
theorem dX0_fall_70 : decode cX0_fall 70 = .ok (.iconst 0, 1) := by decide +kernel
theorem dX0_fall_71 : decode cX0_fall 71 = .ok (.iload_n 2, 1) := by decide +kernel
theorem dX0_fall_72 : decode cX0_fall 72 = .ok (.sipush 256, 3) := by decide +kernel
theorem dX0_fall_75 : decode cX0_fall 75 = .ok (.invokevirtual 58, 3) := by decide +kernel
theorem dX0_fall_78 : decode cX0_fall 78 = .ok (.return_, 1) := by decide +kernel
theorem dX0_come_0 : decode cX0_come 0 = .ok (.iload_n 1, 1) := by decide +kernel
theorem dX0_come_1 : decode cX0_come 1 = .ok (.ifCond .lt 14, 3) := by decide +kernel
theorem dX0_come_4 : decode cX0_come 4 = .ok (.iload_n 1, 1) := by decide +kernel
theorem dX0_come_5 : decode cX0_come 5 = .ok (.iload_n 2, 1) := by decide +kernel
theorem dX0_come_6 : decode cX0_come 6 = .ok (.if_icmp .ge 9, 3) := by decide +kernel
theorem dX0_come_9 : decode cX0_come 9 = .ok (.iload_n 1, 1) := by decide +kernel
theorem dX0_come_10 : decode cX0_come 10 = .ok (.bipush 8, 2) := by decide +kernel
theorem dX0_come_12 : decode cX0_come 12 = .ok (.if_icmp .lt 4, 3) := by decide +kernel
theorem dX0_come_15 : decode cX0_come 15 = .ok (.return_, 1) := by decide +kernel
theorem dX0_come_16 : decode cX0_come 16 = .ok (.aload_n 0, 1) := by decide +kernel
theorem dX0_come_17 : decode cX0_come 17 = .ok (.getfield 21, 3) := by decide +kernel
theorem dX0_come_20 : decode cX0_come 20 = .ok (.aload_n 0, 1) := by decide +kernel
theorem dX0_come_21 : decode cX0_come 21 = .ok (.getfield 11, 3) := by decide +kernel
theorem dX0_come_24 : decode cX0_come 24 = .ok (.iload_n 1, 1) := by decide +kernel
theorem dX0_come_25 : decode cX0_come 25 = .ok (.aaload, 1) := by decide +kernel
theorem dX0_come_26 : decode cX0_come 26 = .ok (.invokevirtual 62, 3) := by decide +kernel
theorem dX0_come_29 : decode cX0_come 29 = .ok (.astore 4, 2) := by decide +kernel
theorem dX0_come_31 : decode cX0_come 31 = .ok (.aload_n 0, 1) := by decide +kernel
theorem dX0_come_32 : decode cX0_come 32 = .ok (.getfield 21, 3) := by decide +kernel
theorem dX0_come_35 : decode cX0_come 35 = .ok (.aload 4, 2) := by decide +kernel
theorem dX0_come_37 : decode cX0_come 37 = .ok (.invokevirtual 66, 3) := by decide +kernel
theorem dX0_come_40 : decode cX0_come 40 = .ok (.ifCond .eq 26, 3) := by decide +kernel
theorem dX0_come_43 : decode cX0_come 43 = .ok (.aload_n 0, 1) := by decide +kernel
theorem dX0_come_44 : decode cX0_come 44 = .ok (.iload_n 1, 1) := by decide +kernel
theorem dX0_come_45 : decode cX0_come 45 = .ok (.iload_n 2, 1) := by decide +kernel
theorem dX0_come_46 : decode cX0_come 46 = .ok (.iload_n 3, 1) := by decide +kernel
theorem dX0_come_47 : decode cX0_come 47 = .ok (.iconst 2, 1) := by decide +kernel
theorem dX0_come_48 : decode cX0_come 48 = .ok (.idiv, 1) := by decide +kernel
theorem dX0_come_49 : decode cX0_come 49 = .ok (.iconst 1, 1) := by decide +kernel
theorem dX0_come_50 : decode cX0_come 50 = .ok (.invokevirtual 70, 3) := by decide +kernel
theorem dX0_come_53 : decode cX0_come 53 = .ok (.aload_n 0, 1) := by decide +kernel
theorem dX0_come_54 : decode cX0_come 54 = .ok (.iload_n 1, 1) := by decide +kernel
theorem dX0_come_55 : decode cX0_come 55 = .ok (.iload_n 2, 1) := by decide +kernel
theorem dX0_come_56 : decode cX0_come 56 = .ok (.iload_n 3, 1) := by decide +kernel
theorem dX0_come_57 : decode cX0_come 57 = .ok (.iconst 2, 1) := by decide +kernel
theorem dX0_come_58 : decode cX0_come 58 = .ok (.idiv, 1) := by decide +kernel
theorem dX0_come_59 : decode cX0_come 59 = .ok (.iconst 0, 1) := by decide +kernel
theorem dX0_come_60 : decode cX0_come 60 = .ok (.invokevirtual 70, 3) := by decide +kernel
theorem dX0_come_63 : decode cX0_come 63 = .ok (.goto 19, 3) := by decide +kernel
theorem dX0_come_66 : decode cX0_come 66 = .ok (.aload_n 0, 1) := by decide +kernel
theorem dX0_come_67 : decode cX0_come 67 = .ok (.iload_n 1, 1) := by decide +kernel
theorem dX0_come_68 : decode cX0_come 68 = .ok (.iload_n 2, 1) := by decide +kernel
theorem dX0_come_69 : decode cX0_come 69 = .ok (.iload_n 3, 1) := by decide +kernel
theorem dX0_come_70 : decode cX0_come 70 = .ok (.aload_n 0, 1) := by decide +kernel
theorem dX0_come_71 : decode cX0_come 71 = .ok (.getfield 21, 3) := by decide +kernel
theorem dX0_come_74 : decode cX0_come 74 = .ok (.aload 4, 2) := by decide +kernel
theorem dX0_come_76 : decode cX0_come 76 = .ok (.invokevirtual 74, 3) := by decide +kernel
theorem dX0_come_79 : decode cX0_come 79 = .ok (.invokevirtual 70, 3) := by decide +kernel
theorem dX0_come_82 : decode cX0_come 82 = .ok (.return_, 1) := by decide +kernel
theorem dX0_settle_0 : decode cX0_settle 0 = .ok (.iload 4, 2) := by decide +kernel
theorem dX0_settle_2 : decode cX0_settle 2 = .ok (.ifCond .eq 13, 3) := by decide +kernel
theorem dX0_settle_5 : decode cX0_settle 5 = .ok (.aload_n 0, 1) := by decide +kernel
theorem dX0_settle_6 : decode cX0_settle 6 = .ok (.getfield 17, 3) := by decide +kernel
theorem dX0_settle_9 : decode cX0_settle 9 = .ok (.iload_n 1, 1) := by decide +kernel
theorem dX0_settle_10 : decode cX0_settle 10 = .ok (.dup2, 1) := by decide +kernel
theorem dX0_settle_11 : decode cX0_settle 11 = .ok (.iaload, 1) := by decide +kernel
theorem dX0_settle_12 : decode cX0_settle 12 = .ok (.iload_n 3, 1) := by decide +kernel
theorem dX0_settle_13 : decode cX0_settle 13 = .ok (.iadd, 1) := by decide +kernel
theorem dX0_settle_14 : decode cX0_settle 14 = .ok (.iastore, 1) := by decide +kernel
theorem dX0_settle_15 : decode cX0_settle 15 = .ok (.aload_n 0, 1) := by decide +kernel
theorem dX0_settle_16 : decode cX0_settle 16 = .ok (.getfield 21, 3) := by decide +kernel
theorem dX0_settle_19 : decode cX0_settle 19 = .ok (.aload_n 0, 1) := by decide +kernel
theorem dX0_settle_20 : decode cX0_settle 20 = .ok (.getfield 11, 3) := by decide +kernel
theorem dX0_settle_23 : decode cX0_settle 23 = .ok (.iload_n 1, 1) := by decide +kernel
theorem dX0_settle_24 : decode cX0_settle 24 = .ok (.aaload, 1) := by decide +kernel
theorem dX0_settle_25 : decode cX0_settle 25 = .ok (.getfield 77, 3) := by decide +kernel
theorem dX0_settle_28 : decode cX0_settle 28 = .ok (.iload 4, 2) := by decide +kernel
theorem dX0_settle_30 : decode cX0_settle 30 = .ok (.invokevirtual 80, 3) := by decide +kernel
theorem dX0_settle_33 : decode cX0_settle 33 = .ok (.aload_n 0, 1) := by decide +kernel
theorem dX0_settle_34 : decode cX0_settle 34 = .ok (.iload_n 1, 1) := by decide +kernel
theorem dX0_settle_35 : decode cX0_settle 35 = .ok (.iconst 1, 1) := by decide +kernel
theorem dX0_settle_36 : decode cX0_settle 36 = .ok (.iadd, 1) := by decide +kernel
theorem dX0_settle_37 : decode cX0_settle 37 = .ok (.iload_n 2, 1) := by decide +kernel
theorem dX0_settle_38 : decode cX0_settle 38 = .ok (.iload_n 3, 1) := by decide +kernel
theorem dX0_settle_39 : decode cX0_settle 39 = .ok (.invokevirtual 58, 3) := by decide +kernel
theorem dX0_settle_42 : decode cX0_settle 42 = .ok (.aload_n 0, 1) := by decide +kernel
theorem dX0_settle_43 : decode cX0_settle 43 = .ok (.getfield 21, 3) := by decide +kernel
theorem dX0_settle_46 : decode cX0_settle 46 = .ok (.invokevirtual 84, 3) := by decide +kernel
theorem dX0_settle_49 : decode cX0_settle 49 = .ok (.return_, 1) := by decide +kernel
theorem dX0_part_0 : decode cX0_part 0 = .ok (.iload_n 0, 1) := by decide +kernel
theorem dX0_part_1 : decode cX0_part 1 = .ok (.istore_n 2, 1) := by decide +kernel
theorem dX0_part_2 : decode cX0_part 2 = .ok (.sipush 256, 3) := by decide +kernel
theorem dX0_part_5 : decode cX0_part 5 = .ok (.istore_n 3, 1) := by decide +kernel
theorem dX0_part_6 : decode cX0_part 6 = .ok (.iconst 0, 1) := by decide +kernel
theorem dX0_part_7 : decode cX0_part 7 = .ok (.istore 4, 2) := by decide +kernel
theorem dX0_part_9 : decode cX0_part 9 = .ok (.iload 4, 2) := by decide +kernel
theorem dX0_part_11 : decode cX0_part 11 = .ok (.bipush 8, 2) := by decide +kernel
theorem dX0_part_13 : decode cX0_part 13 = .ok (.if_icmp .ge 23, 3) := by decide +kernel
theorem dX0_part_16 : decode cX0_part 16 = .ok (.iload_n 2, 1) := by decide +kernel
theorem dX0_part_17 : decode cX0_part 17 = .ok (.iconst 1, 1) := by decide +kernel
theorem dX0_part_18 : decode cX0_part 18 = .ok (.iand, 1) := by decide +kernel
theorem dX0_part_19 : decode cX0_part 19 = .ok (.ifCond .ne 17, 3) := by decide +kernel
theorem dX0_part_22 : decode cX0_part 22 = .ok (.iload_n 2, 1) := by decide +kernel
theorem dX0_part_23 : decode cX0_part 23 = .ok (.iconst 1, 1) := by decide +kernel
theorem dX0_part_24 : decode cX0_part 24 = .ok (.ishr, 1) := by decide +kernel
theorem dX0_part_25 : decode cX0_part 25 = .ok (.istore_n 2, 1) := by decide +kernel
theorem dX0_part_26 : decode cX0_part 26 = .ok (.iload_n 3, 1) := by decide +kernel
theorem dX0_part_27 : decode cX0_part 27 = .ok (.iconst 1, 1) := by decide +kernel
theorem dX0_part_28 : decode cX0_part 28 = .ok (.ishr, 1) := by decide +kernel
theorem dX0_part_29 : decode cX0_part 29 = .ok (.istore_n 3, 1) := by decide +kernel
theorem dX0_part_30 : decode cX0_part 30 = .ok (.iinc 4 1, 3) := by decide +kernel
theorem dX0_part_33 : decode cX0_part 33 = .ok (.goto (-24), 3) := by decide +kernel
theorem dX0_part_36 : decode cX0_part 36 = .ok (.iload_n 1, 1) := by decide +kernel
theorem dX0_part_37 : decode cX0_part 37 = .ok (.ifCond .ne 8, 3) := by decide +kernel
theorem dX0_part_40 : decode cX0_part 40 = .ok (.iload_n 2, 1) := by decide +kernel
theorem dX0_part_41 : decode cX0_part 41 = .ok (.i2l, 1) := by decide +kernel
theorem dX0_part_42 : decode cX0_part 42 = .ok (.goto 5, 3) := by decide +kernel
theorem dX0_part_45 : decode cX0_part 45 = .ok (.iload_n 3, 1) := by decide +kernel
theorem dX0_part_46 : decode cX0_part 46 = .ok (.i2l, 1) := by decide +kernel
theorem dX0_part_47 : decode cX0_part 47 = .ok (.lreturn, 1) := by decide +kernel
theorem dX1_init_0 : decode cX1_init 0 = .ok (.aload_n 0, 1) := by decide +kernel
theorem dX1_init_1 : decode cX1_init 1 = .ok (.invokespecial 3, 3) := by decide +kernel
theorem dX1_init_4 : decode cX1_init 4 = .ok (.aload_n 0, 1) := by decide +kernel
theorem dX1_init_5 : decode cX1_init 5 = .ok (.bipush 20, 2) := by decide +kernel
theorem dX1_init_7 : decode cX1_init 7 = .ok (.newarray .int, 2) := by decide +kernel
theorem dX1_init_9 : decode cX1_init 9 = .ok (.putfield 9, 3) := by decide +kernel
theorem dX1_init_12 : decode cX1_init 12 = .ok (.aload_n 0, 1) := by decide +kernel
theorem dX1_init_13 : decode cX1_init 13 = .ok (.iconst 0, 1) := by decide +kernel
theorem dX1_init_14 : decode cX1_init 14 = .ok (.putfield 15, 3) := by decide +kernel
theorem dX1_init_17 : decode cX1_init 17 = .ok (.aload_n 0, 1) := by decide +kernel
theorem dX1_init_18 : decode cX1_init 18 = .ok (.iconst 0, 1) := by decide +kernel
theorem dX1_init_19 : decode cX1_init 19 = .ok (.putfield 19, 3) := by decide +kernel
theorem dX1_init_22 : decode cX1_init 22 = .ok (.aload_n 0, 1) := by decide +kernel
theorem dX1_init_23 : decode cX1_init 23 = .ok (.iconst 0, 1) := by decide +kernel
theorem dX1_init_24 : decode cX1_init 24 = .ok (.putfield 22, 3) := by decide +kernel
theorem dX1_init_27 : decode cX1_init 27 = .ok (.aload_n 0, 1) := by decide +kernel
theorem dX1_init_28 : decode cX1_init 28 = .ok (.iconst 0, 1) := by decide +kernel
theorem dX1_init_29 : decode cX1_init 29 = .ok (.putfield 25, 3) := by decide +kernel
theorem dX1_init_32 : decode cX1_init 32 = .ok (.return_, 1) := by decide +kernel
theorem dX1_perform_0 : decode cX1_perform 0 = .ok (.aload_n 0, 1) := by decide +kernel
theorem dX1_perform_1 : decode cX1_perform 1 = .ok (.iconst 0, 1) := by decide +kernel
theorem dX1_perform_2 : decode cX1_perform 2 = .ok (.putfield 15, 3) := by decide +kernel
theorem dX1_perform_5 : decode cX1_perform 5 = .ok (.aload_n 0, 1) := by decide +kernel
theorem dX1_perform_6 : decode cX1_perform 6 = .ok (.iload_n 1, 1) := by decide +kernel
theorem dX1_perform_7 : decode cX1_perform 7 = .ok (.putfield 19, 3) := by decide +kernel
theorem dX1_perform_10 : decode cX1_perform 10 = .ok (.aload_n 0, 1) := by decide +kernel
theorem dX1_perform_11 : decode cX1_perform 11 = .ok (.iload_n 2, 1) := by decide +kernel
theorem dX1_perform_12 : decode cX1_perform 12 = .ok (.putfield 22, 3) := by decide +kernel
theorem dX1_perform_15 : decode cX1_perform 15 = .ok (.aload_n 0, 1) := by decide +kernel
theorem dX1_perform_16 : decode cX1_perform 16 = .ok (.iload_n 3, 1) := by decide +kernel
theorem dX1_perform_17 : decode cX1_perform 17 = .ok (.putfield 25, 3) := by decide +kernel
theorem dX1_perform_20 : decode cX1_perform 20 = .ok (.aload_n 0, 1) := by decide +kernel
theorem dX1_perform_21 : decode cX1_perform 21 = .ok (.aload_n 0, 1) := by decide +kernel
theorem dX1_perform_22 : decode cX1_perform 22 = .ok (.getfield 22, 3) := by decide +kernel
theorem dX1_perform_25 : decode cX1_perform 25 = .ok (.iload 4, 2) := by decide +kernel
theorem dX1_perform_27 : decode cX1_perform 27 = .ok (.iload 5, 2) := by decide +kernel
theorem dX1_perform_29 : decode cX1_perform 29 = .ok (.iconst 0, 1) := by decide +kernel
theorem dX1_perform_30 : decode cX1_perform 30 = .ok (.invokevirtual 28, 3) := by decide +kernel
theorem dX1_perform_33 : decode cX1_perform 33 = .ok (.ireturn, 1) := by decide +kernel
theorem dX1_run_0 : decode cX1_run 0 = .ok (.iload_n 1, 1) := by decide +kernel
theorem dX1_run_1 : decode cX1_run 1 = .ok (.iload_n 2, 1) := by decide +kernel
theorem dX1_run_2 : decode cX1_run 2 = .ok (.invokestatic 32, 3) := by decide +kernel
theorem dX1_run_5 : decode cX1_run 5 = .ok (.istore 5, 2) := by decide +kernel
theorem dX1_run_7 : decode cX1_run 7 = .ok (.iload 5, 2) := by decide +kernel
theorem dX1_run_9 : decode cX1_run 9 = .ok (.ifCond .lt 10, 3) := by decide +kernel
theorem dX1_run_12 : decode cX1_run 12 = .ok (.iload 4, 2) := by decide +kernel
theorem dX1_run_14 : decode cX1_run 14 = .ok (.bipush 30, 2) := by decide +kernel
theorem dX1_run_16 : decode cX1_run 16 = .ok (.if_icmp .le 5, 3) := by decide +kernel
theorem dX1_run_19 : decode cX1_run 19 = .ok (.iconst 0, 1) := by decide +kernel
theorem dX1_run_20 : decode cX1_run 20 = .ok (.ireturn, 1) := by decide +kernel
theorem dX1_run_21 : decode cX1_run 21 = .ok (.getstatic 36, 3) := by decide +kernel
theorem dX1_run_24 : decode cX1_run 24 = .ok (.iload 5, 2) := by decide +kernel
theorem dX1_run_26 : decode cX1_run 26 = .ok (.iconst 3, 1) := by decide +kernel
theorem dX1_run_27 : decode cX1_run 27 = .ok (.imul, 1) := by decide +kernel
theorem dX1_run_28 : decode cX1_run 28 = .ok (.iload_n 2, 1) := by decide +kernel
theorem dX1_run_29 : decode cX1_run 29 = .ok (.iadd, 1) := by decide +kernel
theorem dX1_run_30 : decode cX1_run 30 = .ok (.iaload, 1) := by decide +kernel
theorem dX1_run_31 : decode cX1_run 31 = .ok (.istore 6, 2) := by decide +kernel
theorem dX1_run_33 : decode cX1_run 33 = .ok (.getstatic 39, 3) := by decide +kernel
theorem dX1_run_36 : decode cX1_run 36 = .ok (.iload 5, 2) := by decide +kernel
theorem dX1_run_38 : decode cX1_run 38 = .ok (.iaload, 1) := by decide +kernel
theorem dX1_run_39 : decode cX1_run 39 = .ok (.istore 7, 2) := by decide +kernel
theorem dX1_run_41 : decode cX1_run 41 = .ok (.iload 4, 2) := by decide +kernel
theorem dX1_run_43 : decode cX1_run 43 = .ok (.iconst 1, 1) := by decide +kernel
theorem dX1_run_44 : decode cX1_run 44 = .ok (.iadd, 1) := by decide +kernel
theorem dX1_run_45 : decode cX1_run 45 = .ok (.istore 8, 2) := by decide +kernel
theorem dX1_run_47 : decode cX1_run 47 = .ok (.aload_n 0, 1) := by decide +kernel
theorem dX1_run_48 : decode cX1_run 48 = .ok (.iload 6, 2) := by decide +kernel
theorem dX1_run_50 : decode cX1_run 50 = .ok (.invokevirtual 42, 3) := by decide +kernel
theorem dX1_run_53 : decode cX1_run 53 = .ok (.iload 6, 2) := by decide +kernel
theorem dX1_run_55 : decode cX1_run 55 = .ok (.lookupswitch 194 #[(1, 73), (2, 80), (3, 98), (11, 113), (21, 126), (31, 138), (41, 152), (51, 178)], 73) := by decide +kernel
theorem dX1_run_128 : decode cX1_run 128 = .ok (.iload_n 3, 1) := by decide +kernel
theorem dX1_run_129 : decode cX1_run 129 = .ok (.aload_n 0, 1) := by decide +kernel
theorem dX1_run_130 : decode cX1_run 130 = .ok (.getfield 19, 3) := by decide +kernel
theorem dX1_run_133 : decode cX1_run 133 = .ok (.iadd, 1) := by decide +kernel
theorem dX1_run_134 : decode cX1_run 134 = .ok (.ireturn, 1) := by decide +kernel
theorem dX1_run_135 : decode cX1_run 135 = .ok (.aload_n 0, 1) := by decide +kernel
theorem dX1_run_136 : decode cX1_run 136 = .ok (.aload_n 0, 1) := by decide +kernel
theorem dX1_run_137 : decode cX1_run 137 = .ok (.getfield 22, 3) := by decide +kernel
theorem dX1_run_140 : decode cX1_run 140 = .ok (.iconst 0, 1) := by decide +kernel
theorem dX1_run_141 : decode cX1_run 141 = .ok (.iload_n 3, 1) := by decide +kernel
theorem dX1_run_142 : decode cX1_run 142 = .ok (.iload 8, 2) := by decide +kernel
theorem dX1_run_144 : decode cX1_run 144 = .ok (.invokevirtual 28, 3) := by decide +kernel
theorem dX1_run_147 : decode cX1_run 147 = .ok (.aload_n 0, 1) := by decide +kernel
theorem dX1_run_148 : decode cX1_run 148 = .ok (.getfield 25, 3) := by decide +kernel
theorem dX1_run_151 : decode cX1_run 151 = .ok (.isub, 1) := by decide +kernel
theorem dX1_run_152 : decode cX1_run 152 = .ok (.ireturn, 1) := by decide +kernel
theorem dX1_run_153 : decode cX1_run 153 = .ok (.aload_n 0, 1) := by decide +kernel
theorem dX1_run_154 : decode cX1_run 154 = .ok (.aload_n 0, 1) := by decide +kernel
theorem dX1_run_155 : decode cX1_run 155 = .ok (.getfield 22, 3) := by decide +kernel
theorem dX1_run_158 : decode cX1_run 158 = .ok (.iconst 1, 1) := by decide +kernel
theorem dX1_run_159 : decode cX1_run 159 = .ok (.iload_n 3, 1) := by decide +kernel
theorem dX1_run_160 : decode cX1_run 160 = .ok (.iload 8, 2) := by decide +kernel
theorem dX1_run_162 : decode cX1_run 162 = .ok (.invokevirtual 28, 3) := by decide +kernel
theorem dX1_run_165 : decode cX1_run 165 = .ok (.iconst 2, 1) := by decide +kernel
theorem dX1_run_166 : decode cX1_run 166 = .ok (.imul, 1) := by decide +kernel
theorem dX1_run_167 : decode cX1_run 167 = .ok (.ireturn, 1) := by decide +kernel
theorem dX1_run_168 : decode cX1_run 168 = .ok (.aload_n 0, 1) := by decide +kernel
theorem dX1_run_169 : decode cX1_run 169 = .ok (.iload 7, 2) := by decide +kernel
theorem dX1_run_171 : decode cX1_run 171 = .ok (.iconst 0, 1) := by decide +kernel
theorem dX1_run_172 : decode cX1_run 172 = .ok (.iload_n 3, 1) := by decide +kernel
theorem dX1_run_173 : decode cX1_run 173 = .ok (.iconst 3, 1) := by decide +kernel
theorem dX1_run_174 : decode cX1_run 174 = .ok (.imul, 1) := by decide +kernel
theorem dX1_run_175 : decode cX1_run 175 = .ok (.iload 8, 2) := by decide +kernel
theorem dX1_run_177 : decode cX1_run 177 = .ok (.invokevirtual 28, 3) := by decide +kernel
theorem dX1_run_180 : decode cX1_run 180 = .ok (.ireturn, 1) := by decide +kernel
theorem dX1_run_181 : decode cX1_run 181 = .ok (.aload_n 0, 1) := by decide +kernel
theorem dX1_run_182 : decode cX1_run 182 = .ok (.iload 7, 2) := by decide +kernel
theorem dX1_run_184 : decode cX1_run 184 = .ok (.iconst 1, 1) := by decide +kernel
theorem dX1_run_185 : decode cX1_run 185 = .ok (.iload_n 3, 1) := by decide +kernel
theorem dX1_run_186 : decode cX1_run 186 = .ok (.iload 8, 2) := by decide +kernel
theorem dX1_run_188 : decode cX1_run 188 = .ok (.invokevirtual 28, 3) := by decide +kernel
theorem dX1_run_191 : decode cX1_run 191 = .ok (.ineg, 1) := by decide +kernel
theorem dX1_run_192 : decode cX1_run 192 = .ok (.ireturn, 1) := by decide +kernel
theorem dX1_run_193 : decode cX1_run 193 = .ok (.aload_n 0, 1) := by decide +kernel
theorem dX1_run_194 : decode cX1_run 194 = .ok (.iload 7, 2) := by decide +kernel
theorem dX1_run_196 : decode cX1_run 196 = .ok (.iconst 2, 1) := by decide +kernel
theorem dX1_run_197 : decode cX1_run 197 = .ok (.iload_n 3, 1) := by decide +kernel
theorem dX1_run_198 : decode cX1_run 198 = .ok (.iload 8, 2) := by decide +kernel
theorem dX1_run_200 : decode cX1_run 200 = .ok (.invokevirtual 28, 3) := by decide +kernel
theorem dX1_run_203 : decode cX1_run 203 = .ok (.bipush 7, 2) := by decide +kernel
theorem dX1_run_205 : decode cX1_run 205 = .ok (.ixor, 1) := by decide +kernel
theorem dX1_run_206 : decode cX1_run 206 = .ok (.ireturn, 1) := by decide +kernel
theorem dX1_run_207 : decode cX1_run 207 = .ok (.aload_n 0, 1) := by decide +kernel
theorem dX1_run_208 : decode cX1_run 208 = .ok (.iload 7, 2) := by decide +kernel
theorem dX1_run_210 : decode cX1_run 210 = .ok (.iconst 2, 1) := by decide +kernel
theorem dX1_run_211 : decode cX1_run 211 = .ok (.iload_n 3, 1) := by decide +kernel
theorem dX1_run_212 : decode cX1_run 212 = .ok (.iconst 1, 1) := by decide +kernel
theorem dX1_run_213 : decode cX1_run 213 = .ok (.isub, 1) := by decide +kernel
theorem dX1_run_214 : decode cX1_run 214 = .ok (.iload 8, 2) := by decide +kernel
theorem dX1_run_216 : decode cX1_run 216 = .ok (.invokevirtual 28, 3) := by decide +kernel
theorem dX1_run_219 : decode cX1_run 219 = .ok (.aload_n 0, 1) := by decide +kernel
theorem dX1_run_220 : decode cX1_run 220 = .ok (.aload_n 0, 1) := by decide +kernel
theorem dX1_run_221 : decode cX1_run 221 = .ok (.getfield 22, 3) := by decide +kernel
theorem dX1_run_224 : decode cX1_run 224 = .ok (.iconst 0, 1) := by decide +kernel
theorem dX1_run_225 : decode cX1_run 225 = .ok (.iconst 2, 1) := by decide +kernel
theorem dX1_run_226 : decode cX1_run 226 = .ok (.iload 8, 2) := by decide +kernel
theorem dX1_run_228 : decode cX1_run 228 = .ok (.invokevirtual 28, 3) := by decide +kernel
theorem dX1_run_231 : decode cX1_run 231 = .ok (.iadd, 1) := by decide +kernel
theorem dX1_run_232 : decode cX1_run 232 = .ok (.ireturn, 1) := by decide +kernel
theorem dX1_run_233 : decode cX1_run 233 = .ok (.aload_n 0, 1) := by decide +kernel
theorem dX1_run_234 : decode cX1_run 234 = .ok (.iload 7, 2) := by decide +kernel
theorem dX1_run_236 : decode cX1_run 236 = .ok (.iconst 0, 1) := by decide +kernel
theorem dX1_run_237 : decode cX1_run 237 = .ok (.iload_n 3, 1) := by decide +kernel
theorem dX1_run_238 : decode cX1_run 238 = .ok (.iload 8, 2) := by decide +kernel
theorem dX1_run_240 : decode cX1_run 240 = .ok (.invokevirtual 28, 3) := by decide +kernel
theorem dX1_run_243 : decode cX1_run 243 = .ok (.aload_n 0, 1) := by decide +kernel
theorem dX1_run_244 : decode cX1_run 244 = .ok (.getfield 19, 3) := by decide +kernel
theorem dX1_run_247 : decode cX1_run 247 = .ok (.ixor, 1) := by decide +kernel
theorem dX1_run_248 : decode cX1_run 248 = .ok (.ireturn, 1) := by decide +kernel
theorem dX1_run_249 : decode cX1_run 249 = .ok (.aload_n 0, 1) := by decide +kernel
theorem dX1_run_250 : decode cX1_run 250 = .ok (.iload 7, 2) := by decide +kernel
theorem dX1_run_252 : decode cX1_run 252 = .ok (.iconst 1, 1) := by decide +kernel
theorem dX1_run_253 : decode cX1_run 253 = .ok (.iload_n 3, 1) := by decide +kernel
theorem dX1_run_254 : decode cX1_run 254 = .ok (.iload 8, 2) := by decide +kernel
theorem dX1_run_256 : decode cX1_run 256 = .ok (.invokevirtual 28, 3) := by decide +kernel
theorem dX1_run_259 : decode cX1_run 259 = .ok (.aload_n 0, 1) := by decide +kernel
theorem dX1_run_260 : decode cX1_run 260 = .ok (.getfield 25, 3) := by decide +kernel
theorem dX1_run_263 : decode cX1_run 263 = .ok (.iadd, 1) := by decide +kernel
theorem dX1_run_264 : decode cX1_run 264 = .ok (.ireturn, 1) := by decide +kernel
theorem dX1_holderFrom_0 : decode cX1_holderFrom 0 = .ok (.iload_n 1, 1) := by decide +kernel
theorem dX1_holderFrom_1 : decode cX1_holderFrom 1 = .ok (.ifCond .lt 8, 3) := by decide +kernel
theorem dX1_holderFrom_4 : decode cX1_holderFrom 4 = .ok (.iload_n 1, 1) := by decide +kernel
theorem dX1_holderFrom_5 : decode cX1_holderFrom 5 = .ok (.iconst 3, 1) := by decide +kernel
theorem dX1_holderFrom_6 : decode cX1_holderFrom 6 = .ok (.if_icmp .lt 5, 3) := by decide +kernel
theorem dX1_holderFrom_9 : decode cX1_holderFrom 9 = .ok (.iconst (-1), 1) := by decide +kernel
theorem dX1_holderFrom_10 : decode cX1_holderFrom 10 = .ok (.ireturn, 1) := by decide +kernel
theorem dX1_holderFrom_11 : decode cX1_holderFrom 11 = .ok (.iload_n 0, 1) := by decide +kernel
theorem dX1_holderFrom_12 : decode cX1_holderFrom 12 = .ok (.istore_n 2, 1) := by decide +kernel
theorem dX1_holderFrom_13 : decode cX1_holderFrom 13 = .ok (.iconst 0, 1) := by decide +kernel
theorem dX1_holderFrom_14 : decode cX1_holderFrom 14 = .ok (.istore_n 3, 1) := by decide +kernel
theorem dX1_holderFrom_15 : decode cX1_holderFrom 15 = .ok (.iload_n 3, 1) := by decide +kernel
theorem dX1_holderFrom_16 : decode cX1_holderFrom 16 = .ok (.bipush 7, 2) := by decide +kernel
theorem dX1_holderFrom_18 : decode cX1_holderFrom 18 = .ok (.if_icmp .ge 39, 3) := by decide +kernel
theorem dX1_holderFrom_21 : decode cX1_holderFrom 21 = .ok (.iload_n 2, 1) := by decide +kernel
theorem dX1_holderFrom_22 : decode cX1_holderFrom 22 = .ok (.ifCond .lt 35, 3) := by decide +kernel
theorem dX1_holderFrom_25 : decode cX1_holderFrom 25 = .ok (.iload_n 2, 1) := by decide +kernel
theorem dX1_holderFrom_26 : decode cX1_holderFrom 26 = .ok (.bipush 7, 2) := by decide +kernel
theorem dX1_holderFrom_28 : decode cX1_holderFrom 28 = .ok (.if_icmp .ge 29, 3) := by decide +kernel
theorem dX1_holderFrom_31 : decode cX1_holderFrom 31 = .ok (.getstatic 36, 3) := by decide +kernel
theorem dX1_holderFrom_34 : decode cX1_holderFrom 34 = .ok (.iload_n 2, 1) := by decide +kernel
theorem dX1_holderFrom_35 : decode cX1_holderFrom 35 = .ok (.iconst 3, 1) := by decide +kernel
theorem dX1_holderFrom_36 : decode cX1_holderFrom 36 = .ok (.imul, 1) := by decide +kernel
theorem dX1_holderFrom_37 : decode cX1_holderFrom 37 = .ok (.iload_n 1, 1) := by decide +kernel
theorem dX1_holderFrom_38 : decode cX1_holderFrom 38 = .ok (.iadd, 1) := by decide +kernel
theorem dX1_holderFrom_39 : decode cX1_holderFrom 39 = .ok (.iaload, 1) := by decide +kernel
theorem dX1_holderFrom_40 : decode cX1_holderFrom 40 = .ok (.ifCond .eq 5, 3) := by decide +kernel
theorem dX1_holderFrom_43 : decode cX1_holderFrom 43 = .ok (.iload_n 2, 1) := by decide +kernel
theorem dX1_holderFrom_44 : decode cX1_holderFrom 44 = .ok (.ireturn, 1) := by decide +kernel
theorem dX1_holderFrom_45 : decode cX1_holderFrom 45 = .ok (.getstatic 39, 3) := by decide +kernel
theorem dX1_holderFrom_48 : decode cX1_holderFrom 48 = .ok (.iload_n 2, 1) := by decide +kernel
theorem dX1_holderFrom_49 : decode cX1_holderFrom 49 = .ok (.iaload, 1) := by decide +kernel
theorem dX1_holderFrom_50 : decode cX1_holderFrom 50 = .ok (.istore_n 2, 1) := by decide +kernel
theorem dX1_holderFrom_51 : decode cX1_holderFrom 51 = .ok (.iinc 3 1, 3) := by decide +kernel
theorem dX1_holderFrom_54 : decode cX1_holderFrom 54 = .ok (.goto (-39), 3) := by decide +kernel
theorem dX1_holderFrom_57 : decode cX1_holderFrom 57 = .ok (.iconst (-1), 1) := by decide +kernel
theorem dX1_holderFrom_58 : decode cX1_holderFrom 58 = .ok (.ireturn, 1) := by decide +kernel
theorem dX1_note_0 : decode cX1_note 0 = .ok (.aload_n 0, 1) := by decide +kernel
theorem dX1_note_1 : decode cX1_note 1 = .ok (.getfield 15, 3) := by decide +kernel
theorem dX1_note_4 : decode cX1_note 4 = .ok (.ifCond .lt 22, 3) := by decide +kernel
theorem dX1_note_7 : decode cX1_note 7 = .ok (.aload_n 0, 1) := by decide +kernel
theorem dX1_note_8 : decode cX1_note 8 = .ok (.getfield 15, 3) := by decide +kernel
theorem dX1_note_11 : decode cX1_note 11 = .ok (.bipush 20, 2) := by decide +kernel
theorem dX1_note_13 : decode cX1_note 13 = .ok (.if_icmp .ge 13, 3) := by decide +kernel
theorem dX1_note_16 : decode cX1_note 16 = .ok (.aload_n 0, 1) := by decide +kernel
theorem dX1_note_17 : decode cX1_note 17 = .ok (.getfield 9, 3) := by decide +kernel
theorem dX1_note_20 : decode cX1_note 20 = .ok (.aload_n 0, 1) := by decide +kernel
theorem dX1_note_21 : decode cX1_note 21 = .ok (.getfield 15, 3) := by decide +kernel
theorem dX1_note_24 : decode cX1_note 24 = .ok (.iload_n 1, 1) := by decide +kernel
theorem dX1_note_25 : decode cX1_note 25 = .ok (.iastore, 1) := by decide +kernel
theorem dX1_note_26 : decode cX1_note 26 = .ok (.aload_n 0, 1) := by decide +kernel
theorem dX1_note_27 : decode cX1_note 27 = .ok (.dup, 1) := by decide +kernel
theorem dX1_note_28 : decode cX1_note 28 = .ok (.getfield 15, 3) := by decide +kernel
theorem dX1_note_31 : decode cX1_note 31 = .ok (.iconst 1, 1) := by decide +kernel
theorem dX1_note_32 : decode cX1_note 32 = .ok (.iadd, 1) := by decide +kernel
theorem dX1_note_33 : decode cX1_note 33 = .ok (.putfield 15, 3) := by decide +kernel
theorem dX1_note_36 : decode cX1_note 36 = .ok (.return_, 1) := by decide +kernel
theorem dX2_init_0 : decode cX2_init 0 = .ok (.aload_n 0, 1) := by decide +kernel
theorem dX2_init_1 : decode cX2_init 1 = .ok (.invokespecial 3, 3) := by decide +kernel
theorem dX2_init_4 : decode cX2_init 4 = .ok (.aload_n 0, 1) := by decide +kernel
theorem dX2_init_5 : decode cX2_init 5 = .ok (.iconst 0, 1) := by decide +kernel
theorem dX2_init_6 : decode cX2_init 6 = .ok (.putfield 9, 3) := by decide +kernel
theorem dX2_init_9 : decode cX2_init 9 = .ok (.aload_n 0, 1) := by decide +kernel
theorem dX2_init_10 : decode cX2_init 10 = .ok (.iconst 0, 1) := by decide +kernel
theorem dX2_init_11 : decode cX2_init 11 = .ok (.putfield 15, 3) := by decide +kernel
theorem dX2_init_14 : decode cX2_init 14 = .ok (.aload_n 0, 1) := by decide +kernel
theorem dX2_init_15 : decode cX2_init 15 = .ok (.bipush 8, 2) := by decide +kernel
theorem dX2_init_17 : decode cX2_init 17 = .ok (.newarray .int, 2) := by decide +kernel
theorem dX2_init_19 : decode cX2_init 19 = .ok (.putfield 18, 3) := by decide +kernel
theorem dX2_init_22 : decode cX2_init 22 = .ok (.aload_n 0, 1) := by decide +kernel
theorem dX2_init_23 : decode cX2_init 23 = .ok (.bipush 8, 2) := by decide +kernel
theorem dX2_init_25 : decode cX2_init 25 = .ok (.newarray .int, 2) := by decide +kernel
theorem dX2_init_27 : decode cX2_init 27 = .ok (.putfield 22, 3) := by decide +kernel
theorem dX2_init_30 : decode cX2_init 30 = .ok (.aload_n 0, 1) := by decide +kernel
theorem dX2_init_31 : decode cX2_init 31 = .ok (.iconst 0, 1) := by decide +kernel
theorem dX2_init_32 : decode cX2_init 32 = .ok (.putfield 25, 3) := by decide +kernel
theorem dX2_init_35 : decode cX2_init 35 = .ok (.aload_n 0, 1) := by decide +kernel
theorem dX2_init_36 : decode cX2_init 36 = .ok (.iconst 4, 1) := by decide +kernel
theorem dX2_init_37 : decode cX2_init 37 = .ok (.newarray .int, 2) := by decide +kernel
theorem dX2_init_39 : decode cX2_init 39 = .ok (.putfield 28, 3) := by decide +kernel
theorem dX2_init_42 : decode cX2_init 42 = .ok (.aload_n 0, 1) := by decide +kernel
theorem dX2_init_43 : decode cX2_init 43 = .ok (.iconst 4, 1) := by decide +kernel
theorem dX2_init_44 : decode cX2_init 44 = .ok (.newarray .int, 2) := by decide +kernel
theorem dX2_init_46 : decode cX2_init 46 = .ok (.putfield 31, 3) := by decide +kernel
theorem dX2_init_49 : decode cX2_init 49 = .ok (.aload_n 0, 1) := by decide +kernel
theorem dX2_init_50 : decode cX2_init 50 = .ok (.bipush 16, 2) := by decide +kernel
theorem dX2_init_52 : decode cX2_init 52 = .ok (.newarray .int, 2) := by decide +kernel
theorem dX2_init_54 : decode cX2_init 54 = .ok (.putfield 34, 3) := by decide +kernel
theorem dX2_init_57 : decode cX2_init 57 = .ok (.aload_n 0, 1) := by decide +kernel
theorem dX2_init_58 : decode cX2_init 58 = .ok (.iconst 0, 1) := by decide +kernel
theorem dX2_init_59 : decode cX2_init 59 = .ok (.putfield 37, 3) := by decide +kernel
theorem dX2_init_62 : decode cX2_init 62 = .ok (.aload_n 0, 1) := by decide +kernel
theorem dX2_init_63 : decode cX2_init 63 = .ok (.bipush 24, 2) := by decide +kernel
theorem dX2_init_65 : decode cX2_init 65 = .ok (.newarray .int, 2) := by decide +kernel
theorem dX2_init_67 : decode cX2_init 67 = .ok (.putfield 40, 3) := by decide +kernel
theorem dX2_init_70 : decode cX2_init 70 = .ok (.aload_n 0, 1) := by decide +kernel
theorem dX2_init_71 : decode cX2_init 71 = .ok (.iconst 0, 1) := by decide +kernel
theorem dX2_init_72 : decode cX2_init 72 = .ok (.putfield 43, 3) := by decide +kernel
theorem dX2_init_75 : decode cX2_init 75 = .ok (.aload_n 0, 1) := by decide +kernel
theorem dX2_init_76 : decode cX2_init 76 = .ok (.bipush 8, 2) := by decide +kernel
theorem dX2_init_78 : decode cX2_init 78 = .ok (.newarray .int, 2) := by decide +kernel
theorem dX2_init_80 : decode cX2_init 80 = .ok (.putfield 46, 3) := by decide +kernel
theorem dX2_init_83 : decode cX2_init 83 = .ok (.aload_n 0, 1) := by decide +kernel
theorem dX2_init_84 : decode cX2_init 84 = .ok (.iconst 0, 1) := by decide +kernel
theorem dX2_init_85 : decode cX2_init 85 = .ok (.putfield 49, 3) := by decide +kernel
theorem dX2_init_88 : decode cX2_init 88 = .ok (.aload_n 0, 1) := by decide +kernel
theorem dX2_init_89 : decode cX2_init 89 = .ok (.bipush 100, 2) := by decide +kernel
theorem dX2_init_91 : decode cX2_init 91 = .ok (.newarray .byte, 2) := by decide +kernel
theorem dX2_init_93 : decode cX2_init 93 = .ok (.putfield 52, 3) := by decide +kernel
theorem dX2_init_96 : decode cX2_init 96 = .ok (.aload_n 0, 1) := by decide +kernel
theorem dX2_init_97 : decode cX2_init 97 = .ok (.iconst 0, 1) := by decide +kernel
theorem dX2_init_98 : decode cX2_init 98 = .ok (.putfield 56, 3) := by decide +kernel
theorem dX2_init_101 : decode cX2_init 101 = .ok (.aload_n 0, 1) := by decide +kernel
theorem dX2_init_102 : decode cX2_init 102 = .ok (.iconst 0, 1) := by decide +kernel
theorem dX2_init_103 : decode cX2_init 103 = .ok (.putfield 59, 3) := by decide +kernel
theorem dX2_init_106 : decode cX2_init 106 = .ok (.aload_n 0, 1) := by decide +kernel
theorem dX2_init_107 : decode cX2_init 107 = .ok (.bipush 100, 2) := by decide +kernel
theorem dX2_init_109 : decode cX2_init 109 = .ok (.newarray .byte, 2) := by decide +kernel
theorem dX2_init_111 : decode cX2_init 111 = .ok (.putfield 62, 3) := by decide +kernel
theorem dX2_init_114 : decode cX2_init 114 = .ok (.return_, 1) := by decide +kernel
theorem dX2_hasSuit_0 : decode cX2_hasSuit 0 = .ok (.iload_n 1, 1) := by decide +kernel
theorem dX2_hasSuit_1 : decode cX2_hasSuit 1 = .ok (.ifCond .lt 21, 3) := by decide +kernel
theorem dX2_hasSuit_4 : decode cX2_hasSuit 4 = .ok (.iload_n 1, 1) := by decide +kernel
theorem dX2_hasSuit_5 : decode cX2_hasSuit 5 = .ok (.aload_n 0, 1) := by decide +kernel
theorem dX2_hasSuit_6 : decode cX2_hasSuit 6 = .ok (.getfield 15, 3) := by decide +kernel
theorem dX2_hasSuit_9 : decode cX2_hasSuit 9 = .ok (.if_icmp .ge 13, 3) := by decide +kernel
theorem dX2_hasSuit_12 : decode cX2_hasSuit 12 = .ok (.iload_n 1, 1) := by decide +kernel
theorem dX2_hasSuit_13 : decode cX2_hasSuit 13 = .ok (.bipush 8, 2) := by decide +kernel
theorem dX2_hasSuit_15 : decode cX2_hasSuit 15 = .ok (.if_icmp .ge 7, 3) := by decide +kernel
theorem dX2_hasSuit_18 : decode cX2_hasSuit 18 = .ok (.iconst 1, 1) := by decide +kernel
theorem dX2_hasSuit_19 : decode cX2_hasSuit 19 = .ok (.goto 4, 3) := by decide +kernel
theorem dX2_hasSuit_22 : decode cX2_hasSuit 22 = .ok (.iconst 0, 1) := by decide +kernel
theorem dX2_hasSuit_23 : decode cX2_hasSuit 23 = .ok (.ireturn, 1) := by decide +kernel
theorem dX2_hasSuits_0 : decode cX2_hasSuits 0 = .ok (.iload_n 1, 1) := by decide +kernel
theorem dX2_hasSuits_1 : decode cX2_hasSuits 1 = .ok (.ifCond .lt 17, 3) := by decide +kernel
theorem dX2_hasSuits_4 : decode cX2_hasSuits 4 = .ok (.iload_n 1, 1) := by decide +kernel
theorem dX2_hasSuits_5 : decode cX2_hasSuits 5 = .ok (.iconst 1, 1) := by decide +kernel
theorem dX2_hasSuits_6 : decode cX2_hasSuits 6 = .ok (.aload_n 0, 1) := by decide +kernel
theorem dX2_hasSuits_7 : decode cX2_hasSuits 7 = .ok (.getfield 15, 3) := by decide +kernel
theorem dX2_hasSuits_10 : decode cX2_hasSuits 10 = .ok (.ishl, 1) := by decide +kernel
theorem dX2_hasSuits_11 : decode cX2_hasSuits 11 = .ok (.if_icmp .ge 7, 3) := by decide +kernel
theorem dX2_hasSuits_14 : decode cX2_hasSuits 14 = .ok (.iconst 1, 1) := by decide +kernel
theorem dX2_hasSuits_15 : decode cX2_hasSuits 15 = .ok (.goto 4, 3) := by decide +kernel
theorem dX2_hasSuits_18 : decode cX2_hasSuits 18 = .ok (.iconst 0, 1) := by decide +kernel
theorem dX2_hasSuits_19 : decode cX2_hasSuits 19 = .ok (.ireturn, 1) := by decide +kernel
theorem dX2_hasJudge_0 : decode cX2_hasJudge 0 = .ok (.iload_n 1, 1) := by decide +kernel
theorem dX2_hasJudge_1 : decode cX2_hasJudge 1 = .ok (.ifCond .lt 20, 3) := by decide +kernel
theorem dX2_hasJudge_4 : decode cX2_hasJudge 4 = .ok (.iload_n 1, 1) := by decide +kernel
theorem dX2_hasJudge_5 : decode cX2_hasJudge 5 = .ok (.aload_n 0, 1) := by decide +kernel
theorem dX2_hasJudge_6 : decode cX2_hasJudge 6 = .ok (.getfield 25, 3) := by decide +kernel
theorem dX2_hasJudge_9 : decode cX2_hasJudge 9 = .ok (.if_icmp .ge 12, 3) := by decide +kernel
theorem dX2_hasJudge_12 : decode cX2_hasJudge 12 = .ok (.iload_n 1, 1) := by decide +kernel
theorem dX2_hasJudge_13 : decode cX2_hasJudge 13 = .ok (.iconst 4, 1) := by decide +kernel
theorem dX2_hasJudge_14 : decode cX2_hasJudge 14 = .ok (.if_icmp .ge 7, 3) := by decide +kernel
theorem dX2_hasJudge_17 : decode cX2_hasJudge 17 = .ok (.iconst 1, 1) := by decide +kernel
theorem dX2_hasJudge_18 : decode cX2_hasJudge 18 = .ok (.goto 4, 3) := by decide +kernel
theorem dX2_hasJudge_21 : decode cX2_hasJudge 21 = .ok (.iconst 0, 1) := by decide +kernel
theorem dX2_hasJudge_22 : decode cX2_hasJudge 22 = .ok (.ireturn, 1) := by decide +kernel
theorem dX2_pointsOf_0 : decode cX2_pointsOf 0 = .ok (.aload_n 0, 1) := by decide +kernel
theorem dX2_pointsOf_1 : decode cX2_pointsOf 1 = .ok (.iload_n 1, 1) := by decide +kernel
theorem dX2_pointsOf_2 : decode cX2_pointsOf 2 = .ok (.invokevirtual 65, 3) := by decide +kernel
theorem dX2_pointsOf_5 : decode cX2_pointsOf 5 = .ok (.ifCond .eq 12, 3) := by decide +kernel
theorem dX2_pointsOf_8 : decode cX2_pointsOf 8 = .ok (.aload_n 0, 1) := by decide +kernel
theorem dX2_pointsOf_9 : decode cX2_pointsOf 9 = .ok (.getfield 18, 3) := by decide +kernel
theorem dX2_pointsOf_12 : decode cX2_pointsOf 12 = .ok (.iload_n 1, 1) := by decide +kernel
theorem dX2_pointsOf_13 : decode cX2_pointsOf 13 = .ok (.iaload, 1) := by decide +kernel
theorem dX2_pointsOf_14 : decode cX2_pointsOf 14 = .ok (.goto 4, 3) := by decide +kernel
theorem dX2_pointsOf_17 : decode cX2_pointsOf 17 = .ok (.iconst 0, 1) := by decide +kernel
theorem dX2_pointsOf_18 : decode cX2_pointsOf 18 = .ok (.ireturn, 1) := by decide +kernel
theorem dX2_worthOf_0 : decode cX2_worthOf 0 = .ok (.aload_n 0, 1) := by decide +kernel
theorem dX2_worthOf_1 : decode cX2_worthOf 1 = .ok (.iload_n 1, 1) := by decide +kernel
theorem dX2_worthOf_2 : decode cX2_worthOf 2 = .ok (.invokevirtual 65, 3) := by decide +kernel
theorem dX2_worthOf_5 : decode cX2_worthOf 5 = .ok (.ifCond .eq 12, 3) := by decide +kernel
theorem dX2_worthOf_8 : decode cX2_worthOf 8 = .ok (.aload_n 0, 1) := by decide +kernel
theorem dX2_worthOf_9 : decode cX2_worthOf 9 = .ok (.getfield 22, 3) := by decide +kernel
theorem dX2_worthOf_12 : decode cX2_worthOf 12 = .ok (.iload_n 1, 1) := by decide +kernel
theorem dX2_worthOf_13 : decode cX2_worthOf 13 = .ok (.iaload, 1) := by decide +kernel
theorem dX2_worthOf_14 : decode cX2_worthOf 14 = .ok (.goto 4, 3) := by decide +kernel
theorem dX2_worthOf_17 : decode cX2_worthOf 17 = .ok (.iconst 0, 1) := by decide +kernel
theorem dX2_worthOf_18 : decode cX2_worthOf 18 = .ok (.ireturn, 1) := by decide +kernel
theorem dX2_kindOf_0 : decode cX2_kindOf 0 = .ok (.aload_n 0, 1) := by decide +kernel
theorem dX2_kindOf_1 : decode cX2_kindOf 1 = .ok (.iload_n 1, 1) := by decide +kernel
theorem dX2_kindOf_2 : decode cX2_kindOf 2 = .ok (.invokevirtual 69, 3) := by decide +kernel
theorem dX2_kindOf_5 : decode cX2_kindOf 5 = .ok (.ifCond .eq 12, 3) := by decide +kernel
theorem dX2_kindOf_8 : decode cX2_kindOf 8 = .ok (.aload_n 0, 1) := by decide +kernel
theorem dX2_kindOf_9 : decode cX2_kindOf 9 = .ok (.getfield 28, 3) := by decide +kernel
theorem dX2_kindOf_12 : decode cX2_kindOf 12 = .ok (.iload_n 1, 1) := by decide +kernel
theorem dX2_kindOf_13 : decode cX2_kindOf 13 = .ok (.iaload, 1) := by decide +kernel
theorem dX2_kindOf_14 : decode cX2_kindOf 14 = .ok (.goto 4, 3) := by decide +kernel
theorem dX2_kindOf_17 : decode cX2_kindOf 17 = .ok (.iconst 0, 1) := by decide +kernel
theorem dX2_kindOf_18 : decode cX2_kindOf 18 = .ok (.ireturn, 1) := by decide +kernel
theorem dX2_numberOf_0 : decode cX2_numberOf 0 = .ok (.aload_n 0, 1) := by decide +kernel
theorem dX2_numberOf_1 : decode cX2_numberOf 1 = .ok (.iload_n 1, 1) := by decide +kernel
theorem dX2_numberOf_2 : decode cX2_numberOf 2 = .ok (.invokevirtual 69, 3) := by decide +kernel
theorem dX2_numberOf_5 : decode cX2_numberOf 5 = .ok (.ifCond .eq 12, 3) := by decide +kernel
theorem dX2_numberOf_8 : decode cX2_numberOf 8 = .ok (.aload_n 0, 1) := by decide +kernel
theorem dX2_numberOf_9 : decode cX2_numberOf 9 = .ok (.getfield 31, 3) := by decide +kernel
theorem dX2_numberOf_12 : decode cX2_numberOf 12 = .ok (.iload_n 1, 1) := by decide +kernel
theorem dX2_numberOf_13 : decode cX2_numberOf 13 = .ok (.iaload, 1) := by decide +kernel
theorem dX2_numberOf_14 : decode cX2_numberOf 14 = .ok (.goto 4, 3) := by decide +kernel
theorem dX2_numberOf_17 : decode cX2_numberOf 17 = .ok (.iconst 0, 1) := by decide +kernel
theorem dX2_numberOf_18 : decode cX2_numberOf 18 = .ok (.ireturn, 1) := by decide +kernel
theorem dX2_write_0 : decode cX2_write 0 = .ok (.aload_n 0, 1) := by decide +kernel
theorem dX2_write_1 : decode cX2_write 1 = .ok (.getfield 37, 3) := by decide +kernel
theorem dX2_write_4 : decode cX2_write 4 = .ok (.ifCond .lt 44, 3) := by decide +kernel
theorem dX2_write_7 : decode cX2_write 7 = .ok (.aload_n 0, 1) := by decide +kernel
theorem dX2_write_8 : decode cX2_write 8 = .ok (.getfield 37, 3) := by decide +kernel
theorem dX2_write_11 : decode cX2_write 11 = .ok (.bipush 24, 2) := by decide +kernel
theorem dX2_write_13 : decode cX2_write 13 = .ok (.if_icmp .ge 35, 3) := by decide +kernel
theorem dX2_write_16 : decode cX2_write 16 = .ok (.aload_n 0, 1) := by decide +kernel
theorem dX2_write_17 : decode cX2_write 17 = .ok (.getfield 40, 3) := by decide +kernel
theorem dX2_write_20 : decode cX2_write 20 = .ok (.aload_n 0, 1) := by decide +kernel
theorem dX2_write_21 : decode cX2_write 21 = .ok (.getfield 37, 3) := by decide +kernel
theorem dX2_write_24 : decode cX2_write 24 = .ok (.iconst 2, 1) := by decide +kernel
theorem dX2_write_25 : decode cX2_write 25 = .ok (.iload_n 1, 1) := by decide +kernel
theorem dX2_write_26 : decode cX2_write 26 = .ok (.imul, 1) := by decide +kernel
theorem dX2_write_27 : decode cX2_write 27 = .ok (.iload_n 2, 1) := by decide +kernel
theorem dX2_write_28 : decode cX2_write 28 = .ok (.ifCond .eq 7, 3) := by decide +kernel
theorem dX2_write_31 : decode cX2_write 31 = .ok (.iconst 1, 1) := by decide +kernel
theorem dX2_write_32 : decode cX2_write 32 = .ok (.goto 4, 3) := by decide +kernel
theorem dX2_write_35 : decode cX2_write 35 = .ok (.iconst 0, 1) := by decide +kernel
theorem dX2_write_36 : decode cX2_write 36 = .ok (.iadd, 1) := by decide +kernel
theorem dX2_write_37 : decode cX2_write 37 = .ok (.iastore, 1) := by decide +kernel
theorem dX2_write_38 : decode cX2_write 38 = .ok (.aload_n 0, 1) := by decide +kernel
theorem dX2_write_39 : decode cX2_write 39 = .ok (.dup, 1) := by decide +kernel
theorem dX2_write_40 : decode cX2_write 40 = .ok (.getfield 37, 3) := by decide +kernel
theorem dX2_write_43 : decode cX2_write 43 = .ok (.iconst 1, 1) := by decide +kernel
theorem dX2_write_44 : decode cX2_write 44 = .ok (.iadd, 1) := by decide +kernel
theorem dX2_write_45 : decode cX2_write 45 = .ok (.putfield 37, 3) := by decide +kernel
theorem dX2_write_48 : decode cX2_write 48 = .ok (.return_, 1) := by decide +kernel
theorem dX2_become_0 : decode cX2_become 0 = .ok (.aload_n 0, 1) := by decide +kernel
theorem dX2_become_1 : decode cX2_become 1 = .ok (.aload_n 1, 1) := by decide +kernel
theorem dX2_become_2 : decode cX2_become 2 = .ok (.getfield 9, 3) := by decide +kernel
theorem dX2_become_5 : decode cX2_become 5 = .ok (.putfield 9, 3) := by decide +kernel
theorem dX2_become_8 : decode cX2_become 8 = .ok (.aload_n 0, 1) := by decide +kernel
theorem dX2_become_9 : decode cX2_become 9 = .ok (.aload_n 1, 1) := by decide +kernel
theorem dX2_become_10 : decode cX2_become 10 = .ok (.getfield 15, 3) := by decide +kernel
theorem dX2_become_13 : decode cX2_become 13 = .ok (.putfield 15, 3) := by decide +kernel
theorem dX2_become_16 : decode cX2_become 16 = .ok (.aload_n 0, 1) := by decide +kernel
theorem dX2_become_17 : decode cX2_become 17 = .ok (.aload_n 1, 1) := by decide +kernel
theorem dX2_become_18 : decode cX2_become 18 = .ok (.getfield 25, 3) := by decide +kernel
theorem dX2_become_21 : decode cX2_become 21 = .ok (.putfield 25, 3) := by decide +kernel
theorem dX2_become_24 : decode cX2_become 24 = .ok (.aload_n 0, 1) := by decide +kernel
theorem dX2_become_25 : decode cX2_become 25 = .ok (.aload_n 1, 1) := by decide +kernel
theorem dX2_become_26 : decode cX2_become 26 = .ok (.getfield 37, 3) := by decide +kernel
theorem dX2_become_29 : decode cX2_become 29 = .ok (.putfield 37, 3) := by decide +kernel
theorem dX2_become_32 : decode cX2_become 32 = .ok (.aload_n 0, 1) := by decide +kernel
theorem dX2_become_33 : decode cX2_become 33 = .ok (.aload_n 1, 1) := by decide +kernel
theorem dX2_become_34 : decode cX2_become 34 = .ok (.getfield 43, 3) := by decide +kernel
theorem dX2_become_37 : decode cX2_become 37 = .ok (.putfield 43, 3) := by decide +kernel
theorem dX2_become_40 : decode cX2_become 40 = .ok (.aload_n 0, 1) := by decide +kernel
theorem dX2_become_41 : decode cX2_become 41 = .ok (.aload_n 1, 1) := by decide +kernel
theorem dX2_become_42 : decode cX2_become 42 = .ok (.getfield 49, 3) := by decide +kernel
theorem dX2_become_45 : decode cX2_become 45 = .ok (.putfield 49, 3) := by decide +kernel
theorem dX2_become_48 : decode cX2_become 48 = .ok (.aload_n 0, 1) := by decide +kernel
theorem dX2_become_49 : decode cX2_become 49 = .ok (.aload_n 1, 1) := by decide +kernel
theorem dX2_become_50 : decode cX2_become 50 = .ok (.getfield 56, 3) := by decide +kernel
theorem dX2_become_53 : decode cX2_become 53 = .ok (.putfield 56, 3) := by decide +kernel
theorem dX2_become_56 : decode cX2_become 56 = .ok (.aload_n 0, 1) := by decide +kernel
theorem dX2_become_57 : decode cX2_become 57 = .ok (.aload_n 1, 1) := by decide +kernel
theorem dX2_become_58 : decode cX2_become 58 = .ok (.getfield 59, 3) := by decide +kernel
theorem dX2_become_61 : decode cX2_become 61 = .ok (.putfield 59, 3) := by decide +kernel
theorem dX2_become_64 : decode cX2_become 64 = .ok (.aload_n 1, 1) := by decide +kernel
theorem dX2_become_65 : decode cX2_become 65 = .ok (.getfield 18, 3) := by decide +kernel
theorem dX2_become_68 : decode cX2_become 68 = .ok (.iconst 0, 1) := by decide +kernel
theorem dX2_become_69 : decode cX2_become 69 = .ok (.aload_n 0, 1) := by decide +kernel
theorem dX2_become_70 : decode cX2_become 70 = .ok (.getfield 18, 3) := by decide +kernel
theorem dX2_become_73 : decode cX2_become 73 = .ok (.iconst 0, 1) := by decide +kernel
theorem dX2_become_74 : decode cX2_become 74 = .ok (.bipush 8, 2) := by decide +kernel
theorem dX2_become_76 : decode cX2_become 76 = .ok (.invokestatic 72, 3) := by decide +kernel
theorem dX2_become_79 : decode cX2_become 79 = .ok (.aload_n 1, 1) := by decide +kernel
theorem dX2_become_80 : decode cX2_become 80 = .ok (.getfield 22, 3) := by decide +kernel
theorem dX2_become_83 : decode cX2_become 83 = .ok (.iconst 0, 1) := by decide +kernel
theorem dX2_become_84 : decode cX2_become 84 = .ok (.aload_n 0, 1) := by decide +kernel
theorem dX2_become_85 : decode cX2_become 85 = .ok (.getfield 22, 3) := by decide +kernel
theorem dX2_become_88 : decode cX2_become 88 = .ok (.iconst 0, 1) := by decide +kernel
theorem dX2_become_89 : decode cX2_become 89 = .ok (.bipush 8, 2) := by decide +kernel
theorem dX2_become_91 : decode cX2_become 91 = .ok (.invokestatic 72, 3) := by decide +kernel
theorem dX2_become_94 : decode cX2_become 94 = .ok (.aload_n 1, 1) := by decide +kernel
theorem dX2_become_95 : decode cX2_become 95 = .ok (.getfield 28, 3) := by decide +kernel
theorem dX2_become_98 : decode cX2_become 98 = .ok (.iconst 0, 1) := by decide +kernel
theorem dX2_become_99 : decode cX2_become 99 = .ok (.aload_n 0, 1) := by decide +kernel
theorem dX2_become_100 : decode cX2_become 100 = .ok (.getfield 28, 3) := by decide +kernel
theorem dX2_become_103 : decode cX2_become 103 = .ok (.iconst 0, 1) := by decide +kernel
theorem dX2_become_104 : decode cX2_become 104 = .ok (.iconst 4, 1) := by decide +kernel
theorem dX2_become_105 : decode cX2_become 105 = .ok (.invokestatic 72, 3) := by decide +kernel
theorem dX2_become_108 : decode cX2_become 108 = .ok (.aload_n 1, 1) := by decide +kernel
theorem dX2_become_109 : decode cX2_become 109 = .ok (.getfield 31, 3) := by decide +kernel
theorem dX2_become_112 : decode cX2_become 112 = .ok (.iconst 0, 1) := by decide +kernel
theorem dX2_become_113 : decode cX2_become 113 = .ok (.aload_n 0, 1) := by decide +kernel
theorem dX2_become_114 : decode cX2_become 114 = .ok (.getfield 31, 3) := by decide +kernel
theorem dX2_become_117 : decode cX2_become 117 = .ok (.iconst 0, 1) := by decide +kernel
theorem dX2_become_118 : decode cX2_become 118 = .ok (.iconst 4, 1) := by decide +kernel
theorem dX2_become_119 : decode cX2_become 119 = .ok (.invokestatic 72, 3) := by decide +kernel
theorem dX2_become_122 : decode cX2_become 122 = .ok (.aload_n 1, 1) := by decide +kernel
theorem dX2_become_123 : decode cX2_become 123 = .ok (.getfield 34, 3) := by decide +kernel
theorem dX2_become_126 : decode cX2_become 126 = .ok (.iconst 0, 1) := by decide +kernel
theorem dX2_become_127 : decode cX2_become 127 = .ok (.aload_n 0, 1) := by decide +kernel
theorem dX2_become_128 : decode cX2_become 128 = .ok (.getfield 34, 3) := by decide +kernel
theorem dX2_become_131 : decode cX2_become 131 = .ok (.iconst 0, 1) := by decide +kernel
theorem dX2_become_132 : decode cX2_become 132 = .ok (.bipush 16, 2) := by decide +kernel
theorem dX2_become_134 : decode cX2_become 134 = .ok (.invokestatic 72, 3) := by decide +kernel
theorem dX2_become_137 : decode cX2_become 137 = .ok (.aload_n 1, 1) := by decide +kernel
theorem dX2_become_138 : decode cX2_become 138 = .ok (.getfield 40, 3) := by decide +kernel
theorem dX2_become_141 : decode cX2_become 141 = .ok (.iconst 0, 1) := by decide +kernel
theorem dX2_become_142 : decode cX2_become 142 = .ok (.aload_n 0, 1) := by decide +kernel
theorem dX2_become_143 : decode cX2_become 143 = .ok (.getfield 40, 3) := by decide +kernel
theorem dX2_become_146 : decode cX2_become 146 = .ok (.iconst 0, 1) := by decide +kernel
theorem dX2_become_147 : decode cX2_become 147 = .ok (.bipush 24, 2) := by decide +kernel
theorem dX2_become_149 : decode cX2_become 149 = .ok (.invokestatic 72, 3) := by decide +kernel
theorem dX2_become_152 : decode cX2_become 152 = .ok (.aload_n 1, 1) := by decide +kernel
theorem dX2_become_153 : decode cX2_become 153 = .ok (.getfield 46, 3) := by decide +kernel
theorem dX2_become_156 : decode cX2_become 156 = .ok (.iconst 0, 1) := by decide +kernel
theorem dX2_become_157 : decode cX2_become 157 = .ok (.aload_n 0, 1) := by decide +kernel
theorem dX2_become_158 : decode cX2_become 158 = .ok (.getfield 46, 3) := by decide +kernel
theorem dX2_become_161 : decode cX2_become 161 = .ok (.iconst 0, 1) := by decide +kernel
theorem dX2_become_162 : decode cX2_become 162 = .ok (.bipush 8, 2) := by decide +kernel
theorem dX2_become_164 : decode cX2_become 164 = .ok (.invokestatic 72, 3) := by decide +kernel
theorem dX2_become_167 : decode cX2_become 167 = .ok (.aload_n 1, 1) := by decide +kernel
theorem dX2_become_168 : decode cX2_become 168 = .ok (.getfield 52, 3) := by decide +kernel
theorem dX2_become_171 : decode cX2_become 171 = .ok (.iconst 0, 1) := by decide +kernel
theorem dX2_become_172 : decode cX2_become 172 = .ok (.aload_n 0, 1) := by decide +kernel
theorem dX2_become_173 : decode cX2_become 173 = .ok (.getfield 52, 3) := by decide +kernel
theorem dX2_become_176 : decode cX2_become 176 = .ok (.iconst 0, 1) := by decide +kernel
theorem dX2_become_177 : decode cX2_become 177 = .ok (.bipush 100, 2) := by decide +kernel
theorem dX2_become_179 : decode cX2_become 179 = .ok (.invokestatic 72, 3) := by decide +kernel
theorem dX2_become_182 : decode cX2_become 182 = .ok (.aload_n 1, 1) := by decide +kernel
theorem dX2_become_183 : decode cX2_become 183 = .ok (.getfield 62, 3) := by decide +kernel
theorem dX2_become_186 : decode cX2_become 186 = .ok (.iconst 0, 1) := by decide +kernel
theorem dX2_become_187 : decode cX2_become 187 = .ok (.aload_n 0, 1) := by decide +kernel
theorem dX2_become_188 : decode cX2_become 188 = .ok (.getfield 62, 3) := by decide +kernel
theorem dX2_become_191 : decode cX2_become 191 = .ok (.iconst 0, 1) := by decide +kernel
theorem dX2_become_192 : decode cX2_become 192 = .ok (.bipush 100, 2) := by decide +kernel
theorem dX2_become_194 : decode cX2_become 194 = .ok (.invokestatic 72, 3) := by decide +kernel
theorem dX2_become_197 : decode cX2_become 197 = .ok (.return_, 1) := by decide +kernel
theorem dX3_init_0 : decode cX3_init 0 = .ok (.aload_n 0, 1) := by decide +kernel
theorem dX3_init_1 : decode cX3_init 1 = .ok (.invokespecial 3, 3) := by decide +kernel
theorem dX3_init_4 : decode cX3_init 4 = .ok (.aload_n 0, 1) := by decide +kernel
theorem dX3_init_5 : decode cX3_init 5 = .ok (.bipush 8, 2) := by decide +kernel
theorem dX3_init_7 : decode cX3_init 7 = .ok (.newarray .int, 2) := by decide +kernel
theorem dX3_init_9 : decode cX3_init 9 = .ok (.putfield 9, 3) := by decide +kernel
theorem dX3_init_12 : decode cX3_init 12 = .ok (.aload_n 0, 1) := by decide +kernel
theorem dX3_init_13 : decode cX3_init 13 = .ok (.bipush 8, 2) := by decide +kernel
theorem dX3_init_15 : decode cX3_init 15 = .ok (.newarray .int, 2) := by decide +kernel
theorem dX3_init_17 : decode cX3_init 17 = .ok (.putfield 15, 3) := by decide +kernel
theorem dX3_init_20 : decode cX3_init 20 = .ok (.aload_n 0, 1) := by decide +kernel
theorem dX3_init_21 : decode cX3_init 21 = .ok (.iconst 2, 1) := by decide +kernel
theorem dX3_init_22 : decode cX3_init 22 = .ok (.putfield 18, 3) := by decide +kernel
theorem dX3_init_25 : decode cX3_init 25 = .ok (.aload_n 0, 1) := by decide +kernel
theorem dX3_init_26 : decode cX3_init 26 = .ok (.iconst 0, 1) := by decide +kernel
theorem dX3_init_27 : decode cX3_init 27 = .ok (.putfield 22, 3) := by decide +kernel
theorem dX3_init_30 : decode cX3_init 30 = .ok (.aload_n 0, 1) := by decide +kernel
theorem dX3_init_31 : decode cX3_init 31 = .ok (.iconst 0, 1) := by decide +kernel
theorem dX3_init_32 : decode cX3_init 32 = .ok (.putfield 25, 3) := by decide +kernel
theorem dX3_init_35 : decode cX3_init 35 = .ok (.aload_n 0, 1) := by decide +kernel
theorem dX3_init_36 : decode cX3_init 36 = .ok (.iconst 0, 1) := by decide +kernel
theorem dX3_init_37 : decode cX3_init 37 = .ok (.putfield 28, 3) := by decide +kernel
theorem dX3_init_40 : decode cX3_init 40 = .ok (.aload_n 0, 1) := by decide +kernel
theorem dX3_init_41 : decode cX3_init 41 = .ok (.iconst 0, 1) := by decide +kernel
theorem dX3_init_42 : decode cX3_init 42 = .ok (.putfield 31, 3) := by decide +kernel
theorem dX3_init_45 : decode cX3_init 45 = .ok (.aload_n 0, 1) := by decide +kernel
theorem dX3_init_46 : decode cX3_init 46 = .ok (.iconst 0, 1) := by decide +kernel
theorem dX3_init_47 : decode cX3_init 47 = .ok (.putfield 34, 3) := by decide +kernel
theorem dX3_init_50 : decode cX3_init 50 = .ok (.aload_n 0, 1) := by decide +kernel
theorem dX3_init_51 : decode cX3_init 51 = .ok (.iconst 0, 1) := by decide +kernel
theorem dX3_init_52 : decode cX3_init 52 = .ok (.putfield 37, 3) := by decide +kernel
theorem dX3_init_55 : decode cX3_init 55 = .ok (.aload_n 0, 1) := by decide +kernel
theorem dX3_init_56 : decode cX3_init 56 = .ok (.iconst 0, 1) := by decide +kernel
theorem dX3_init_57 : decode cX3_init 57 = .ok (.putfield 40, 3) := by decide +kernel
theorem dX3_init_60 : decode cX3_init 60 = .ok (.aload_n 0, 1) := by decide +kernel
theorem dX3_init_61 : decode cX3_init 61 = .ok (.iconst 0, 1) := by decide +kernel
theorem dX3_init_62 : decode cX3_init 62 = .ok (.putfield 43, 3) := by decide +kernel
theorem dX3_init_65 : decode cX3_init 65 = .ok (.aload_n 0, 1) := by decide +kernel
theorem dX3_init_66 : decode cX3_init 66 = .ok (.iconst 0, 1) := by decide +kernel
theorem dX3_init_67 : decode cX3_init 67 = .ok (.putfield 46, 3) := by decide +kernel
theorem dX3_init_70 : decode cX3_init 70 = .ok (.aload_n 0, 1) := by decide +kernel
theorem dX3_init_71 : decode cX3_init 71 = .ok (.iconst 0, 1) := by decide +kernel
theorem dX3_init_72 : decode cX3_init 72 = .ok (.putfield 49, 3) := by decide +kernel
theorem dX3_init_75 : decode cX3_init 75 = .ok (.aload_n 0, 1) := by decide +kernel
theorem dX3_init_76 : decode cX3_init 76 = .ok (.iconst 0, 1) := by decide +kernel
theorem dX3_init_77 : decode cX3_init 77 = .ok (.putfield 52, 3) := by decide +kernel
theorem dX3_init_80 : decode cX3_init 80 = .ok (.aload_n 0, 1) := by decide +kernel
theorem dX3_init_81 : decode cX3_init 81 = .ok (.iconst 0, 1) := by decide +kernel
theorem dX3_init_82 : decode cX3_init 82 = .ok (.putfield 55, 3) := by decide +kernel
theorem dX3_init_85 : decode cX3_init 85 = .ok (.aload_n 0, 1) := by decide +kernel
theorem dX3_init_86 : decode cX3_init 86 = .ok (.iconst 0, 1) := by decide +kernel
theorem dX3_init_87 : decode cX3_init 87 = .ok (.putfield 58, 3) := by decide +kernel
theorem dX3_init_90 : decode cX3_init 90 = .ok (.aload_n 0, 1) := by decide +kernel
theorem dX3_init_91 : decode cX3_init 91 = .ok (.iconst 5, 1) := by decide +kernel
theorem dX3_init_92 : decode cX3_init 92 = .ok (.newarray .int, 2) := by decide +kernel
theorem dX3_init_94 : decode cX3_init 94 = .ok (.putfield 61, 3) := by decide +kernel
theorem dX3_init_97 : decode cX3_init 97 = .ok (.aload_n 0, 1) := by decide +kernel
theorem dX3_init_98 : decode cX3_init 98 = .ok (.bipush 6, 2) := by decide +kernel
theorem dX3_init_100 : decode cX3_init 100 = .ok (.newarray .int, 2) := by decide +kernel
theorem dX3_init_102 : decode cX3_init 102 = .ok (.putfield 64, 3) := by decide +kernel
theorem dX3_init_105 : decode cX3_init 105 = .ok (.aload_n 0, 1) := by decide +kernel
theorem dX3_init_106 : decode cX3_init 106 = .ok (.bipush 6, 2) := by decide +kernel
theorem dX3_init_108 : decode cX3_init 108 = .ok (.newarray .int, 2) := by decide +kernel
theorem dX3_init_110 : decode cX3_init 110 = .ok (.putfield 67, 3) := by decide +kernel
theorem dX3_init_113 : decode cX3_init 113 = .ok (.return_, 1) := by decide +kernel
theorem dX3_learn_0 : decode cX3_learn 0 = .ok (.iconst 0, 1) := by decide +kernel
theorem dX3_learn_1 : decode cX3_learn 1 = .ok (.istore 6, 2) := by decide +kernel
theorem dX3_learn_3 : decode cX3_learn 3 = .ok (.iload 6, 2) := by decide +kernel
theorem dX3_learn_5 : decode cX3_learn 5 = .ok (.bipush 8, 2) := by decide +kernel
theorem dX3_learn_7 : decode cX3_learn 7 = .ok (.if_icmp .ge 25, 3) := by decide +kernel
theorem dX3_learn_10 : decode cX3_learn 10 = .ok (.aload_n 0, 1) := by decide +kernel
theorem dX3_learn_11 : decode cX3_learn 11 = .ok (.getfield 9, 3) := by decide +kernel
theorem dX3_learn_14 : decode cX3_learn 14 = .ok (.iload 6, 2) := by decide +kernel
theorem dX3_learn_16 : decode cX3_learn 16 = .ok (.iconst 1, 1) := by decide +kernel
theorem dX3_learn_17 : decode cX3_learn 17 = .ok (.iastore, 1) := by decide +kernel
theorem dX3_learn_18 : decode cX3_learn 18 = .ok (.aload_n 0, 1) := by decide +kernel
theorem dX3_learn_19 : decode cX3_learn 19 = .ok (.getfield 15, 3) := by decide +kernel
theorem dX3_learn_22 : decode cX3_learn 22 = .ok (.iload 6, 2) := by decide +kernel
theorem dX3_learn_24 : decode cX3_learn 24 = .ok (.iconst 0, 1) := by decide +kernel
theorem dX3_learn_25 : decode cX3_learn 25 = .ok (.iastore, 1) := by decide +kernel
theorem dX3_learn_26 : decode cX3_learn 26 = .ok (.iinc 6 1, 3) := by decide +kernel
theorem dX3_learn_29 : decode cX3_learn 29 = .ok (.goto (-26), 3) := by decide +kernel
theorem dX3_learn_32 : decode cX3_learn 32 = .ok (.aload_n 0, 1) := by decide +kernel
theorem dX3_learn_33 : decode cX3_learn 33 = .ok (.iconst 2, 1) := by decide +kernel
theorem dX3_learn_34 : decode cX3_learn 34 = .ok (.putfield 18, 3) := by decide +kernel
theorem dX3_learn_37 : decode cX3_learn 37 = .ok (.aload_n 0, 1) := by decide +kernel
theorem dX3_learn_38 : decode cX3_learn 38 = .ok (.iconst 0, 1) := by decide +kernel
theorem dX3_learn_39 : decode cX3_learn 39 = .ok (.putfield 40, 3) := by decide +kernel
theorem dX3_learn_42 : decode cX3_learn 42 = .ok (.aload_n 0, 1) := by decide +kernel
theorem dX3_learn_43 : decode cX3_learn 43 = .ok (.iconst 0, 1) := by decide +kernel
theorem dX3_learn_44 : decode cX3_learn 44 = .ok (.putfield 31, 3) := by decide +kernel
theorem dX3_learn_47 : decode cX3_learn 47 = .ok (.aload_n 0, 1) := by decide +kernel
theorem dX3_learn_48 : decode cX3_learn 48 = .ok (.iload_n 3, 1) := by decide +kernel
theorem dX3_learn_49 : decode cX3_learn 49 = .ok (.putfield 22, 3) := by decide +kernel
theorem dX3_learn_52 : decode cX3_learn 52 = .ok (.aload_n 0, 1) := by decide +kernel
theorem dX3_learn_53 : decode cX3_learn 53 = .ok (.iload 4, 2) := by decide +kernel
theorem dX3_learn_55 : decode cX3_learn 55 = .ok (.putfield 25, 3) := by decide +kernel
theorem dX3_learn_58 : decode cX3_learn 58 = .ok (.aload_n 0, 1) := by decide +kernel
theorem dX3_learn_59 : decode cX3_learn 59 = .ok (.iload 5, 2) := by decide +kernel
theorem dX3_learn_61 : decode cX3_learn 61 = .ok (.putfield 28, 3) := by decide +kernel
theorem dX3_learn_64 : decode cX3_learn 64 = .ok (.iconst 0, 1) := by decide +kernel
theorem dX3_learn_65 : decode cX3_learn 65 = .ok (.iload_n 2, 1) := by decide +kernel
theorem dX3_learn_66 : decode cX3_learn 66 = .ok (.aload_n 1, 1) := by decide +kernel
theorem dX3_learn_67 : decode cX3_learn 67 = .ok (.arraylength, 1) := by decide +kernel
theorem dX3_learn_68 : decode cX3_learn 68 = .ok (.invokestatic 70, 3) := by decide +kernel
theorem dX3_learn_71 : decode cX3_learn 71 = .ok (.invokestatic 76, 3) := by decide +kernel
theorem dX3_learn_74 : decode cX3_learn 74 = .ok (.istore 6, 2) := by decide +kernel
theorem dX3_learn_76 : decode cX3_learn 76 = .ok (.iconst 0, 1) := by decide +kernel
theorem dX3_learn_77 : decode cX3_learn 77 = .ok (.istore 7, 2) := by decide +kernel
theorem dX3_learn_79 : decode cX3_learn 79 = .ok (.iload 7, 2) := by decide +kernel
theorem dX3_learn_81 : decode cX3_learn 81 = .ok (.iload 6, 2) := by decide +kernel
theorem dX3_learn_83 : decode cX3_learn 83 = .ok (.if_icmp .ge 32, 3) := by decide +kernel
theorem dX3_learn_86 : decode cX3_learn 86 = .ok (.aload_n 0, 1) := by decide +kernel
theorem dX3_learn_87 : decode cX3_learn 87 = .ok (.aload_n 1, 1) := by decide +kernel
theorem dX3_learn_88 : decode cX3_learn 88 = .ok (.iload 7, 2) := by decide +kernel
theorem dX3_learn_90 : decode cX3_learn 90 = .ok (.baload, 1) := by decide +kernel
theorem dX3_learn_91 : decode cX3_learn 91 = .ok (.invokevirtual 79, 3) := by decide +kernel
theorem dX3_learn_94 : decode cX3_learn 94 = .ok (.ifCond .eq 12, 3) := by decide +kernel
theorem dX3_learn_97 : decode cX3_learn 97 = .ok (.aload_n 0, 1) := by decide +kernel
theorem dX3_learn_98 : decode cX3_learn 98 = .ok (.getfield 40, 3) := by decide +kernel
theorem dX3_learn_101 : decode cX3_learn 101 = .ok (.bipush 10, 2) := by decide +kernel
theorem dX3_learn_103 : decode cX3_learn 103 = .ok (.if_icmp .ne 6, 3) := by decide +kernel
theorem dX3_learn_106 : decode cX3_learn 106 = .ok (.iload 7, 2) := by decide +kernel
theorem dX3_learn_108 : decode cX3_learn 108 = .ok (.ireturn, 1) := by decide +kernel
theorem dX3_learn_109 : decode cX3_learn 109 = .ok (.iinc 7 1, 3) := by decide +kernel
theorem dX3_learn_112 : decode cX3_learn 112 = .ok (.goto (-33), 3) := by decide +kernel
theorem dX3_learn_115 : decode cX3_learn 115 = .ok (.aload_n 0, 1) := by decide +kernel
theorem dX3_learn_116 : decode cX3_learn 116 = .ok (.bipush 59, 2) := by decide +kernel
theorem dX3_learn_118 : decode cX3_learn 118 = .ok (.invokevirtual 79, 3) := by decide +kernel
theorem dX3_learn_121 : decode cX3_learn 121 = .ok (.ifCond .eq 7, 3) := by decide +kernel
theorem dX3_learn_124 : decode cX3_learn 124 = .ok (.iconst (-1), 1) := by decide +kernel
theorem dX3_learn_125 : decode cX3_learn 125 = .ok (.goto 5, 3) := by decide +kernel
theorem dX3_learn_128 : decode cX3_learn 128 = .ok (.iload 6, 2) := by decide +kernel
theorem dX3_learn_130 : decode cX3_learn 130 = .ok (.ireturn, 1) := by decide +kernel
theorem dX3_goesOn_0 : decode cX3_goesOn 0 = .ok (.aload_n 0, 1) := by decide +kernel
theorem dX3_goesOn_1 : decode cX3_goesOn 1 = .ok (.getfield 31, 3) := by decide +kernel
theorem dX3_goesOn_4 : decode cX3_goesOn 4 = .ok (.tableswitch 122 0 5 #[40, 46, 52, 81, 87, 93], 40) := by decide +kernel
theorem dX3_goesOn_44 : decode cX3_goesOn 44 = .ok (.aload_n 0, 1) := by decide +kernel
theorem dX3_goesOn_45 : decode cX3_goesOn 45 = .ok (.iload_n 1, 1) := by decide +kernel
theorem dX3_goesOn_46 : decode cX3_goesOn 46 = .ok (.invokevirtual 83, 3) := by decide +kernel
theorem dX3_goesOn_49 : decode cX3_goesOn 49 = .ok (.ireturn, 1) := by decide +kernel
theorem dX3_goesOn_50 : decode cX3_goesOn 50 = .ok (.aload_n 0, 1) := by decide +kernel
theorem dX3_goesOn_51 : decode cX3_goesOn 51 = .ok (.iload_n 1, 1) := by decide +kernel
theorem dX3_goesOn_52 : decode cX3_goesOn 52 = .ok (.invokevirtual 86, 3) := by decide +kernel
theorem dX3_goesOn_55 : decode cX3_goesOn 55 = .ok (.ireturn, 1) := by decide +kernel
theorem dX3_goesOn_56 : decode cX3_goesOn 56 = .ok (.aload_n 0, 1) := by decide +kernel
theorem dX3_goesOn_57 : decode cX3_goesOn 57 = .ok (.iload_n 1, 1) := by decide +kernel
theorem dX3_goesOn_58 : decode cX3_goesOn 58 = .ok (.invokevirtual 89, 3) := by decide +kernel
theorem dX3_goesOn_61 : decode cX3_goesOn 61 = .ok (.ifCond .ne 18, 3) := by decide +kernel
theorem dX3_goesOn_64 : decode cX3_goesOn 64 = .ok (.aload_n 0, 1) := by decide +kernel
theorem dX3_goesOn_65 : decode cX3_goesOn 65 = .ok (.getfield 46, 3) := by decide +kernel
theorem dX3_goesOn_68 : decode cX3_goesOn 68 = .ok (.ifCond .le 15, 3) := by decide +kernel
theorem dX3_goesOn_71 : decode cX3_goesOn 71 = .ok (.aload_n 0, 1) := by decide +kernel
theorem dX3_goesOn_72 : decode cX3_goesOn 72 = .ok (.iload_n 1, 1) := by decide +kernel
theorem dX3_goesOn_73 : decode cX3_goesOn 73 = .ok (.invokevirtual 92, 3) := by decide +kernel
theorem dX3_goesOn_76 : decode cX3_goesOn 76 = .ok (.ifCond .eq 7, 3) := by decide +kernel
theorem dX3_goesOn_79 : decode cX3_goesOn 79 = .ok (.iconst 1, 1) := by decide +kernel
theorem dX3_goesOn_80 : decode cX3_goesOn 80 = .ok (.goto 4, 3) := by decide +kernel
theorem dX3_goesOn_83 : decode cX3_goesOn 83 = .ok (.iconst 0, 1) := by decide +kernel
theorem dX3_goesOn_84 : decode cX3_goesOn 84 = .ok (.ireturn, 1) := by decide +kernel
theorem dX3_goesOn_85 : decode cX3_goesOn 85 = .ok (.aload_n 0, 1) := by decide +kernel
theorem dX3_goesOn_86 : decode cX3_goesOn 86 = .ok (.iload_n 1, 1) := by decide +kernel
theorem dX3_goesOn_87 : decode cX3_goesOn 87 = .ok (.invokevirtual 95, 3) := by decide +kernel
theorem dX3_goesOn_90 : decode cX3_goesOn 90 = .ok (.ireturn, 1) := by decide +kernel
theorem dX3_goesOn_91 : decode cX3_goesOn 91 = .ok (.aload_n 0, 1) := by decide +kernel
theorem dX3_goesOn_92 : decode cX3_goesOn 92 = .ok (.iload_n 1, 1) := by decide +kernel
theorem dX3_goesOn_93 : decode cX3_goesOn 93 = .ok (.invokevirtual 98, 3) := by decide +kernel
theorem dX3_goesOn_96 : decode cX3_goesOn 96 = .ok (.ireturn, 1) := by decide +kernel
theorem dX3_goesOn_97 : decode cX3_goesOn 97 = .ok (.aload_n 0, 1) := by decide +kernel
theorem dX3_goesOn_98 : decode cX3_goesOn 98 = .ok (.iload_n 1, 1) := by decide +kernel
theorem dX3_goesOn_99 : decode cX3_goesOn 99 = .ok (.invokevirtual 89, 3) := by decide +kernel
theorem dX3_goesOn_102 : decode cX3_goesOn 102 = .ok (.ifCond .ne 18, 3) := by decide +kernel
theorem dX3_goesOn_105 : decode cX3_goesOn 105 = .ok (.aload_n 0, 1) := by decide +kernel
theorem dX3_goesOn_106 : decode cX3_goesOn 106 = .ok (.getfield 46, 3) := by decide +kernel
theorem dX3_goesOn_109 : decode cX3_goesOn 109 = .ok (.ifCond .le 15, 3) := by decide +kernel
theorem dX3_goesOn_112 : decode cX3_goesOn 112 = .ok (.aload_n 0, 1) := by decide +kernel
theorem dX3_goesOn_113 : decode cX3_goesOn 113 = .ok (.iload_n 1, 1) := by decide +kernel
theorem dX3_goesOn_114 : decode cX3_goesOn 114 = .ok (.invokevirtual 101, 3) := by decide +kernel
theorem dX3_goesOn_117 : decode cX3_goesOn 117 = .ok (.ifCond .eq 7, 3) := by decide +kernel
theorem dX3_goesOn_120 : decode cX3_goesOn 120 = .ok (.iconst 1, 1) := by decide +kernel
theorem dX3_goesOn_121 : decode cX3_goesOn 121 = .ok (.goto 4, 3) := by decide +kernel
theorem dX3_goesOn_124 : decode cX3_goesOn 124 = .ok (.iconst 0, 1) := by decide +kernel
theorem dX3_goesOn_125 : decode cX3_goesOn 125 = .ok (.ireturn, 1) := by decide +kernel
theorem dX3_goesOn_126 : decode cX3_goesOn 126 = .ok (.aload_n 0, 1) := by decide +kernel
theorem dX3_goesOn_127 : decode cX3_goesOn 127 = .ok (.iload_n 1, 1) := by decide +kernel
theorem dX3_goesOn_128 : decode cX3_goesOn 128 = .ok (.invokevirtual 104, 3) := by decide +kernel
theorem dX3_goesOn_131 : decode cX3_goesOn 131 = .ok (.ireturn, 1) := by decide +kernel
theorem dX3_beginsClause_0 : decode cX3_beginsClause 0 = .ok (.aload_n 0, 1) := by decide +kernel
theorem dX3_beginsClause_1 : decode cX3_beginsClause 1 = .ok (.iload_n 1, 1) := by decide +kernel
theorem dX3_beginsClause_2 : decode cX3_beginsClause 2 = .ok (.putfield 34, 3) := by decide +kernel
theorem dX3_beginsClause_5 : decode cX3_beginsClause 5 = .ok (.aload_n 0, 1) := by decide +kernel
theorem dX3_beginsClause_6 : decode cX3_beginsClause 6 = .ok (.iconst 1, 1) := by decide +kernel
theorem dX3_beginsClause_7 : decode cX3_beginsClause 7 = .ok (.putfield 37, 3) := by decide +kernel
theorem dX3_beginsClause_10 : decode cX3_beginsClause 10 = .ok (.aload_n 0, 1) := by decide +kernel
theorem dX3_beginsClause_11 : decode cX3_beginsClause 11 = .ok (.iconst 1, 1) := by decide +kernel
theorem dX3_beginsClause_12 : decode cX3_beginsClause 12 = .ok (.putfield 31, 3) := by decide +kernel
theorem dX3_beginsClause_15 : decode cX3_beginsClause 15 = .ok (.iload_n 1, 1) := by decide +kernel
theorem dX3_beginsClause_16 : decode cX3_beginsClause 16 = .ok (.bipush 119, 2) := by decide +kernel
theorem dX3_beginsClause_18 : decode cX3_beginsClause 18 = .ok (.if_icmp .eq 15, 3) := by decide +kernel
theorem dX3_beginsClause_21 : decode cX3_beginsClause 21 = .ok (.iload_n 1, 1) := by decide +kernel
theorem dX3_beginsClause_22 : decode cX3_beginsClause 22 = .ok (.bipush 99, 2) := by decide +kernel
theorem dX3_beginsClause_24 : decode cX3_beginsClause 24 = .ok (.if_icmp .eq 9, 3) := by decide +kernel
theorem dX3_beginsClause_27 : decode cX3_beginsClause 27 = .ok (.iload_n 1, 1) := by decide +kernel
theorem dX3_beginsClause_28 : decode cX3_beginsClause 28 = .ok (.bipush 98, 2) := by decide +kernel
theorem dX3_beginsClause_30 : decode cX3_beginsClause 30 = .ok (.if_icmp .ne 7, 3) := by decide +kernel
theorem dX3_beginsClause_33 : decode cX3_beginsClause 33 = .ok (.iconst 1, 1) := by decide +kernel
theorem dX3_beginsClause_34 : decode cX3_beginsClause 34 = .ok (.goto 4, 3) := by decide +kernel
theorem dX3_beginsClause_37 : decode cX3_beginsClause 37 = .ok (.iconst 0, 1) := by decide +kernel
theorem dX3_beginsClause_38 : decode cX3_beginsClause 38 = .ok (.ireturn, 1) := by decide +kernel
theorem dX3_goesOnWord_0 : decode cX3_goesOnWord 0 = .ok (.aload_n 0, 1) := by decide +kernel
theorem dX3_goesOnWord_1 : decode cX3_goesOnWord 1 = .ok (.getfield 34, 3) := by decide +kernel
theorem dX3_goesOnWord_4 : decode cX3_goesOnWord 4 = .ok (.bipush 119, 2) := by decide +kernel
theorem dX3_goesOnWord_6 : decode cX3_goesOnWord 6 = .ok (.if_icmp .ne 8, 3) := by decide +kernel
theorem dX3_goesOnWord_9 : decode cX3_goesOnWord 9 = .ok (.ldc 107, 2) := by decide +kernel
theorem dX3_goesOnWord_11 : decode cX3_goesOnWord 11 = .ok (.goto 19, 3) := by decide +kernel
theorem dX3_goesOnWord_14 : decode cX3_goesOnWord 14 = .ok (.aload_n 0, 1) := by decide +kernel
theorem dX3_goesOnWord_15 : decode cX3_goesOnWord 15 = .ok (.getfield 34, 3) := by decide +kernel
theorem dX3_goesOnWord_18 : decode cX3_goesOnWord 18 = .ok (.bipush 99, 2) := by decide +kernel
theorem dX3_goesOnWord_20 : decode cX3_goesOnWord 20 = .ok (.if_icmp .ne 8, 3) := by decide +kernel
theorem dX3_goesOnWord_23 : decode cX3_goesOnWord 23 = .ok (.ldc 109, 2) := by decide +kernel
theorem dX3_goesOnWord_25 : decode cX3_goesOnWord 25 = .ok (.goto 5, 3) := by decide +kernel
theorem dX3_goesOnWord_28 : decode cX3_goesOnWord 28 = .ok (.ldc 111, 2) := by decide +kernel
theorem dX3_goesOnWord_30 : decode cX3_goesOnWord 30 = .ok (.astore_n 2, 1) := by decide +kernel
theorem dX3_goesOnWord_31 : decode cX3_goesOnWord 31 = .ok (.aload_n 0, 1) := by decide +kernel
theorem dX3_goesOnWord_32 : decode cX3_goesOnWord 32 = .ok (.getfield 37, 3) := by decide +kernel
theorem dX3_goesOnWord_35 : decode cX3_goesOnWord 35 = .ok (.ifCond .lt 26, 3) := by decide +kernel
theorem dX3_goesOnWord_38 : decode cX3_goesOnWord 38 = .ok (.aload_n 0, 1) := by decide +kernel
theorem dX3_goesOnWord_39 : decode cX3_goesOnWord 39 = .ok (.getfield 37, 3) := by decide +kernel
theorem dX3_goesOnWord_42 : decode cX3_goesOnWord 42 = .ok (.aload_n 2, 1) := by decide +kernel
theorem dX3_goesOnWord_43 : decode cX3_goesOnWord 43 = .ok (.invokevirtual 113, 3) := by decide +kernel
theorem dX3_goesOnWord_46 : decode cX3_goesOnWord 46 = .ok (.if_icmp .ge 15, 3) := by decide +kernel
theorem dX3_goesOnWord_49 : decode cX3_goesOnWord 49 = .ok (.aload_n 2, 1) := by decide +kernel
theorem dX3_goesOnWord_50 : decode cX3_goesOnWord 50 = .ok (.aload_n 0, 1) := by decide +kernel
theorem dX3_goesOnWord_51 : decode cX3_goesOnWord 51 = .ok (.getfield 37, 3) := by decide +kernel
theorem dX3_goesOnWord_54 : decode cX3_goesOnWord 54 = .ok (.invokevirtual 119, 3) := by decide +kernel
theorem dX3_goesOnWord_57 : decode cX3_goesOnWord 57 = .ok (.iload_n 1, 1) := by decide +kernel
theorem dX3_goesOnWord_58 : decode cX3_goesOnWord 58 = .ok (.if_icmp .eq 5, 3) := by decide +kernel
theorem dX3_goesOnWord_61 : decode cX3_goesOnWord 61 = .ok (.iconst 0, 1) := by decide +kernel
theorem dX3_goesOnWord_62 : decode cX3_goesOnWord 62 = .ok (.ireturn, 1) := by decide +kernel
theorem dX3_goesOnWord_63 : decode cX3_goesOnWord 63 = .ok (.aload_n 0, 1) := by decide +kernel
theorem dX3_goesOnWord_64 : decode cX3_goesOnWord 64 = .ok (.dup, 1) := by decide +kernel
theorem dX3_goesOnWord_65 : decode cX3_goesOnWord 65 = .ok (.getfield 37, 3) := by decide +kernel
theorem dX3_goesOnWord_68 : decode cX3_goesOnWord 68 = .ok (.iconst 1, 1) := by decide +kernel
theorem dX3_goesOnWord_69 : decode cX3_goesOnWord 69 = .ok (.iadd, 1) := by decide +kernel
theorem dX3_goesOnWord_70 : decode cX3_goesOnWord 70 = .ok (.putfield 37, 3) := by decide +kernel
theorem dX3_goesOnWord_73 : decode cX3_goesOnWord 73 = .ok (.aload_n 0, 1) := by decide +kernel
theorem dX3_goesOnWord_74 : decode cX3_goesOnWord 74 = .ok (.getfield 37, 3) := by decide +kernel
theorem dX3_goesOnWord_77 : decode cX3_goesOnWord 77 = .ok (.aload_n 2, 1) := by decide +kernel
theorem dX3_goesOnWord_78 : decode cX3_goesOnWord 78 = .ok (.invokevirtual 113, 3) := by decide +kernel
theorem dX3_goesOnWord_81 : decode cX3_goesOnWord 81 = .ok (.if_icmp .ne 8, 3) := by decide +kernel
theorem dX3_goesOnWord_84 : decode cX3_goesOnWord 84 = .ok (.aload_n 0, 1) := by decide +kernel
theorem dX3_goesOnWord_85 : decode cX3_goesOnWord 85 = .ok (.iconst 2, 1) := by decide +kernel
theorem dX3_goesOnWord_86 : decode cX3_goesOnWord 86 = .ok (.invokevirtual 123, 3) := by decide +kernel
theorem dX3_goesOnWord_89 : decode cX3_goesOnWord 89 = .ok (.iconst 1, 1) := by decide +kernel
theorem dX3_goesOnWord_90 : decode cX3_goesOnWord 90 = .ok (.ireturn, 1) := by decide +kernel
theorem dX3_beginNumber_0 : decode cX3_beginNumber 0 = .ok (.aload_n 0, 1) := by decide +kernel
theorem dX3_beginNumber_1 : decode cX3_beginNumber 1 = .ok (.iconst 0, 1) := by decide +kernel
theorem dX3_beginNumber_2 : decode cX3_beginNumber 2 = .ok (.putfield 43, 3) := by decide +kernel
theorem dX3_beginNumber_5 : decode cX3_beginNumber 5 = .ok (.aload_n 0, 1) := by decide +kernel
theorem dX3_beginNumber_6 : decode cX3_beginNumber 6 = .ok (.iconst 0, 1) := by decide +kernel
theorem dX3_beginNumber_7 : decode cX3_beginNumber 7 = .ok (.putfield 46, 3) := by decide +kernel
theorem dX3_beginNumber_10 : decode cX3_beginNumber 10 = .ok (.aload_n 0, 1) := by decide +kernel
theorem dX3_beginNumber_11 : decode cX3_beginNumber 11 = .ok (.iload_n 1, 1) := by decide +kernel
theorem dX3_beginNumber_12 : decode cX3_beginNumber 12 = .ok (.putfield 31, 3) := by decide +kernel
theorem dX3_beginNumber_15 : decode cX3_beginNumber 15 = .ok (.return_, 1) := by decide +kernel
theorem dX3_isDigit_0 : decode cX3_isDigit 0 = .ok (.iload_n 1, 1) := by decide +kernel
theorem dX3_isDigit_1 : decode cX3_isDigit 1 = .ok (.bipush 48, 2) := by decide +kernel
theorem dX3_isDigit_3 : decode cX3_isDigit 3 = .ok (.if_icmp .lt 32, 3) := by decide +kernel
theorem dX3_isDigit_6 : decode cX3_isDigit 6 = .ok (.iload_n 1, 1) := by decide +kernel
theorem dX3_isDigit_7 : decode cX3_isDigit 7 = .ok (.bipush 57, 2) := by decide +kernel
theorem dX3_isDigit_9 : decode cX3_isDigit 9 = .ok (.if_icmp .gt 26, 3) := by decide +kernel
theorem dX3_isDigit_12 : decode cX3_isDigit 12 = .ok (.aload_n 0, 1) := by decide +kernel
theorem dX3_isDigit_13 : decode cX3_isDigit 13 = .ok (.getfield 46, 3) := by decide +kernel
theorem dX3_isDigit_16 : decode cX3_isDigit 16 = .ok (.iconst 1, 1) := by decide +kernel
theorem dX3_isDigit_17 : decode cX3_isDigit 17 = .ok (.if_icmp .gt 18, 3) := by decide +kernel
theorem dX3_isDigit_20 : decode cX3_isDigit 20 = .ok (.aload_n 0, 1) := by decide +kernel
theorem dX3_isDigit_21 : decode cX3_isDigit 21 = .ok (.getfield 46, 3) := by decide +kernel
theorem dX3_isDigit_24 : decode cX3_isDigit 24 = .ok (.iconst 1, 1) := by decide +kernel
theorem dX3_isDigit_25 : decode cX3_isDigit 25 = .ok (.if_icmp .ne 12, 3) := by decide +kernel
theorem dX3_isDigit_28 : decode cX3_isDigit 28 = .ok (.aload_n 0, 1) := by decide +kernel
theorem dX3_isDigit_29 : decode cX3_isDigit 29 = .ok (.getfield 43, 3) := by decide +kernel
theorem dX3_isDigit_32 : decode cX3_isDigit 32 = .ok (.ifCond .ne 5, 3) := by decide +kernel
theorem dX3_isDigit_35 : decode cX3_isDigit 35 = .ok (.iconst 0, 1) := by decide +kernel
theorem dX3_isDigit_36 : decode cX3_isDigit 36 = .ok (.ireturn, 1) := by decide +kernel
theorem dX3_isDigit_37 : decode cX3_isDigit 37 = .ok (.aload_n 0, 1) := by decide +kernel
theorem dX3_isDigit_38 : decode cX3_isDigit 38 = .ok (.aload_n 0, 1) := by decide +kernel
theorem dX3_isDigit_39 : decode cX3_isDigit 39 = .ok (.getfield 43, 3) := by decide +kernel
theorem dX3_isDigit_42 : decode cX3_isDigit 42 = .ok (.bipush 10, 2) := by decide +kernel
theorem dX3_isDigit_44 : decode cX3_isDigit 44 = .ok (.imul, 1) := by decide +kernel
theorem dX3_isDigit_45 : decode cX3_isDigit 45 = .ok (.iload_n 1, 1) := by decide +kernel
theorem dX3_isDigit_46 : decode cX3_isDigit 46 = .ok (.iadd, 1) := by decide +kernel
theorem dX3_isDigit_47 : decode cX3_isDigit 47 = .ok (.bipush 48, 2) := by decide +kernel
theorem dX3_isDigit_49 : decode cX3_isDigit 49 = .ok (.isub, 1) := by decide +kernel
theorem dX3_isDigit_50 : decode cX3_isDigit 50 = .ok (.putfield 43, 3) := by decide +kernel
theorem dX3_isDigit_53 : decode cX3_isDigit 53 = .ok (.aload_n 0, 1) := by decide +kernel
theorem dX3_isDigit_54 : decode cX3_isDigit 54 = .ok (.dup, 1) := by decide +kernel
theorem dX3_isDigit_55 : decode cX3_isDigit 55 = .ok (.getfield 46, 3) := by decide +kernel
theorem dX3_isDigit_58 : decode cX3_isDigit 58 = .ok (.iconst 1, 1) := by decide +kernel
theorem dX3_isDigit_59 : decode cX3_isDigit 59 = .ok (.iadd, 1) := by decide +kernel
theorem dX3_isDigit_60 : decode cX3_isDigit 60 = .ok (.putfield 46, 3) := by decide +kernel
theorem dX3_isDigit_63 : decode cX3_isDigit 63 = .ok (.iconst 1, 1) := by decide +kernel
theorem dX3_isDigit_64 : decode cX3_isDigit 64 = .ok (.ireturn, 1) := by decide +kernel
theorem dX3_endsAmount_0 : decode cX3_endsAmount 0 = .ok (.aload_n 0, 1) := by decide +kernel
theorem dX3_endsAmount_1 : decode cX3_endsAmount 1 = .ok (.getfield 34, 3) := by decide +kernel
theorem dX3_endsAmount_4 : decode cX3_endsAmount 4 = .ok (.bipush 98, 2) := by decide +kernel
theorem dX3_endsAmount_6 : decode cX3_endsAmount 6 = .ok (.if_icmp .ne 38, 3) := by decide +kernel
theorem dX3_endsAmount_9 : decode cX3_endsAmount 9 = .ok (.aload_n 0, 1) := by decide +kernel
theorem dX3_endsAmount_10 : decode cX3_endsAmount 10 = .ok (.aload_n 0, 1) := by decide +kernel
theorem dX3_endsAmount_11 : decode cX3_endsAmount 11 = .ok (.getfield 43, 3) := by decide +kernel
theorem dX3_endsAmount_14 : decode cX3_endsAmount 14 = .ok (.putfield 18, 3) := by decide +kernel
theorem dX3_endsAmount_17 : decode cX3_endsAmount 17 = .ok (.aload_n 0, 1) := by decide +kernel
theorem dX3_endsAmount_18 : decode cX3_endsAmount 18 = .ok (.dup, 1) := by decide +kernel
theorem dX3_endsAmount_19 : decode cX3_endsAmount 19 = .ok (.getfield 40, 3) := by decide +kernel
theorem dX3_endsAmount_22 : decode cX3_endsAmount 22 = .ok (.iconst 1, 1) := by decide +kernel
theorem dX3_endsAmount_23 : decode cX3_endsAmount 23 = .ok (.iadd, 1) := by decide +kernel
theorem dX3_endsAmount_24 : decode cX3_endsAmount 24 = .ok (.putfield 40, 3) := by decide +kernel
theorem dX3_endsAmount_27 : decode cX3_endsAmount 27 = .ok (.aload_n 0, 1) := by decide +kernel
theorem dX3_endsAmount_28 : decode cX3_endsAmount 28 = .ok (.iconst 0, 1) := by decide +kernel
theorem dX3_endsAmount_29 : decode cX3_endsAmount 29 = .ok (.putfield 31, 3) := by decide +kernel
theorem dX3_endsAmount_32 : decode cX3_endsAmount 32 = .ok (.iload_n 1, 1) := by decide +kernel
theorem dX3_endsAmount_33 : decode cX3_endsAmount 33 = .ok (.bipush 59, 2) := by decide +kernel
theorem dX3_endsAmount_35 : decode cX3_endsAmount 35 = .ok (.if_icmp .ne 7, 3) := by decide +kernel
theorem dX3_endsAmount_38 : decode cX3_endsAmount 38 = .ok (.iconst 1, 1) := by decide +kernel
theorem dX3_endsAmount_39 : decode cX3_endsAmount 39 = .ok (.goto 4, 3) := by decide +kernel
theorem dX3_endsAmount_42 : decode cX3_endsAmount 42 = .ok (.iconst 0, 1) := by decide +kernel
theorem dX3_endsAmount_43 : decode cX3_endsAmount 43 = .ok (.ireturn, 1) := by decide +kernel
theorem dX3_endsAmount_44 : decode cX3_endsAmount 44 = .ok (.aload_n 0, 1) := by decide +kernel
theorem dX3_endsAmount_45 : decode cX3_endsAmount 45 = .ok (.aload_n 0, 1) := by decide +kernel
theorem dX3_endsAmount_46 : decode cX3_endsAmount 46 = .ok (.getfield 43, 3) := by decide +kernel
theorem dX3_endsAmount_49 : decode cX3_endsAmount 49 = .ok (.putfield 49, 3) := by decide +kernel
theorem dX3_endsAmount_52 : decode cX3_endsAmount 52 = .ok (.aload_n 0, 1) := by decide +kernel
theorem dX3_endsAmount_53 : decode cX3_endsAmount 53 = .ok (.iconst 0, 1) := by decide +kernel
theorem dX3_endsAmount_54 : decode cX3_endsAmount 54 = .ok (.putfield 58, 3) := by decide +kernel
theorem dX3_endsAmount_57 : decode cX3_endsAmount 57 = .ok (.aload_n 0, 1) := by decide +kernel
theorem dX3_endsAmount_58 : decode cX3_endsAmount 58 = .ok (.getfield 64, 3) := by decide +kernel
theorem dX3_endsAmount_61 : decode cX3_endsAmount 61 = .ok (.iconst 0, 1) := by decide +kernel
theorem dX3_endsAmount_62 : decode cX3_endsAmount 62 = .ok (.iconst 0, 1) := by decide +kernel
theorem dX3_endsAmount_63 : decode cX3_endsAmount 63 = .ok (.iastore, 1) := by decide +kernel
theorem dX3_endsAmount_64 : decode cX3_endsAmount 64 = .ok (.aload_n 0, 1) := by decide +kernel
theorem dX3_endsAmount_65 : decode cX3_endsAmount 65 = .ok (.getfield 67, 3) := by decide +kernel
theorem dX3_endsAmount_68 : decode cX3_endsAmount 68 = .ok (.iconst 0, 1) := by decide +kernel
theorem dX3_endsAmount_69 : decode cX3_endsAmount 69 = .ok (.sipush 255, 3) := by decide +kernel
theorem dX3_endsAmount_72 : decode cX3_endsAmount 72 = .ok (.iastore, 1) := by decide +kernel
theorem dX3_endsAmount_73 : decode cX3_endsAmount 73 = .ok (.aload_n 0, 1) := by decide +kernel
theorem dX3_endsAmount_74 : decode cX3_endsAmount 74 = .ok (.iconst 3, 1) := by decide +kernel
theorem dX3_endsAmount_75 : decode cX3_endsAmount 75 = .ok (.putfield 31, 3) := by decide +kernel
theorem dX3_endsAmount_78 : decode cX3_endsAmount 78 = .ok (.iload_n 1, 1) := by decide +kernel
theorem dX3_endsAmount_79 : decode cX3_endsAmount 79 = .ok (.bipush 32, 2) := by decide +kernel
theorem dX3_endsAmount_81 : decode cX3_endsAmount 81 = .ok (.if_icmp .ne 7, 3) := by decide +kernel
theorem dX3_endsAmount_84 : decode cX3_endsAmount 84 = .ok (.iconst 1, 1) := by decide +kernel
theorem dX3_endsAmount_85 : decode cX3_endsAmount 85 = .ok (.goto 4, 3) := by decide +kernel
theorem dX3_endsAmount_88 : decode cX3_endsAmount 88 = .ok (.iconst 0, 1) := by decide +kernel
theorem dX3_endsAmount_89 : decode cX3_endsAmount 89 = .ok (.ireturn, 1) := by decide +kernel
theorem dX3_beginsFactor_0 : decode cX3_beginsFactor 0 = .ok (.iload_n 1, 1) := by decide +kernel
theorem dX3_beginsFactor_1 : decode cX3_beginsFactor 1 = .ok (.bipush 33, 2) := by decide +kernel
theorem dX3_beginsFactor_3 : decode cX3_beginsFactor 3 = .ok (.if_icmp .eq 9, 3) := by decide +kernel
theorem dX3_beginsFactor_6 : decode cX3_beginsFactor 6 = .ok (.iload_n 1, 1) := by decide +kernel
theorem dX3_beginsFactor_7 : decode cX3_beginsFactor 7 = .ok (.bipush 40, 2) := by decide +kernel
theorem dX3_beginsFactor_9 : decode cX3_beginsFactor 9 = .ok (.if_icmp .ne 64, 3) := by decide +kernel
theorem dX3_beginsFactor_12 : decode cX3_beginsFactor 12 = .ok (.aload_n 0, 1) := by decide +kernel
theorem dX3_beginsFactor_13 : decode cX3_beginsFactor 13 = .ok (.getfield 58, 3) := by decide +kernel
theorem dX3_beginsFactor_16 : decode cX3_beginsFactor 16 = .ok (.ifCond .lt 11, 3) := by decide +kernel
theorem dX3_beginsFactor_19 : decode cX3_beginsFactor 19 = .ok (.aload_n 0, 1) := by decide +kernel
theorem dX3_beginsFactor_20 : decode cX3_beginsFactor 20 = .ok (.getfield 58, 3) := by decide +kernel
theorem dX3_beginsFactor_23 : decode cX3_beginsFactor 23 = .ok (.iconst 5, 1) := by decide +kernel
theorem dX3_beginsFactor_24 : decode cX3_beginsFactor 24 = .ok (.if_icmp .lt 5, 3) := by decide +kernel
theorem dX3_beginsFactor_27 : decode cX3_beginsFactor 27 = .ok (.iconst 0, 1) := by decide +kernel
theorem dX3_beginsFactor_28 : decode cX3_beginsFactor 28 = .ok (.ireturn, 1) := by decide +kernel
theorem dX3_beginsFactor_29 : decode cX3_beginsFactor 29 = .ok (.aload_n 0, 1) := by decide +kernel
theorem dX3_beginsFactor_30 : decode cX3_beginsFactor 30 = .ok (.getfield 61, 3) := by decide +kernel
theorem dX3_beginsFactor_33 : decode cX3_beginsFactor 33 = .ok (.aload_n 0, 1) := by decide +kernel
theorem dX3_beginsFactor_34 : decode cX3_beginsFactor 34 = .ok (.getfield 58, 3) := by decide +kernel
theorem dX3_beginsFactor_37 : decode cX3_beginsFactor 37 = .ok (.iload_n 1, 1) := by decide +kernel
theorem dX3_beginsFactor_38 : decode cX3_beginsFactor 38 = .ok (.iastore, 1) := by decide +kernel
theorem dX3_beginsFactor_39 : decode cX3_beginsFactor 39 = .ok (.aload_n 0, 1) := by decide +kernel
theorem dX3_beginsFactor_40 : decode cX3_beginsFactor 40 = .ok (.dup, 1) := by decide +kernel
theorem dX3_beginsFactor_41 : decode cX3_beginsFactor 41 = .ok (.getfield 58, 3) := by decide +kernel
theorem dX3_beginsFactor_44 : decode cX3_beginsFactor 44 = .ok (.iconst 1, 1) := by decide +kernel
theorem dX3_beginsFactor_45 : decode cX3_beginsFactor 45 = .ok (.iadd, 1) := by decide +kernel
theorem dX3_beginsFactor_46 : decode cX3_beginsFactor 46 = .ok (.putfield 58, 3) := by decide +kernel
theorem dX3_beginsFactor_49 : decode cX3_beginsFactor 49 = .ok (.aload_n 0, 1) := by decide +kernel
theorem dX3_beginsFactor_50 : decode cX3_beginsFactor 50 = .ok (.getfield 64, 3) := by decide +kernel
theorem dX3_beginsFactor_53 : decode cX3_beginsFactor 53 = .ok (.aload_n 0, 1) := by decide +kernel
theorem dX3_beginsFactor_54 : decode cX3_beginsFactor 54 = .ok (.getfield 58, 3) := by decide +kernel
theorem dX3_beginsFactor_57 : decode cX3_beginsFactor 57 = .ok (.iconst 0, 1) := by decide +kernel
theorem dX3_beginsFactor_58 : decode cX3_beginsFactor 58 = .ok (.iastore, 1) := by decide +kernel
theorem dX3_beginsFactor_59 : decode cX3_beginsFactor 59 = .ok (.aload_n 0, 1) := by decide +kernel
theorem dX3_beginsFactor_60 : decode cX3_beginsFactor 60 = .ok (.getfield 67, 3) := by decide +kernel
theorem dX3_beginsFactor_63 : decode cX3_beginsFactor 63 = .ok (.aload_n 0, 1) := by decide +kernel
theorem dX3_beginsFactor_64 : decode cX3_beginsFactor 64 = .ok (.getfield 58, 3) := by decide +kernel
theorem dX3_beginsFactor_67 : decode cX3_beginsFactor 67 = .ok (.sipush 255, 3) := by decide +kernel
theorem dX3_beginsFactor_70 : decode cX3_beginsFactor 70 = .ok (.iastore, 1) := by decide +kernel
theorem dX3_beginsFactor_71 : decode cX3_beginsFactor 71 = .ok (.iconst 1, 1) := by decide +kernel
theorem dX3_beginsFactor_72 : decode cX3_beginsFactor 72 = .ok (.ireturn, 1) := by decide +kernel
theorem dX3_beginsFactor_73 : decode cX3_beginsFactor 73 = .ok (.aload_n 0, 1) := by decide +kernel
theorem dX3_beginsFactor_74 : decode cX3_beginsFactor 74 = .ok (.iload_n 1, 1) := by decide +kernel
theorem dX3_beginsFactor_75 : decode cX3_beginsFactor 75 = .ok (.putfield 52, 3) := by decide +kernel
theorem dX3_beginsFactor_78 : decode cX3_beginsFactor 78 = .ok (.aload_n 0, 1) := by decide +kernel
theorem dX3_beginsFactor_79 : decode cX3_beginsFactor 79 = .ok (.iconst 4, 1) := by decide +kernel
theorem dX3_beginsFactor_80 : decode cX3_beginsFactor 80 = .ok (.putfield 31, 3) := by decide +kernel
theorem dX3_beginsFactor_83 : decode cX3_beginsFactor 83 = .ok (.iload_n 1, 1) := by decide +kernel
theorem dX3_beginsFactor_84 : decode cX3_beginsFactor 84 = .ok (.bipush 112, 2) := by decide +kernel
theorem dX3_beginsFactor_86 : decode cX3_beginsFactor 86 = .ok (.if_icmp .eq 21, 3) := by decide +kernel
theorem dX3_beginsFactor_89 : decode cX3_beginsFactor 89 = .ok (.iload_n 1, 1) := by decide +kernel
theorem dX3_beginsFactor_90 : decode cX3_beginsFactor 90 = .ok (.bipush 107, 2) := by decide +kernel
theorem dX3_beginsFactor_92 : decode cX3_beginsFactor 92 = .ok (.if_icmp .eq 15, 3) := by decide +kernel
theorem dX3_beginsFactor_95 : decode cX3_beginsFactor 95 = .ok (.iload_n 1, 1) := by decide +kernel
theorem dX3_beginsFactor_96 : decode cX3_beginsFactor 96 = .ok (.bipush 118, 2) := by decide +kernel
theorem dX3_beginsFactor_98 : decode cX3_beginsFactor 98 = .ok (.if_icmp .eq 9, 3) := by decide +kernel
theorem dX3_beginsFactor_101 : decode cX3_beginsFactor 101 = .ok (.iload_n 1, 1) := by decide +kernel
theorem dX3_beginsFactor_102 : decode cX3_beginsFactor 102 = .ok (.bipush 100, 2) := by decide +kernel
theorem dX3_beginsFactor_104 : decode cX3_beginsFactor 104 = .ok (.if_icmp .ne 7, 3) := by decide +kernel
theorem dX3_beginsFactor_107 : decode cX3_beginsFactor 107 = .ok (.iconst 1, 1) := by decide +kernel
theorem dX3_beginsFactor_108 : decode cX3_beginsFactor 108 = .ok (.goto 4, 3) := by decide +kernel
theorem dX3_beginsFactor_111 : decode cX3_beginsFactor 111 = .ok (.iconst 0, 1) := by decide +kernel
theorem dX3_beginsFactor_112 : decode cX3_beginsFactor 112 = .ok (.ireturn, 1) := by decide +kernel
theorem dX3_compares_0 : decode cX3_compares 0 = .ok (.aload_n 0, 1) := by decide +kernel
theorem dX3_compares_1 : decode cX3_compares 1 = .ok (.iload_n 1, 1) := by decide +kernel
theorem dX3_compares_2 : decode cX3_compares 2 = .ok (.putfield 55, 3) := by decide +kernel
theorem dX3_compares_5 : decode cX3_compares 5 = .ok (.aload_n 0, 1) := by decide +kernel
theorem dX3_compares_6 : decode cX3_compares 6 = .ok (.iconst 5, 1) := by decide +kernel
theorem dX3_compares_7 : decode cX3_compares 7 = .ok (.invokevirtual 123, 3) := by decide +kernel
theorem dX3_compares_10 : decode cX3_compares 10 = .ok (.iload_n 1, 1) := by decide +kernel
theorem dX3_compares_11 : decode cX3_compares 11 = .ok (.bipush 60, 2) := by decide +kernel
theorem dX3_compares_13 : decode cX3_compares 13 = .ok (.if_icmp .eq 15, 3) := by decide +kernel
theorem dX3_compares_16 : decode cX3_compares 16 = .ok (.iload_n 1, 1) := by decide +kernel
theorem dX3_compares_17 : decode cX3_compares 17 = .ok (.bipush 61, 2) := by decide +kernel
theorem dX3_compares_19 : decode cX3_compares 19 = .ok (.if_icmp .eq 9, 3) := by decide +kernel
theorem dX3_compares_22 : decode cX3_compares 22 = .ok (.iload_n 1, 1) := by decide +kernel
theorem dX3_compares_23 : decode cX3_compares 23 = .ok (.bipush 62, 2) := by decide +kernel
theorem dX3_compares_25 : decode cX3_compares 25 = .ok (.if_icmp .ne 7, 3) := by decide +kernel
theorem dX3_compares_28 : decode cX3_compares 28 = .ok (.iconst 1, 1) := by decide +kernel
theorem dX3_compares_29 : decode cX3_compares 29 = .ok (.goto 4, 3) := by decide +kernel
theorem dX3_compares_32 : decode cX3_compares 32 = .ok (.iconst 0, 1) := by decide +kernel
theorem dX3_compares_33 : decode cX3_compares 33 = .ok (.ireturn, 1) := by decide +kernel
theorem dX3_endsTest_0 : decode cX3_endsTest 0 = .ok (.iconst 0, 1) := by decide +kernel
theorem dX3_endsTest_1 : decode cX3_endsTest 1 = .ok (.istore_n 2, 1) := by decide +kernel
theorem dX3_endsTest_2 : decode cX3_endsTest 2 = .ok (.iconst 0, 1) := by decide +kernel
theorem dX3_endsTest_3 : decode cX3_endsTest 3 = .ok (.istore_n 3, 1) := by decide +kernel
theorem dX3_endsTest_4 : decode cX3_endsTest 4 = .ok (.iload_n 3, 1) := by decide +kernel
theorem dX3_endsTest_5 : decode cX3_endsTest 5 = .ok (.bipush 8, 2) := by decide +kernel
theorem dX3_endsTest_7 : decode cX3_endsTest 7 = .ok (.if_icmp .ge 117, 3) := by decide +kernel
theorem dX3_endsTest_10 : decode cX3_endsTest 10 = .ok (.aload_n 0, 1) := by decide +kernel
theorem dX3_endsTest_11 : decode cX3_endsTest 11 = .ok (.getfield 52, 3) := by decide +kernel
theorem dX3_endsTest_14 : decode cX3_endsTest 14 = .ok (.bipush 112, 2) := by decide +kernel
theorem dX3_endsTest_16 : decode cX3_endsTest 16 = .ok (.if_icmp .ne 7, 3) := by decide +kernel
theorem dX3_endsTest_19 : decode cX3_endsTest 19 = .ok (.iload_n 3, 1) := by decide +kernel
theorem dX3_endsTest_20 : decode cX3_endsTest 20 = .ok (.goto 39, 3) := by decide +kernel
theorem dX3_endsTest_23 : decode cX3_endsTest 23 = .ok (.aload_n 0, 1) := by decide +kernel
theorem dX3_endsTest_24 : decode cX3_endsTest 24 = .ok (.getfield 52, 3) := by decide +kernel
theorem dX3_endsTest_27 : decode cX3_endsTest 27 = .ok (.bipush 107, 2) := by decide +kernel
theorem dX3_endsTest_29 : decode cX3_endsTest 29 = .ok (.if_icmp .ne 10, 3) := by decide +kernel
theorem dX3_endsTest_32 : decode cX3_endsTest 32 = .ok (.aload_n 0, 1) := by decide +kernel
theorem dX3_endsTest_33 : decode cX3_endsTest 33 = .ok (.getfield 22, 3) := by decide +kernel
theorem dX3_endsTest_36 : decode cX3_endsTest 36 = .ok (.goto 23, 3) := by decide +kernel
theorem dX3_endsTest_39 : decode cX3_endsTest 39 = .ok (.aload_n 0, 1) := by decide +kernel
theorem dX3_endsTest_40 : decode cX3_endsTest 40 = .ok (.getfield 52, 3) := by decide +kernel
theorem dX3_endsTest_43 : decode cX3_endsTest 43 = .ok (.bipush 118, 2) := by decide +kernel
theorem dX3_endsTest_45 : decode cX3_endsTest 45 = .ok (.if_icmp .ne 10, 3) := by decide +kernel
theorem dX3_endsTest_48 : decode cX3_endsTest 48 = .ok (.aload_n 0, 1) := by decide +kernel
theorem dX3_endsTest_49 : decode cX3_endsTest 49 = .ok (.getfield 25, 3) := by decide +kernel
theorem dX3_endsTest_52 : decode cX3_endsTest 52 = .ok (.goto 7, 3) := by decide +kernel
theorem dX3_endsTest_55 : decode cX3_endsTest 55 = .ok (.aload_n 0, 1) := by decide +kernel
theorem dX3_endsTest_56 : decode cX3_endsTest 56 = .ok (.getfield 28, 3) := by decide +kernel
theorem dX3_endsTest_59 : decode cX3_endsTest 59 = .ok (.istore 4, 2) := by decide +kernel
theorem dX3_endsTest_61 : decode cX3_endsTest 61 = .ok (.aload_n 0, 1) := by decide +kernel
theorem dX3_endsTest_62 : decode cX3_endsTest 62 = .ok (.getfield 55, 3) := by decide +kernel
theorem dX3_endsTest_65 : decode cX3_endsTest 65 = .ok (.bipush 60, 2) := by decide +kernel
theorem dX3_endsTest_67 : decode cX3_endsTest 67 = .ok (.if_icmp .ne 15, 3) := by decide +kernel
theorem dX3_endsTest_70 : decode cX3_endsTest 70 = .ok (.iload 4, 2) := by decide +kernel
theorem dX3_endsTest_72 : decode cX3_endsTest 72 = .ok (.aload_n 0, 1) := by decide +kernel
theorem dX3_endsTest_73 : decode cX3_endsTest 73 = .ok (.getfield 43, 3) := by decide +kernel
theorem dX3_endsTest_76 : decode cX3_endsTest 76 = .ok (.if_icmp .ge 42, 3) := by decide +kernel
theorem dX3_endsTest_79 : decode cX3_endsTest 79 = .ok (.goto 33, 3) := by decide +kernel
theorem dX3_endsTest_82 : decode cX3_endsTest 82 = .ok (.aload_n 0, 1) := by decide +kernel
theorem dX3_endsTest_83 : decode cX3_endsTest 83 = .ok (.getfield 55, 3) := by decide +kernel
theorem dX3_endsTest_86 : decode cX3_endsTest 86 = .ok (.bipush 61, 2) := by decide +kernel
theorem dX3_endsTest_88 : decode cX3_endsTest 88 = .ok (.if_icmp .ne 15, 3) := by decide +kernel
theorem dX3_endsTest_91 : decode cX3_endsTest 91 = .ok (.iload 4, 2) := by decide +kernel
theorem dX3_endsTest_93 : decode cX3_endsTest 93 = .ok (.aload_n 0, 1) := by decide +kernel
theorem dX3_endsTest_94 : decode cX3_endsTest 94 = .ok (.getfield 43, 3) := by decide +kernel
theorem dX3_endsTest_97 : decode cX3_endsTest 97 = .ok (.if_icmp .ne 21, 3) := by decide +kernel
theorem dX3_endsTest_100 : decode cX3_endsTest 100 = .ok (.goto 12, 3) := by decide +kernel
theorem dX3_endsTest_103 : decode cX3_endsTest 103 = .ok (.iload 4, 2) := by decide +kernel
theorem dX3_endsTest_105 : decode cX3_endsTest 105 = .ok (.aload_n 0, 1) := by decide +kernel
theorem dX3_endsTest_106 : decode cX3_endsTest 106 = .ok (.getfield 43, 3) := by decide +kernel
theorem dX3_endsTest_109 : decode cX3_endsTest 109 = .ok (.if_icmp .le 9, 3) := by decide +kernel
theorem dX3_endsTest_112 : decode cX3_endsTest 112 = .ok (.iload_n 2, 1) := by decide +kernel
theorem dX3_endsTest_113 : decode cX3_endsTest 113 = .ok (.iconst 1, 1) := by decide +kernel
theorem dX3_endsTest_114 : decode cX3_endsTest 114 = .ok (.iload_n 3, 1) := by decide +kernel
theorem dX3_endsTest_115 : decode cX3_endsTest 115 = .ok (.ishl, 1) := by decide +kernel
theorem dX3_endsTest_116 : decode cX3_endsTest 116 = .ok (.ior, 1) := by decide +kernel
theorem dX3_endsTest_117 : decode cX3_endsTest 117 = .ok (.istore_n 2, 1) := by decide +kernel
theorem dX3_endsTest_118 : decode cX3_endsTest 118 = .ok (.iinc 3 1, 3) := by decide +kernel
theorem dX3_endsTest_121 : decode cX3_endsTest 121 = .ok (.goto (-117), 3) := by decide +kernel
theorem dX3_endsTest_124 : decode cX3_endsTest 124 = .ok (.aload_n 0, 1) := by decide +kernel
theorem dX3_endsTest_125 : decode cX3_endsTest 125 = .ok (.iload_n 2, 1) := by decide +kernel
theorem dX3_endsTest_126 : decode cX3_endsTest 126 = .ok (.invokevirtual 127, 3) := by decide +kernel
theorem dX3_endsTest_129 : decode cX3_endsTest 129 = .ok (.aload_n 0, 1) := by decide +kernel
theorem dX3_endsTest_130 : decode cX3_endsTest 130 = .ok (.bipush 6, 2) := by decide +kernel
theorem dX3_endsTest_132 : decode cX3_endsTest 132 = .ok (.putfield 31, 3) := by decide +kernel
theorem dX3_endsTest_135 : decode cX3_endsTest 135 = .ok (.aload_n 0, 1) := by decide +kernel
theorem dX3_endsTest_136 : decode cX3_endsTest 136 = .ok (.iload_n 1, 1) := by decide +kernel
theorem dX3_endsTest_137 : decode cX3_endsTest 137 = .ok (.invokevirtual 104, 3) := by decide +kernel
theorem dX3_endsTest_140 : decode cX3_endsTest 140 = .ok (.ireturn, 1) := by decide +kernel
theorem dX3_endFactor_0 : decode cX3_endFactor 0 = .ok (.iload_n 1, 1) := by decide +kernel
theorem dX3_endFactor_1 : decode cX3_endFactor 1 = .ok (.istore_n 2, 1) := by decide +kernel
theorem dX3_endFactor_2 : decode cX3_endFactor 2 = .ok (.iconst 0, 1) := by decide +kernel
theorem dX3_endFactor_3 : decode cX3_endFactor 3 = .ok (.istore_n 3, 1) := by decide +kernel
theorem dX3_endFactor_4 : decode cX3_endFactor 4 = .ok (.iload_n 3, 1) := by decide +kernel
theorem dX3_endFactor_5 : decode cX3_endFactor 5 = .ok (.iconst 5, 1) := by decide +kernel
theorem dX3_endFactor_6 : decode cX3_endFactor 6 = .ok (.if_icmp .ge 56, 3) := by decide +kernel
theorem dX3_endFactor_9 : decode cX3_endFactor 9 = .ok (.aload_n 0, 1) := by decide +kernel
theorem dX3_endFactor_10 : decode cX3_endFactor 10 = .ok (.getfield 58, 3) := by decide +kernel
theorem dX3_endFactor_13 : decode cX3_endFactor 13 = .ok (.ifCond .le 49, 3) := by decide +kernel
theorem dX3_endFactor_16 : decode cX3_endFactor 16 = .ok (.aload_n 0, 1) := by decide +kernel
theorem dX3_endFactor_17 : decode cX3_endFactor 17 = .ok (.getfield 58, 3) := by decide +kernel
theorem dX3_endFactor_20 : decode cX3_endFactor 20 = .ok (.iconst 5, 1) := by decide +kernel
theorem dX3_endFactor_21 : decode cX3_endFactor 21 = .ok (.if_icmp .gt 41, 3) := by decide +kernel
theorem dX3_endFactor_24 : decode cX3_endFactor 24 = .ok (.aload_n 0, 1) := by decide +kernel
theorem dX3_endFactor_25 : decode cX3_endFactor 25 = .ok (.getfield 61, 3) := by decide +kernel
theorem dX3_endFactor_28 : decode cX3_endFactor 28 = .ok (.aload_n 0, 1) := by decide +kernel
theorem dX3_endFactor_29 : decode cX3_endFactor 29 = .ok (.getfield 58, 3) := by decide +kernel
theorem dX3_endFactor_32 : decode cX3_endFactor 32 = .ok (.iconst 1, 1) := by decide +kernel
theorem dX3_endFactor_33 : decode cX3_endFactor 33 = .ok (.isub, 1) := by decide +kernel
theorem dX3_endFactor_34 : decode cX3_endFactor 34 = .ok (.iaload, 1) := by decide +kernel
theorem dX3_endFactor_35 : decode cX3_endFactor 35 = .ok (.bipush 33, 2) := by decide +kernel
theorem dX3_endFactor_37 : decode cX3_endFactor 37 = .ok (.if_icmp .ne 25, 3) := by decide +kernel
theorem dX3_endFactor_40 : decode cX3_endFactor 40 = .ok (.iload_n 2, 1) := by decide +kernel
theorem dX3_endFactor_41 : decode cX3_endFactor 41 = .ok (.sipush 255, 3) := by decide +kernel
theorem dX3_endFactor_44 : decode cX3_endFactor 44 = .ok (.ixor, 1) := by decide +kernel
theorem dX3_endFactor_45 : decode cX3_endFactor 45 = .ok (.istore_n 2, 1) := by decide +kernel
theorem dX3_endFactor_46 : decode cX3_endFactor 46 = .ok (.aload_n 0, 1) := by decide +kernel
theorem dX3_endFactor_47 : decode cX3_endFactor 47 = .ok (.dup, 1) := by decide +kernel
theorem dX3_endFactor_48 : decode cX3_endFactor 48 = .ok (.getfield 58, 3) := by decide +kernel
theorem dX3_endFactor_51 : decode cX3_endFactor 51 = .ok (.iconst 1, 1) := by decide +kernel
theorem dX3_endFactor_52 : decode cX3_endFactor 52 = .ok (.isub, 1) := by decide +kernel
theorem dX3_endFactor_53 : decode cX3_endFactor 53 = .ok (.putfield 58, 3) := by decide +kernel
theorem dX3_endFactor_56 : decode cX3_endFactor 56 = .ok (.iinc 3 1, 3) := by decide +kernel
theorem dX3_endFactor_59 : decode cX3_endFactor 59 = .ok (.goto (-55), 3) := by decide +kernel
theorem dX3_endFactor_62 : decode cX3_endFactor 62 = .ok (.aload_n 0, 1) := by decide +kernel
theorem dX3_endFactor_63 : decode cX3_endFactor 63 = .ok (.getfield 58, 3) := by decide +kernel
theorem dX3_endFactor_66 : decode cX3_endFactor 66 = .ok (.ifCond .lt 24, 3) := by decide +kernel
theorem dX3_endFactor_69 : decode cX3_endFactor 69 = .ok (.aload_n 0, 1) := by decide +kernel
theorem dX3_endFactor_70 : decode cX3_endFactor 70 = .ok (.getfield 58, 3) := by decide +kernel
theorem dX3_endFactor_73 : decode cX3_endFactor 73 = .ok (.iconst 5, 1) := by decide +kernel
theorem dX3_endFactor_74 : decode cX3_endFactor 74 = .ok (.if_icmp .gt 16, 3) := by decide +kernel
theorem dX3_endFactor_77 : decode cX3_endFactor 77 = .ok (.aload_n 0, 1) := by decide +kernel
theorem dX3_endFactor_78 : decode cX3_endFactor 78 = .ok (.getfield 67, 3) := by decide +kernel
theorem dX3_endFactor_81 : decode cX3_endFactor 81 = .ok (.aload_n 0, 1) := by decide +kernel
theorem dX3_endFactor_82 : decode cX3_endFactor 82 = .ok (.getfield 58, 3) := by decide +kernel
theorem dX3_endFactor_85 : decode cX3_endFactor 85 = .ok (.dup2, 1) := by decide +kernel
theorem dX3_endFactor_86 : decode cX3_endFactor 86 = .ok (.iaload, 1) := by decide +kernel
theorem dX3_endFactor_87 : decode cX3_endFactor 87 = .ok (.iload_n 2, 1) := by decide +kernel
theorem dX3_endFactor_88 : decode cX3_endFactor 88 = .ok (.iand, 1) := by decide +kernel
theorem dX3_endFactor_89 : decode cX3_endFactor 89 = .ok (.iastore, 1) := by decide +kernel
theorem dX3_endFactor_90 : decode cX3_endFactor 90 = .ok (.return_, 1) := by decide +kernel
theorem dX3_goesBehind_0 : decode cX3_goesBehind 0 = .ok (.aload_n 0, 1) := by decide +kernel
theorem dX3_goesBehind_1 : decode cX3_goesBehind 1 = .ok (.getfield 58, 3) := by decide +kernel
theorem dX3_goesBehind_4 : decode cX3_goesBehind 4 = .ok (.ifCond .lt 11, 3) := by decide +kernel
theorem dX3_goesBehind_7 : decode cX3_goesBehind 7 = .ok (.aload_n 0, 1) := by decide +kernel
theorem dX3_goesBehind_8 : decode cX3_goesBehind 8 = .ok (.getfield 58, 3) := by decide +kernel
theorem dX3_goesBehind_11 : decode cX3_goesBehind 11 = .ok (.iconst 5, 1) := by decide +kernel
theorem dX3_goesBehind_12 : decode cX3_goesBehind 12 = .ok (.if_icmp .le 5, 3) := by decide +kernel
theorem dX3_goesBehind_15 : decode cX3_goesBehind 15 = .ok (.iconst 0, 1) := by decide +kernel
theorem dX3_goesBehind_16 : decode cX3_goesBehind 16 = .ok (.ireturn, 1) := by decide +kernel
theorem dX3_goesBehind_17 : decode cX3_goesBehind 17 = .ok (.iload_n 1, 1) := by decide +kernel
theorem dX3_goesBehind_18 : decode cX3_goesBehind 18 = .ok (.bipush 38, 2) := by decide +kernel
theorem dX3_goesBehind_20 : decode cX3_goesBehind 20 = .ok (.if_icmp .ne 10, 3) := by decide +kernel
theorem dX3_goesBehind_23 : decode cX3_goesBehind 23 = .ok (.aload_n 0, 1) := by decide +kernel
theorem dX3_goesBehind_24 : decode cX3_goesBehind 24 = .ok (.iconst 3, 1) := by decide +kernel
theorem dX3_goesBehind_25 : decode cX3_goesBehind 25 = .ok (.putfield 31, 3) := by decide +kernel
theorem dX3_goesBehind_28 : decode cX3_goesBehind 28 = .ok (.iconst 1, 1) := by decide +kernel
theorem dX3_goesBehind_29 : decode cX3_goesBehind 29 = .ok (.ireturn, 1) := by decide +kernel
theorem dX3_goesBehind_30 : decode cX3_goesBehind 30 = .ok (.aload_n 0, 1) := by decide +kernel
theorem dX3_goesBehind_31 : decode cX3_goesBehind 31 = .ok (.getfield 64, 3) := by decide +kernel
theorem dX3_goesBehind_34 : decode cX3_goesBehind 34 = .ok (.aload_n 0, 1) := by decide +kernel
theorem dX3_goesBehind_35 : decode cX3_goesBehind 35 = .ok (.getfield 58, 3) := by decide +kernel
theorem dX3_goesBehind_38 : decode cX3_goesBehind 38 = .ok (.dup2, 1) := by decide +kernel
theorem dX3_goesBehind_39 : decode cX3_goesBehind 39 = .ok (.iaload, 1) := by decide +kernel
theorem dX3_goesBehind_40 : decode cX3_goesBehind 40 = .ok (.aload_n 0, 1) := by decide +kernel
theorem dX3_goesBehind_41 : decode cX3_goesBehind 41 = .ok (.getfield 67, 3) := by decide +kernel
theorem dX3_goesBehind_44 : decode cX3_goesBehind 44 = .ok (.aload_n 0, 1) := by decide +kernel
theorem dX3_goesBehind_45 : decode cX3_goesBehind 45 = .ok (.getfield 58, 3) := by decide +kernel
theorem dX3_goesBehind_48 : decode cX3_goesBehind 48 = .ok (.iaload, 1) := by decide +kernel
theorem dX3_goesBehind_49 : decode cX3_goesBehind 49 = .ok (.ior, 1) := by decide +kernel
theorem dX3_goesBehind_50 : decode cX3_goesBehind 50 = .ok (.iastore, 1) := by decide +kernel
theorem dX3_goesBehind_51 : decode cX3_goesBehind 51 = .ok (.aload_n 0, 1) := by decide +kernel
theorem dX3_goesBehind_52 : decode cX3_goesBehind 52 = .ok (.getfield 67, 3) := by decide +kernel
theorem dX3_goesBehind_55 : decode cX3_goesBehind 55 = .ok (.aload_n 0, 1) := by decide +kernel
theorem dX3_goesBehind_56 : decode cX3_goesBehind 56 = .ok (.getfield 58, 3) := by decide +kernel
theorem dX3_goesBehind_59 : decode cX3_goesBehind 59 = .ok (.sipush 255, 3) := by decide +kernel
theorem dX3_goesBehind_62 : decode cX3_goesBehind 62 = .ok (.iastore, 1) := by decide +kernel
theorem dX3_goesBehind_63 : decode cX3_goesBehind 63 = .ok (.iload_n 1, 1) := by decide +kernel
theorem dX3_goesBehind_64 : decode cX3_goesBehind 64 = .ok (.bipush 124, 2) := by decide +kernel
theorem dX3_goesBehind_66 : decode cX3_goesBehind 66 = .ok (.if_icmp .ne 10, 3) := by decide +kernel
theorem dX3_goesBehind_69 : decode cX3_goesBehind 69 = .ok (.aload_n 0, 1) := by decide +kernel
theorem dX3_goesBehind_70 : decode cX3_goesBehind 70 = .ok (.iconst 3, 1) := by decide +kernel
theorem dX3_goesBehind_71 : decode cX3_goesBehind 71 = .ok (.putfield 31, 3) := by decide +kernel
theorem dX3_goesBehind_74 : decode cX3_goesBehind 74 = .ok (.iconst 1, 1) := by decide +kernel
theorem dX3_goesBehind_75 : decode cX3_goesBehind 75 = .ok (.ireturn, 1) := by decide +kernel
theorem dX3_goesBehind_76 : decode cX3_goesBehind 76 = .ok (.aload_n 0, 1) := by decide +kernel
theorem dX3_goesBehind_77 : decode cX3_goesBehind 77 = .ok (.getfield 64, 3) := by decide +kernel
theorem dX3_goesBehind_80 : decode cX3_goesBehind 80 = .ok (.aload_n 0, 1) := by decide +kernel
theorem dX3_goesBehind_81 : decode cX3_goesBehind 81 = .ok (.getfield 58, 3) := by decide +kernel
theorem dX3_goesBehind_84 : decode cX3_goesBehind 84 = .ok (.iaload, 1) := by decide +kernel
theorem dX3_goesBehind_85 : decode cX3_goesBehind 85 = .ok (.istore_n 2, 1) := by decide +kernel
theorem dX3_goesBehind_86 : decode cX3_goesBehind 86 = .ok (.iload_n 1, 1) := by decide +kernel
theorem dX3_goesBehind_87 : decode cX3_goesBehind 87 = .ok (.bipush 41, 2) := by decide +kernel
theorem dX3_goesBehind_89 : decode cX3_goesBehind 89 = .ok (.if_icmp .ne 27, 3) := by decide +kernel
theorem dX3_goesBehind_92 : decode cX3_goesBehind 92 = .ok (.aload_n 0, 1) := by decide +kernel
theorem dX3_goesBehind_93 : decode cX3_goesBehind 93 = .ok (.getfield 58, 3) := by decide +kernel
theorem dX3_goesBehind_96 : decode cX3_goesBehind 96 = .ok (.ifCond .le 20, 3) := by decide +kernel
theorem dX3_goesBehind_99 : decode cX3_goesBehind 99 = .ok (.aload_n 0, 1) := by decide +kernel
theorem dX3_goesBehind_100 : decode cX3_goesBehind 100 = .ok (.dup, 1) := by decide +kernel
theorem dX3_goesBehind_101 : decode cX3_goesBehind 101 = .ok (.getfield 58, 3) := by decide +kernel
theorem dX3_goesBehind_104 : decode cX3_goesBehind 104 = .ok (.iconst 1, 1) := by decide +kernel
theorem dX3_goesBehind_105 : decode cX3_goesBehind 105 = .ok (.isub, 1) := by decide +kernel
theorem dX3_goesBehind_106 : decode cX3_goesBehind 106 = .ok (.putfield 58, 3) := by decide +kernel
theorem dX3_goesBehind_109 : decode cX3_goesBehind 109 = .ok (.aload_n 0, 1) := by decide +kernel
theorem dX3_goesBehind_110 : decode cX3_goesBehind 110 = .ok (.iload_n 2, 1) := by decide +kernel
theorem dX3_goesBehind_111 : decode cX3_goesBehind 111 = .ok (.invokevirtual 127, 3) := by decide +kernel
theorem dX3_goesBehind_114 : decode cX3_goesBehind 114 = .ok (.iconst 1, 1) := by decide +kernel
theorem dX3_goesBehind_115 : decode cX3_goesBehind 115 = .ok (.ireturn, 1) := by decide +kernel
theorem dX3_goesBehind_116 : decode cX3_goesBehind 116 = .ok (.iload_n 1, 1) := by decide +kernel
theorem dX3_goesBehind_117 : decode cX3_goesBehind 117 = .ok (.bipush 59, 2) := by decide +kernel
theorem dX3_goesBehind_119 : decode cX3_goesBehind 119 = .ok (.if_icmp .ne 52, 3) := by decide +kernel
theorem dX3_goesBehind_122 : decode cX3_goesBehind 122 = .ok (.aload_n 0, 1) := by decide +kernel
theorem dX3_goesBehind_123 : decode cX3_goesBehind 123 = .ok (.getfield 58, 3) := by decide +kernel
theorem dX3_goesBehind_126 : decode cX3_goesBehind 126 = .ok (.ifCond .ne 45, 3) := by decide +kernel
theorem dX3_goesBehind_129 : decode cX3_goesBehind 129 = .ok (.aload_n 0, 1) := by decide +kernel
theorem dX3_goesBehind_130 : decode cX3_goesBehind 130 = .ok (.aload_n 0, 1) := by decide +kernel
theorem dX3_goesBehind_131 : decode cX3_goesBehind 131 = .ok (.getfield 34, 3) := by decide +kernel
theorem dX3_goesBehind_134 : decode cX3_goesBehind 134 = .ok (.bipush 119, 2) := by decide +kernel
theorem dX3_goesBehind_136 : decode cX3_goesBehind 136 = .ok (.if_icmp .ne 10, 3) := by decide +kernel
theorem dX3_goesBehind_139 : decode cX3_goesBehind 139 = .ok (.aload_n 0, 1) := by decide +kernel
theorem dX3_goesBehind_140 : decode cX3_goesBehind 140 = .ok (.getfield 9, 3) := by decide +kernel
theorem dX3_goesBehind_143 : decode cX3_goesBehind 143 = .ok (.goto 7, 3) := by decide +kernel
theorem dX3_goesBehind_146 : decode cX3_goesBehind 146 = .ok (.aload_n 0, 1) := by decide +kernel
theorem dX3_goesBehind_147 : decode cX3_goesBehind 147 = .ok (.getfield 15, 3) := by decide +kernel
theorem dX3_goesBehind_150 : decode cX3_goesBehind 150 = .ok (.iload_n 2, 1) := by decide +kernel
theorem dX3_goesBehind_151 : decode cX3_goesBehind 151 = .ok (.invokevirtual 130, 3) := by decide +kernel
theorem dX3_goesBehind_154 : decode cX3_goesBehind 154 = .ok (.aload_n 0, 1) := by decide +kernel
theorem dX3_goesBehind_155 : decode cX3_goesBehind 155 = .ok (.dup, 1) := by decide +kernel
theorem dX3_goesBehind_156 : decode cX3_goesBehind 156 = .ok (.getfield 40, 3) := by decide +kernel
theorem dX3_goesBehind_159 : decode cX3_goesBehind 159 = .ok (.iconst 1, 1) := by decide +kernel
theorem dX3_goesBehind_160 : decode cX3_goesBehind 160 = .ok (.iadd, 1) := by decide +kernel
theorem dX3_goesBehind_161 : decode cX3_goesBehind 161 = .ok (.putfield 40, 3) := by decide +kernel
theorem dX3_goesBehind_164 : decode cX3_goesBehind 164 = .ok (.aload_n 0, 1) := by decide +kernel
theorem dX3_goesBehind_165 : decode cX3_goesBehind 165 = .ok (.iconst 0, 1) := by decide +kernel
theorem dX3_goesBehind_166 : decode cX3_goesBehind 166 = .ok (.putfield 31, 3) := by decide +kernel
theorem dX3_goesBehind_169 : decode cX3_goesBehind 169 = .ok (.iconst 1, 1) := by decide +kernel
theorem dX3_goesBehind_170 : decode cX3_goesBehind 170 = .ok (.ireturn, 1) := by decide +kernel
theorem dX3_goesBehind_171 : decode cX3_goesBehind 171 = .ok (.iconst 0, 1) := by decide +kernel
theorem dX3_goesBehind_172 : decode cX3_goesBehind 172 = .ok (.ireturn, 1) := by decide +kernel
theorem dX3_grow_0 : decode cX3_grow 0 = .ok (.iconst 0, 1) := by decide +kernel
theorem dX3_grow_1 : decode cX3_grow 1 = .ok (.istore_n 3, 1) := by decide +kernel
theorem dX3_grow_2 : decode cX3_grow 2 = .ok (.iload_n 3, 1) := by decide +kernel
theorem dX3_grow_3 : decode cX3_grow 3 = .ok (.bipush 8, 2) := by decide +kernel
theorem dX3_grow_5 : decode cX3_grow 5 = .ok (.if_icmp .ge 31, 3) := by decide +kernel
theorem dX3_grow_8 : decode cX3_grow 8 = .ok (.iload_n 3, 1) := by decide +kernel
theorem dX3_grow_9 : decode cX3_grow 9 = .ok (.aload_n 1, 1) := by decide +kernel
theorem dX3_grow_10 : decode cX3_grow 10 = .ok (.arraylength, 1) := by decide +kernel
theorem dX3_grow_11 : decode cX3_grow 11 = .ok (.if_icmp .ge 25, 3) := by decide +kernel
theorem dX3_grow_14 : decode cX3_grow 14 = .ok (.aload_n 1, 1) := by decide +kernel
theorem dX3_grow_15 : decode cX3_grow 15 = .ok (.iload_n 3, 1) := by decide +kernel
theorem dX3_grow_16 : decode cX3_grow 16 = .ok (.dup2, 1) := by decide +kernel
theorem dX3_grow_17 : decode cX3_grow 17 = .ok (.iaload, 1) := by decide +kernel
theorem dX3_grow_18 : decode cX3_grow 18 = .ok (.iload_n 2, 1) := by decide +kernel
theorem dX3_grow_19 : decode cX3_grow 19 = .ok (.iload_n 3, 1) := by decide +kernel
theorem dX3_grow_20 : decode cX3_grow 20 = .ok (.ishr, 1) := by decide +kernel
theorem dX3_grow_21 : decode cX3_grow 21 = .ok (.iconst 1, 1) := by decide +kernel
theorem dX3_grow_22 : decode cX3_grow 22 = .ok (.iand, 1) := by decide +kernel
theorem dX3_grow_23 : decode cX3_grow 23 = .ok (.aload_n 0, 1) := by decide +kernel
theorem dX3_grow_24 : decode cX3_grow 24 = .ok (.getfield 49, 3) := by decide +kernel
theorem dX3_grow_27 : decode cX3_grow 27 = .ok (.imul, 1) := by decide +kernel
theorem dX3_grow_28 : decode cX3_grow 28 = .ok (.iadd, 1) := by decide +kernel
theorem dX3_grow_29 : decode cX3_grow 29 = .ok (.iastore, 1) := by decide +kernel
theorem dX3_grow_30 : decode cX3_grow 30 = .ok (.iinc 3 1, 3) := by decide +kernel
theorem dX3_grow_33 : decode cX3_grow 33 = .ok (.goto (-31), 3) := by decide +kernel
theorem dX3_grow_36 : decode cX3_grow 36 = .ok (.return_, 1) := by decide +kernel
theorem dX4_init_0 : decode cX4_init 0 = .ok (.aload_n 0, 1) := by decide +kernel
theorem dX4_init_1 : decode cX4_init 1 = .ok (.invokespecial 3, 3) := by decide +kernel
theorem dX4_init_4 : decode cX4_init 4 = .ok (.aload_n 0, 1) := by decide +kernel
theorem dX4_init_5 : decode cX4_init 5 = .ok (.bipush 64, 2) := by decide +kernel
theorem dX4_init_7 : decode cX4_init 7 = .ok (.anewarray 9, 3) := by decide +kernel
theorem dX4_init_10 : decode cX4_init 10 = .ok (.putfield 11, 3) := by decide +kernel
theorem dX4_init_13 : decode cX4_init 13 = .ok (.aload_n 0, 1) := by decide +kernel
theorem dX4_init_14 : decode cX4_init 14 = .ok (.bipush 8, 2) := by decide +kernel
theorem dX4_init_16 : decode cX4_init 16 = .ok (.newarray .int, 2) := by decide +kernel
theorem dX4_init_18 : decode cX4_init 18 = .ok (.putfield 17, 3) := by decide +kernel
theorem dX4_init_21 : decode cX4_init 21 = .ok (.aload_n 0, 1) := by decide +kernel
theorem dX4_init_22 : decode cX4_init 22 = .ok (.bipush 6, 2) := by decide +kernel
theorem dX4_init_24 : decode cX4_init 24 = .ok (.newarray .int, 2) := by decide +kernel
theorem dX4_init_26 : decode cX4_init 26 = .ok (.putfield 21, 3) := by decide +kernel
theorem dX4_init_29 : decode cX4_init 29 = .ok (.aload_n 0, 1) := by decide +kernel
theorem dX4_init_30 : decode cX4_init 30 = .ok (.bipush 6, 2) := by decide +kernel
theorem dX4_init_32 : decode cX4_init 32 = .ok (.newarray .int, 2) := by decide +kernel
theorem dX4_init_34 : decode cX4_init 34 = .ok (.putfield 24, 3) := by decide +kernel
theorem dX4_init_37 : decode cX4_init 37 = .ok (.aload_n 0, 1) := by decide +kernel
theorem dX4_init_38 : decode cX4_init 38 = .ok (.iconst 0, 1) := by decide +kernel
theorem dX4_init_39 : decode cX4_init 39 = .ok (.putfield 27, 3) := by decide +kernel
theorem dX4_init_42 : decode cX4_init 42 = .ok (.aload_n 0, 1) := by decide +kernel
theorem dX4_init_43 : decode cX4_init 43 = .ok (.bipush (-5), 2) := by decide +kernel
theorem dX4_init_45 : decode cX4_init 45 = .ok (.putfield 31, 3) := by decide +kernel
theorem dX4_init_48 : decode cX4_init 48 = .ok (.aload_n 0, 1) := by decide +kernel
theorem dX4_init_49 : decode cX4_init 49 = .ok (.aload_n 1, 1) := by decide +kernel
theorem dX4_init_50 : decode cX4_init 50 = .ok (.putfield 34, 3) := by decide +kernel
theorem dX4_init_53 : decode cX4_init 53 = .ok (.iconst 0, 1) := by decide +kernel
theorem dX4_init_54 : decode cX4_init 54 = .ok (.istore_n 2, 1) := by decide +kernel
theorem dX4_init_55 : decode cX4_init 55 = .ok (.iload_n 2, 1) := by decide +kernel
theorem dX4_init_56 : decode cX4_init 56 = .ok (.bipush 64, 2) := by decide +kernel
theorem dX4_init_58 : decode cX4_init 58 = .ok (.if_icmp .ge 22, 3) := by decide +kernel
theorem dX4_init_61 : decode cX4_init 61 = .ok (.aload_n 0, 1) := by decide +kernel
theorem dX4_init_62 : decode cX4_init 62 = .ok (.getfield 11, 3) := by decide +kernel
theorem dX4_init_65 : decode cX4_init 65 = .ok (.iload_n 2, 1) := by decide +kernel
theorem dX4_init_66 : decode cX4_init 66 = .ok (.new 9, 3) := by decide +kernel
theorem dX4_init_69 : decode cX4_init 69 = .ok (.dup, 1) := by decide +kernel
theorem dX4_init_70 : decode cX4_init 70 = .ok (.invokespecial 38, 3) := by decide +kernel
theorem dX4_init_73 : decode cX4_init 73 = .ok (.aastore, 1) := by decide +kernel
theorem dX4_init_74 : decode cX4_init 74 = .ok (.iinc 2 1, 3) := by decide +kernel
theorem dX4_init_77 : decode cX4_init 77 = .ok (.goto (-22), 3) := by decide +kernel
theorem dX4_init_80 : decode cX4_init 80 = .ok (.return_, 1) := by decide +kernel
theorem dX4_prepareSuits_0 : decode cX4_prepareSuits 0 = .ok (.iconst 0, 1) := by decide +kernel
theorem dX4_prepareSuits_1 : decode cX4_prepareSuits 1 = .ok (.istore_n 2, 1) := by decide +kernel
theorem dX4_prepareSuits_2 : decode cX4_prepareSuits 2 = .ok (.iload_n 2, 1) := by decide +kernel
theorem dX4_prepareSuits_3 : decode cX4_prepareSuits 3 = .ok (.bipush 8, 2) := by decide +kernel
theorem dX4_prepareSuits_5 : decode cX4_prepareSuits 5 = .ok (.if_icmp .ge 54, 3) := by decide +kernel
theorem dX4_prepareSuits_8 : decode cX4_prepareSuits 8 = .ok (.aload_n 0, 1) := by decide +kernel
theorem dX4_prepareSuits_9 : decode cX4_prepareSuits 9 = .ok (.getfield 11, 3) := by decide +kernel
theorem dX4_prepareSuits_12 : decode cX4_prepareSuits 12 = .ok (.iload_n 2, 1) := by decide +kernel
theorem dX4_prepareSuits_13 : decode cX4_prepareSuits 13 = .ok (.aaload, 1) := by decide +kernel
theorem dX4_prepareSuits_14 : decode cX4_prepareSuits 14 = .ok (.aload_n 1, 1) := by decide +kernel
theorem dX4_prepareSuits_15 : decode cX4_prepareSuits 15 = .ok (.iload_n 2, 1) := by decide +kernel
theorem dX4_prepareSuits_16 : decode cX4_prepareSuits 16 = .ok (.invokevirtual 39, 3) := by decide +kernel
theorem dX4_prepareSuits_19 : decode cX4_prepareSuits 19 = .ok (.invokevirtual 45, 3) := by decide +kernel
theorem dX4_prepareSuits_22 : decode cX4_prepareSuits 22 = .ok (.aload_n 0, 1) := by decide +kernel
theorem dX4_prepareSuits_23 : decode cX4_prepareSuits 23 = .ok (.getfield 34, 3) := by decide +kernel
theorem dX4_prepareSuits_26 : decode cX4_prepareSuits 26 = .ok (.aload_n 0, 1) := by decide +kernel
theorem dX4_prepareSuits_27 : decode cX4_prepareSuits 27 = .ok (.getfield 11, 3) := by decide +kernel
theorem dX4_prepareSuits_30 : decode cX4_prepareSuits 30 = .ok (.iload_n 2, 1) := by decide +kernel
theorem dX4_prepareSuits_31 : decode cX4_prepareSuits 31 = .ok (.aaload, 1) := by decide +kernel
theorem dX4_prepareSuits_32 : decode cX4_prepareSuits 32 = .ok (.aload_n 0, 1) := by decide +kernel
theorem dX4_prepareSuits_33 : decode cX4_prepareSuits 33 = .ok (.getfield 34, 3) := by decide +kernel
theorem dX4_prepareSuits_36 : decode cX4_prepareSuits 36 = .ok (.getfield 49, 3) := by decide +kernel
theorem dX4_prepareSuits_39 : decode cX4_prepareSuits 39 = .ok (.invokevirtual 54, 3) := by decide +kernel
theorem dX4_prepareSuits_42 : decode cX4_prepareSuits 42 = .ok (.aload_n 0, 1) := by decide +kernel
theorem dX4_prepareSuits_43 : decode cX4_prepareSuits 43 = .ok (.getfield 17, 3) := by decide +kernel
theorem dX4_prepareSuits_46 : decode cX4_prepareSuits 46 = .ok (.iload_n 2, 1) := by decide +kernel
theorem dX4_prepareSuits_47 : decode cX4_prepareSuits 47 = .ok (.aload_n 1, 1) := by decide +kernel
theorem dX4_prepareSuits_48 : decode cX4_prepareSuits 48 = .ok (.iload_n 2, 1) := by decide +kernel
theorem dX4_prepareSuits_49 : decode cX4_prepareSuits 49 = .ok (.invokevirtual 58, 3) := by decide +kernel
theorem dX4_prepareSuits_52 : decode cX4_prepareSuits 52 = .ok (.iastore, 1) := by decide +kernel
theorem dX4_prepareSuits_53 : decode cX4_prepareSuits 53 = .ok (.iinc 2 1, 3) := by decide +kernel
theorem dX4_prepareSuits_56 : decode cX4_prepareSuits 56 = .ok (.goto (-54), 3) := by decide +kernel
theorem dX4_prepareSuits_59 : decode cX4_prepareSuits 59 = .ok (.return_, 1) := by decide +kernel
theorem dX4_order_0 : decode cX4_order 0 = .ok (.aload_n 0, 1) := by decide +kernel
theorem dX4_order_1 : decode cX4_order 1 = .ok (.aload_n 1, 1) := by decide +kernel
theorem dX4_order_2 : decode cX4_order 2 = .ok (.invokevirtual 61, 3) := by decide +kernel
theorem dX4_order_5 : decode cX4_order 5 = .ok (.aload_n 0, 1) := by decide +kernel
theorem dX4_order_6 : decode cX4_order 6 = .ok (.iconst (-1), 1) := by decide +kernel
theorem dX4_order_7 : decode cX4_order 7 = .ok (.putfield 27, 3) := by decide +kernel
theorem dX4_order_10 : decode cX4_order 10 = .ok (.aload_n 0, 1) := by decide +kernel
theorem dX4_order_11 : decode cX4_order 11 = .ok (.iload_n 2, 1) := by decide +kernel
theorem dX4_order_12 : decode cX4_order 12 = .ok (.iconst 0, 1) := by decide +kernel
theorem dX4_order_13 : decode cX4_order 13 = .ok (.iconst 0, 1) := by decide +kernel
theorem dX4_order_14 : decode cX4_order 14 = .ok (.invokevirtual 65, 3) := by decide +kernel
theorem dX4_order_17 : decode cX4_order 17 = .ok (.return_, 1) := by decide +kernel
theorem dX4_bring_0 : decode cX4_bring 0 = .ok (.iload_n 1, 1) := by decide +kernel
theorem dX4_bring_1 : decode cX4_bring 1 = .ok (.ifCond .eq 9, 3) := by decide +kernel
theorem dX4_bring_4 : decode cX4_bring 4 = .ok (.iload_n 2, 1) := by decide +kernel
theorem dX4_bring_5 : decode cX4_bring 5 = .ok (.bipush 6, 2) := by decide +kernel
theorem dX4_bring_7 : decode cX4_bring 7 = .ok (.if_icmp .lt 32, 3) := by decide +kernel
theorem dX4_bring_10 : decode cX4_bring 10 = .ok (.iload_n 3, 1) := by decide +kernel
theorem dX4_bring_11 : decode cX4_bring 11 = .ok (.aload_n 0, 1) := by decide +kernel
theorem dX4_bring_12 : decode cX4_bring 12 = .ok (.getfield 27, 3) := by decide +kernel
theorem dX4_bring_15 : decode cX4_bring 15 = .ok (.if_icmp .le 23, 3) := by decide +kernel
theorem dX4_bring_18 : decode cX4_bring 18 = .ok (.aload_n 0, 1) := by decide +kernel
theorem dX4_bring_19 : decode cX4_bring 19 = .ok (.iload_n 3, 1) := by decide +kernel
theorem dX4_bring_20 : decode cX4_bring 20 = .ok (.putfield 27, 3) := by decide +kernel
theorem dX4_bring_23 : decode cX4_bring 23 = .ok (.aload_n 0, 1) := by decide +kernel
theorem dX4_bring_24 : decode cX4_bring 24 = .ok (.getfield 21, 3) := by decide +kernel
theorem dX4_bring_27 : decode cX4_bring 27 = .ok (.iconst 0, 1) := by decide +kernel
theorem dX4_bring_28 : decode cX4_bring 28 = .ok (.aload_n 0, 1) := by decide +kernel
theorem dX4_bring_29 : decode cX4_bring 29 = .ok (.getfield 24, 3) := by decide +kernel
theorem dX4_bring_32 : decode cX4_bring 32 = .ok (.iconst 0, 1) := by decide +kernel
theorem dX4_bring_33 : decode cX4_bring 33 = .ok (.bipush 6, 2) := by decide +kernel
theorem dX4_bring_35 : decode cX4_bring 35 = .ok (.invokestatic 69, 3) := by decide +kernel
theorem dX4_bring_38 : decode cX4_bring 38 = .ok (.return_, 1) := by decide +kernel
theorem dX4_bring_39 : decode cX4_bring 39 = .ok (.iconst 0, 1) := by decide +kernel
theorem dX4_bring_40 : decode cX4_bring 40 = .ok (.istore 4, 2) := by decide +kernel
theorem dX4_bring_42 : decode cX4_bring 42 = .ok (.iload 4, 2) := by decide +kernel
theorem dX4_bring_44 : decode cX4_bring 44 = .ok (.bipush 8, 2) := by decide +kernel
theorem dX4_bring_46 : decode cX4_bring 46 = .ok (.if_icmp .ge 100, 3) := by decide +kernel
theorem dX4_bring_49 : decode cX4_bring 49 = .ok (.iload_n 1, 1) := by decide +kernel
theorem dX4_bring_50 : decode cX4_bring 50 = .ok (.iload 4, 2) := by decide +kernel
theorem dX4_bring_52 : decode cX4_bring 52 = .ok (.ishr, 1) := by decide +kernel
theorem dX4_bring_53 : decode cX4_bring 53 = .ok (.iconst 1, 1) := by decide +kernel
theorem dX4_bring_54 : decode cX4_bring 54 = .ok (.iand, 1) := by decide +kernel
theorem dX4_bring_55 : decode cX4_bring 55 = .ok (.iconst 1, 1) := by decide +kernel
theorem dX4_bring_56 : decode cX4_bring 56 = .ok (.if_icmp .ne 84, 3) := by decide +kernel
theorem dX4_bring_59 : decode cX4_bring 59 = .ok (.aload_n 0, 1) := by decide +kernel
theorem dX4_bring_60 : decode cX4_bring 60 = .ok (.getfield 34, 3) := by decide +kernel
theorem dX4_bring_63 : decode cX4_bring 63 = .ok (.aload_n 0, 1) := by decide +kernel
theorem dX4_bring_64 : decode cX4_bring 64 = .ok (.getfield 11, 3) := by decide +kernel
theorem dX4_bring_67 : decode cX4_bring 67 = .ok (.iload 4, 2) := by decide +kernel
theorem dX4_bring_69 : decode cX4_bring 69 = .ok (.aaload, 1) := by decide +kernel
theorem dX4_bring_70 : decode cX4_bring 70 = .ok (.invokevirtual 75, 3) := by decide +kernel
theorem dX4_bring_73 : decode cX4_bring 73 = .ok (.istore 5, 2) := by decide +kernel
theorem dX4_bring_75 : decode cX4_bring 75 = .ok (.aload_n 0, 1) := by decide +kernel
theorem dX4_bring_76 : decode cX4_bring 76 = .ok (.getfield 21, 3) := by decide +kernel
theorem dX4_bring_79 : decode cX4_bring 79 = .ok (.iload_n 2, 1) := by decide +kernel
theorem dX4_bring_80 : decode cX4_bring 80 = .ok (.iload 4, 2) := by decide +kernel
theorem dX4_bring_82 : decode cX4_bring 82 = .ok (.iastore, 1) := by decide +kernel
theorem dX4_bring_83 : decode cX4_bring 83 = .ok (.aload_n 0, 1) := by decide +kernel
theorem dX4_bring_84 : decode cX4_bring 84 = .ok (.getfield 34, 3) := by decide +kernel
theorem dX4_bring_87 : decode cX4_bring 87 = .ok (.aload_n 0, 1) := by decide +kernel
theorem dX4_bring_88 : decode cX4_bring 88 = .ok (.getfield 11, 3) := by decide +kernel
theorem dX4_bring_91 : decode cX4_bring 91 = .ok (.iload 4, 2) := by decide +kernel
theorem dX4_bring_93 : decode cX4_bring 93 = .ok (.aaload, 1) := by decide +kernel
theorem dX4_bring_94 : decode cX4_bring 94 = .ok (.getfield 79, 3) := by decide +kernel
theorem dX4_bring_97 : decode cX4_bring 97 = .ok (.iload 5, 2) := by decide +kernel
theorem dX4_bring_99 : decode cX4_bring 99 = .ok (.invokevirtual 82, 3) := by decide +kernel
theorem dX4_bring_102 : decode cX4_bring 102 = .ok (.aload_n 0, 1) := by decide +kernel
theorem dX4_bring_103 : decode cX4_bring 103 = .ok (.iload_n 1, 1) := by decide +kernel
theorem dX4_bring_104 : decode cX4_bring 104 = .ok (.iconst 1, 1) := by decide +kernel
theorem dX4_bring_105 : decode cX4_bring 105 = .ok (.iload 4, 2) := by decide +kernel
theorem dX4_bring_107 : decode cX4_bring 107 = .ok (.ishl, 1) := by decide +kernel
theorem dX4_bring_108 : decode cX4_bring 108 = .ok (.ixor, 1) := by decide +kernel
theorem dX4_bring_109 : decode cX4_bring 109 = .ok (.iload_n 2, 1) := by decide +kernel
theorem dX4_bring_110 : decode cX4_bring 110 = .ok (.iconst 1, 1) := by decide +kernel
theorem dX4_bring_111 : decode cX4_bring 111 = .ok (.iadd, 1) := by decide +kernel
theorem dX4_bring_112 : decode cX4_bring 112 = .ok (.iload_n 3, 1) := by decide +kernel
theorem dX4_bring_113 : decode cX4_bring 113 = .ok (.iload 5, 2) := by decide +kernel
theorem dX4_bring_115 : decode cX4_bring 115 = .ok (.ifCond .eq 13, 3) := by decide +kernel
theorem dX4_bring_118 : decode cX4_bring 118 = .ok (.aload_n 0, 1) := by decide +kernel
theorem dX4_bring_119 : decode cX4_bring 119 = .ok (.getfield 17, 3) := by decide +kernel
theorem dX4_bring_122 : decode cX4_bring 122 = .ok (.iload 4, 2) := by decide +kernel
theorem dX4_bring_124 : decode cX4_bring 124 = .ok (.iaload, 1) := by decide +kernel
theorem dX4_bring_125 : decode cX4_bring 125 = .ok (.goto 4, 3) := by decide +kernel
theorem dX4_bring_128 : decode cX4_bring 128 = .ok (.iconst 0, 1) := by decide +kernel
theorem dX4_bring_129 : decode cX4_bring 129 = .ok (.iadd, 1) := by decide +kernel
theorem dX4_bring_130 : decode cX4_bring 130 = .ok (.invokevirtual 65, 3) := by decide +kernel
theorem dX4_bring_133 : decode cX4_bring 133 = .ok (.aload_n 0, 1) := by decide +kernel
theorem dX4_bring_134 : decode cX4_bring 134 = .ok (.getfield 34, 3) := by decide +kernel
theorem dX4_bring_137 : decode cX4_bring 137 = .ok (.invokevirtual 86, 3) := by decide +kernel
theorem dX4_bring_140 : decode cX4_bring 140 = .ok (.iinc 4 1, 3) := by decide +kernel
theorem dX4_bring_143 : decode cX4_bring 143 = .ok (.goto (-101), 3) := by decide +kernel
theorem dX4_bring_146 : decode cX4_bring 146 = .ok (.return_, 1) := by decide +kernel
theorem dX4_against_0 : decode cX4_against 0 = .ok (.aload_n 0, 1) := by decide +kernel
theorem dX4_against_1 : decode cX4_against 1 = .ok (.aload_n 1, 1) := by decide +kernel
theorem dX4_against_2 : decode cX4_against 2 = .ok (.invokevirtual 61, 3) := by decide +kernel
theorem dX4_against_5 : decode cX4_against 5 = .ok (.aload_n 0, 1) := by decide +kernel
theorem dX4_against_6 : decode cX4_against 6 = .ok (.bipush (-5), 2) := by decide +kernel
theorem dX4_against_8 : decode cX4_against 8 = .ok (.putfield 31, 3) := by decide +kernel
theorem dX4_against_11 : decode cX4_against 11 = .ok (.aload_n 0, 1) := by decide +kernel
theorem dX4_against_12 : decode cX4_against 12 = .ok (.iload_n 2, 1) := by decide +kernel
theorem dX4_against_13 : decode cX4_against 13 = .ok (.iload_n 3, 1) := by decide +kernel
theorem dX4_against_14 : decode cX4_against 14 = .ok (.iconst 1, 1) := by decide +kernel
theorem dX4_against_15 : decode cX4_against 15 = .ok (.iconst 0, 1) := by decide +kernel
theorem dX4_against_16 : decode cX4_against 16 = .ok (.invokevirtual 89, 3) := by decide +kernel
theorem dX4_against_19 : decode cX4_against 19 = .ok (.ireturn, 1) := by decide +kernel
theorem dX4_turns_0 : decode cX4_turns 0 = .ok (.iload_n 1, 1) := by decide +kernel
theorem dX4_turns_1 : decode cX4_turns 1 = .ok (.iload_n 2, 1) := by decide +kernel
theorem dX4_turns_2 : decode cX4_turns 2 = .ok (.ior, 1) := by decide +kernel
theorem dX4_turns_3 : decode cX4_turns 3 = .ok (.ifCond .eq 10, 3) := by decide +kernel
theorem dX4_turns_6 : decode cX4_turns 6 = .ok (.iload 4, 2) := by decide +kernel
theorem dX4_turns_8 : decode cX4_turns 8 = .ok (.bipush 6, 2) := by decide +kernel
theorem dX4_turns_10 : decode cX4_turns 10 = .ok (.if_icmp .lt 5, 3) := by decide +kernel
theorem dX4_turns_13 : decode cX4_turns 13 = .ok (.iconst 0, 1) := by decide +kernel
theorem dX4_turns_14 : decode cX4_turns 14 = .ok (.ireturn, 1) := by decide +kernel
theorem dX4_turns_15 : decode cX4_turns 15 = .ok (.iload_n 3, 1) := by decide +kernel
theorem dX4_turns_16 : decode cX4_turns 16 = .ok (.ifCond .eq 15, 3) := by decide +kernel
theorem dX4_turns_19 : decode cX4_turns 19 = .ok (.iload_n 1, 1) := by decide +kernel
theorem dX4_turns_20 : decode cX4_turns 20 = .ok (.ifCond .eq 7, 3) := by decide +kernel
theorem dX4_turns_23 : decode cX4_turns 23 = .ok (.iconst 1, 1) := by decide +kernel
theorem dX4_turns_24 : decode cX4_turns 24 = .ok (.goto 16, 3) := by decide +kernel
theorem dX4_turns_27 : decode cX4_turns 27 = .ok (.iconst 0, 1) := by decide +kernel
theorem dX4_turns_28 : decode cX4_turns 28 = .ok (.goto 12, 3) := by decide +kernel
theorem dX4_turns_31 : decode cX4_turns 31 = .ok (.iload_n 2, 1) := by decide +kernel
theorem dX4_turns_32 : decode cX4_turns 32 = .ok (.ifCond .ne 7, 3) := by decide +kernel
theorem dX4_turns_35 : decode cX4_turns 35 = .ok (.iconst 1, 1) := by decide +kernel
theorem dX4_turns_36 : decode cX4_turns 36 = .ok (.goto 4, 3) := by decide +kernel
theorem dX4_turns_39 : decode cX4_turns 39 = .ok (.iconst 0, 1) := by decide +kernel
theorem dX4_turns_40 : decode cX4_turns 40 = .ok (.istore 5, 2) := by decide +kernel
theorem dX4_turns_42 : decode cX4_turns 42 = .ok (.iload 5, 2) := by decide +kernel
theorem dX4_turns_44 : decode cX4_turns 44 = .ok (.ifCond .eq 7, 3) := by decide +kernel
theorem dX4_turns_47 : decode cX4_turns 47 = .ok (.iload_n 1, 1) := by decide +kernel
theorem dX4_turns_48 : decode cX4_turns 48 = .ok (.goto 4, 3) := by decide +kernel
theorem dX4_turns_51 : decode cX4_turns 51 = .ok (.iload_n 2, 1) := by decide +kernel
theorem dX4_turns_52 : decode cX4_turns 52 = .ok (.istore 6, 2) := by decide +kernel
theorem dX4_turns_54 : decode cX4_turns 54 = .ok (.iconst (-1), 1) := by decide +kernel
theorem dX4_turns_55 : decode cX4_turns 55 = .ok (.istore 7, 2) := by decide +kernel
theorem dX4_turns_57 : decode cX4_turns 57 = .ok (.iconst 0, 1) := by decide +kernel
theorem dX4_turns_58 : decode cX4_turns 58 = .ok (.istore 8, 2) := by decide +kernel
theorem dX4_turns_60 : decode cX4_turns 60 = .ok (.iconst 0, 1) := by decide +kernel
theorem dX4_turns_61 : decode cX4_turns 61 = .ok (.istore 9, 2) := by decide +kernel
theorem dX4_turns_63 : decode cX4_turns 63 = .ok (.iload 9, 2) := by decide +kernel
theorem dX4_turns_65 : decode cX4_turns 65 = .ok (.bipush 8, 2) := by decide +kernel
theorem dX4_turns_67 : decode cX4_turns 67 = .ok (.if_icmp .ge 187, 3) := by decide +kernel
theorem dX4_turns_70 : decode cX4_turns 70 = .ok (.iload 6, 2) := by decide +kernel
theorem dX4_turns_72 : decode cX4_turns 72 = .ok (.iload 9, 2) := by decide +kernel
theorem dX4_turns_74 : decode cX4_turns 74 = .ok (.ishr, 1) := by decide +kernel
theorem dX4_turns_75 : decode cX4_turns 75 = .ok (.iconst 1, 1) := by decide +kernel
theorem dX4_turns_76 : decode cX4_turns 76 = .ok (.iand, 1) := by decide +kernel
theorem dX4_turns_77 : decode cX4_turns 77 = .ok (.iconst 1, 1) := by decide +kernel
theorem dX4_turns_78 : decode cX4_turns 78 = .ok (.if_icmp .ne 170, 3) := by decide +kernel
theorem dX4_turns_81 : decode cX4_turns 81 = .ok (.iconst 1, 1) := by decide +kernel
theorem dX4_turns_82 : decode cX4_turns 82 = .ok (.iload 9, 2) := by decide +kernel
theorem dX4_turns_84 : decode cX4_turns 84 = .ok (.ishl, 1) := by decide +kernel
theorem dX4_turns_85 : decode cX4_turns 85 = .ok (.istore 10, 2) := by decide +kernel
theorem dX4_turns_87 : decode cX4_turns 87 = .ok (.aload_n 0, 1) := by decide +kernel
theorem dX4_turns_88 : decode cX4_turns 88 = .ok (.getfield 34, 3) := by decide +kernel
theorem dX4_turns_91 : decode cX4_turns 91 = .ok (.aload_n 0, 1) := by decide +kernel
theorem dX4_turns_92 : decode cX4_turns 92 = .ok (.getfield 11, 3) := by decide +kernel
theorem dX4_turns_95 : decode cX4_turns 95 = .ok (.iload 9, 2) := by decide +kernel
theorem dX4_turns_97 : decode cX4_turns 97 = .ok (.aaload, 1) := by decide +kernel
theorem dX4_turns_98 : decode cX4_turns 98 = .ok (.invokevirtual 75, 3) := by decide +kernel
theorem dX4_turns_101 : decode cX4_turns 101 = .ok (.istore 11, 2) := by decide +kernel
theorem dX4_turns_103 : decode cX4_turns 103 = .ok (.iload 11, 2) := by decide +kernel
theorem dX4_turns_105 : decode cX4_turns 105 = .ok (.ifCond .eq 13, 3) := by decide +kernel
theorem dX4_turns_108 : decode cX4_turns 108 = .ok (.aload_n 0, 1) := by decide +kernel
theorem dX4_turns_109 : decode cX4_turns 109 = .ok (.getfield 17, 3) := by decide +kernel
theorem dX4_turns_112 : decode cX4_turns 112 = .ok (.iload 9, 2) := by decide +kernel
theorem dX4_turns_114 : decode cX4_turns 114 = .ok (.iaload, 1) := by decide +kernel
theorem dX4_turns_115 : decode cX4_turns 115 = .ok (.goto 4, 3) := by decide +kernel
theorem dX4_turns_118 : decode cX4_turns 118 = .ok (.iconst 0, 1) := by decide +kernel
theorem dX4_turns_119 : decode cX4_turns 119 = .ok (.istore 12, 2) := by decide +kernel
theorem dX4_turns_121 : decode cX4_turns 121 = .ok (.aload_n 0, 1) := by decide +kernel
theorem dX4_turns_122 : decode cX4_turns 122 = .ok (.getfield 34, 3) := by decide +kernel
theorem dX4_turns_125 : decode cX4_turns 125 = .ok (.aload_n 0, 1) := by decide +kernel
theorem dX4_turns_126 : decode cX4_turns 126 = .ok (.getfield 11, 3) := by decide +kernel
theorem dX4_turns_129 : decode cX4_turns 129 = .ok (.iload 9, 2) := by decide +kernel
theorem dX4_turns_131 : decode cX4_turns 131 = .ok (.aaload, 1) := by decide +kernel
theorem dX4_turns_132 : decode cX4_turns 132 = .ok (.getfield 79, 3) := by decide +kernel
theorem dX4_turns_135 : decode cX4_turns 135 = .ok (.iload 11, 2) := by decide +kernel
theorem dX4_turns_137 : decode cX4_turns 137 = .ok (.invokevirtual 82, 3) := by decide +kernel
theorem dX4_turns_140 : decode cX4_turns 140 = .ok (.aload_n 0, 1) := by decide +kernel
theorem dX4_turns_141 : decode cX4_turns 141 = .ok (.iload 5, 2) := by decide +kernel
theorem dX4_turns_143 : decode cX4_turns 143 = .ok (.ifCond .eq 10, 3) := by decide +kernel
theorem dX4_turns_146 : decode cX4_turns 146 = .ok (.iload_n 1, 1) := by decide +kernel
theorem dX4_turns_147 : decode cX4_turns 147 = .ok (.iload 10, 2) := by decide +kernel
theorem dX4_turns_149 : decode cX4_turns 149 = .ok (.ixor, 1) := by decide +kernel
theorem dX4_turns_150 : decode cX4_turns 150 = .ok (.goto 4, 3) := by decide +kernel
theorem dX4_turns_153 : decode cX4_turns 153 = .ok (.iload_n 1, 1) := by decide +kernel
theorem dX4_turns_154 : decode cX4_turns 154 = .ok (.iload 5, 2) := by decide +kernel
theorem dX4_turns_156 : decode cX4_turns 156 = .ok (.ifCond .eq 7, 3) := by decide +kernel
theorem dX4_turns_159 : decode cX4_turns 159 = .ok (.iload_n 2, 1) := by decide +kernel
theorem dX4_turns_160 : decode cX4_turns 160 = .ok (.goto 7, 3) := by decide +kernel
theorem dX4_turns_163 : decode cX4_turns 163 = .ok (.iload_n 2, 1) := by decide +kernel
theorem dX4_turns_164 : decode cX4_turns 164 = .ok (.iload 10, 2) := by decide +kernel
theorem dX4_turns_166 : decode cX4_turns 166 = .ok (.ixor, 1) := by decide +kernel
theorem dX4_turns_167 : decode cX4_turns 167 = .ok (.iload 5, 2) := by decide +kernel
theorem dX4_turns_169 : decode cX4_turns 169 = .ok (.ifCond .ne 7, 3) := by decide +kernel
theorem dX4_turns_172 : decode cX4_turns 172 = .ok (.iconst 1, 1) := by decide +kernel
theorem dX4_turns_173 : decode cX4_turns 173 = .ok (.goto 4, 3) := by decide +kernel
theorem dX4_turns_176 : decode cX4_turns 176 = .ok (.iconst 0, 1) := by decide +kernel
theorem dX4_turns_177 : decode cX4_turns 177 = .ok (.iload 4, 2) := by decide +kernel
theorem dX4_turns_179 : decode cX4_turns 179 = .ok (.iconst 1, 1) := by decide +kernel
theorem dX4_turns_180 : decode cX4_turns 180 = .ok (.iadd, 1) := by decide +kernel
theorem dX4_turns_181 : decode cX4_turns 181 = .ok (.invokevirtual 89, 3) := by decide +kernel
theorem dX4_turns_184 : decode cX4_turns 184 = .ok (.istore 13, 2) := by decide +kernel
theorem dX4_turns_186 : decode cX4_turns 186 = .ok (.aload_n 0, 1) := by decide +kernel
theorem dX4_turns_187 : decode cX4_turns 187 = .ok (.getfield 34, 3) := by decide +kernel
theorem dX4_turns_190 : decode cX4_turns 190 = .ok (.invokevirtual 86, 3) := by decide +kernel
theorem dX4_turns_193 : decode cX4_turns 193 = .ok (.iload 5, 2) := by decide +kernel
theorem dX4_turns_195 : decode cX4_turns 195 = .ok (.ifCond .eq 11, 3) := by decide +kernel
theorem dX4_turns_198 : decode cX4_turns 198 = .ok (.iload 13, 2) := by decide +kernel
theorem dX4_turns_200 : decode cX4_turns 200 = .ok (.iload 12, 2) := by decide +kernel
theorem dX4_turns_202 : decode cX4_turns 202 = .ok (.iadd, 1) := by decide +kernel
theorem dX4_turns_203 : decode cX4_turns 203 = .ok (.goto 8, 3) := by decide +kernel
theorem dX4_turns_206 : decode cX4_turns 206 = .ok (.iload 13, 2) := by decide +kernel
theorem dX4_turns_208 : decode cX4_turns 208 = .ok (.iload 12, 2) := by decide +kernel
theorem dX4_turns_210 : decode cX4_turns 210 = .ok (.isub, 1) := by decide +kernel
theorem dX4_turns_211 : decode cX4_turns 211 = .ok (.istore 14, 2) := by decide +kernel
theorem dX4_turns_213 : decode cX4_turns 213 = .ok (.iload 7, 2) := by decide +kernel
theorem dX4_turns_215 : decode cX4_turns 215 = .ok (.ifCond .lt 25, 3) := by decide +kernel
theorem dX4_turns_218 : decode cX4_turns 218 = .ok (.iload 5, 2) := by decide +kernel
theorem dX4_turns_220 : decode cX4_turns 220 = .ok (.ifCond .eq 13, 3) := by decide +kernel
theorem dX4_turns_223 : decode cX4_turns 223 = .ok (.iload 14, 2) := by decide +kernel
theorem dX4_turns_225 : decode cX4_turns 225 = .ok (.iload 8, 2) := by decide +kernel
theorem dX4_turns_227 : decode cX4_turns 227 = .ok (.if_icmp .le 21, 3) := by decide +kernel
theorem dX4_turns_230 : decode cX4_turns 230 = .ok (.goto 10, 3) := by decide +kernel
theorem dX4_turns_233 : decode cX4_turns 233 = .ok (.iload 14, 2) := by decide +kernel
theorem dX4_turns_235 : decode cX4_turns 235 = .ok (.iload 8, 2) := by decide +kernel
theorem dX4_turns_237 : decode cX4_turns 237 = .ok (.if_icmp .ge 11, 3) := by decide +kernel
theorem dX4_turns_240 : decode cX4_turns 240 = .ok (.iload 9, 2) := by decide +kernel
theorem dX4_turns_242 : decode cX4_turns 242 = .ok (.istore 7, 2) := by decide +kernel
theorem dX4_turns_244 : decode cX4_turns 244 = .ok (.iload 14, 2) := by decide +kernel
theorem dX4_turns_246 : decode cX4_turns 246 = .ok (.istore 8, 2) := by decide +kernel
theorem dX4_turns_248 : decode cX4_turns 248 = .ok (.iinc 9 1, 3) := by decide +kernel
theorem dX4_turns_251 : decode cX4_turns 251 = .ok (.goto (-188), 3) := by decide +kernel
theorem dX4_turns_254 : decode cX4_turns 254 = .ok (.iload 4, 2) := by decide +kernel
theorem dX4_turns_256 : decode cX4_turns 256 = .ok (.ifCond .ne 14, 3) := by decide +kernel
theorem dX4_turns_259 : decode cX4_turns 259 = .ok (.iload 5, 2) := by decide +kernel
theorem dX4_turns_261 : decode cX4_turns 261 = .ok (.ifCond .eq 9, 3) := by decide +kernel
theorem dX4_turns_264 : decode cX4_turns 264 = .ok (.aload_n 0, 1) := by decide +kernel
theorem dX4_turns_265 : decode cX4_turns 265 = .ok (.iload 7, 2) := by decide +kernel
theorem dX4_turns_267 : decode cX4_turns 267 = .ok (.putfield 31, 3) := by decide +kernel
theorem dX4_turns_270 : decode cX4_turns 270 = .ok (.iload 8, 2) := by decide +kernel
theorem dX4_turns_272 : decode cX4_turns 272 = .ok (.ireturn, 1) := by decide +kernel
theorem dX4_shamsAhead_0 : decode cX4_shamsAhead 0 = .ok (.aload_n 0, 1) := by decide +kernel
theorem dX4_shamsAhead_1 : decode cX4_shamsAhead 1 = .ok (.getfield 34, 3) := by decide +kernel
theorem dX4_shamsAhead_4 : decode cX4_shamsAhead 4 = .ok (.iload_n 1, 1) := by decide +kernel
theorem dX4_shamsAhead_5 : decode cX4_shamsAhead 5 = .ok (.invokevirtual 93, 3) := by decide +kernel
theorem dX4_shamsAhead_8 : decode cX4_shamsAhead 8 = .ok (.ifCond .eq 5, 3) := by decide +kernel
theorem dX4_shamsAhead_11 : decode cX4_shamsAhead 11 = .ok (.iconst 0, 1) := by decide +kernel
theorem dX4_shamsAhead_12 : decode cX4_shamsAhead 12 = .ok (.ireturn, 1) := by decide +kernel
theorem dX4_shamsAhead_13 : decode cX4_shamsAhead 13 = .ok (.iconst 0, 1) := by decide +kernel
theorem dX4_shamsAhead_14 : decode cX4_shamsAhead 14 = .ok (.istore_n 2, 1) := by decide +kernel
theorem dX4_shamsAhead_15 : decode cX4_shamsAhead 15 = .ok (.iload_n 2, 1) := by decide +kernel
theorem dX4_shamsAhead_16 : decode cX4_shamsAhead 16 = .ok (.bipush 64, 2) := by decide +kernel
theorem dX4_shamsAhead_18 : decode cX4_shamsAhead 18 = .ok (.if_icmp .ge 39, 3) := by decide +kernel
theorem dX4_shamsAhead_21 : decode cX4_shamsAhead 21 = .ok (.aload_n 0, 1) := by decide +kernel
theorem dX4_shamsAhead_22 : decode cX4_shamsAhead 22 = .ok (.getfield 11, 3) := by decide +kernel
theorem dX4_shamsAhead_25 : decode cX4_shamsAhead 25 = .ok (.iload_n 2, 1) := by decide +kernel
theorem dX4_shamsAhead_26 : decode cX4_shamsAhead 26 = .ok (.aaload, 1) := by decide +kernel
theorem dX4_shamsAhead_27 : decode cX4_shamsAhead 27 = .ok (.iload_n 2, 1) := by decide +kernel
theorem dX4_shamsAhead_28 : decode cX4_shamsAhead 28 = .ok (.invokevirtual 45, 3) := by decide +kernel
theorem dX4_shamsAhead_31 : decode cX4_shamsAhead 31 = .ok (.aload_n 0, 1) := by decide +kernel
theorem dX4_shamsAhead_32 : decode cX4_shamsAhead 32 = .ok (.getfield 34, 3) := by decide +kernel
theorem dX4_shamsAhead_35 : decode cX4_shamsAhead 35 = .ok (.aload_n 0, 1) := by decide +kernel
theorem dX4_shamsAhead_36 : decode cX4_shamsAhead 36 = .ok (.getfield 11, 3) := by decide +kernel
theorem dX4_shamsAhead_39 : decode cX4_shamsAhead 39 = .ok (.iload_n 2, 1) := by decide +kernel
theorem dX4_shamsAhead_40 : decode cX4_shamsAhead 40 = .ok (.aaload, 1) := by decide +kernel
theorem dX4_shamsAhead_41 : decode cX4_shamsAhead 41 = .ok (.aload_n 0, 1) := by decide +kernel
theorem dX4_shamsAhead_42 : decode cX4_shamsAhead 42 = .ok (.getfield 34, 3) := by decide +kernel
theorem dX4_shamsAhead_45 : decode cX4_shamsAhead 45 = .ok (.getfield 49, 3) := by decide +kernel
theorem dX4_shamsAhead_48 : decode cX4_shamsAhead 48 = .ok (.invokevirtual 54, 3) := by decide +kernel
theorem dX4_shamsAhead_51 : decode cX4_shamsAhead 51 = .ok (.iinc 2 1, 3) := by decide +kernel
theorem dX4_shamsAhead_54 : decode cX4_shamsAhead 54 = .ok (.goto (-39), 3) := by decide +kernel
theorem dX4_shamsAhead_57 : decode cX4_shamsAhead 57 = .ok (.iconst 0, 1) := by decide +kernel
theorem dX4_shamsAhead_58 : decode cX4_shamsAhead 58 = .ok (.istore_n 2, 1) := by decide +kernel
theorem dX4_shamsAhead_59 : decode cX4_shamsAhead 59 = .ok (.iload_n 2, 1) := by decide +kernel
theorem dX4_shamsAhead_60 : decode cX4_shamsAhead 60 = .ok (.bipush 64, 2) := by decide +kernel
theorem dX4_shamsAhead_62 : decode cX4_shamsAhead 62 = .ok (.if_icmp .ge 26, 3) := by decide +kernel
theorem dX4_shamsAhead_65 : decode cX4_shamsAhead 65 = .ok (.aload_n 0, 1) := by decide +kernel
theorem dX4_shamsAhead_66 : decode cX4_shamsAhead 66 = .ok (.iload_n 2, 1) := by decide +kernel
theorem dX4_shamsAhead_67 : decode cX4_shamsAhead 67 = .ok (.invokevirtual 97, 3) := by decide +kernel
theorem dX4_shamsAhead_70 : decode cX4_shamsAhead 70 = .ok (.ifCond .eq 12, 3) := by decide +kernel
theorem dX4_shamsAhead_73 : decode cX4_shamsAhead 73 = .ok (.aload_n 0, 1) := by decide +kernel
theorem dX4_shamsAhead_74 : decode cX4_shamsAhead 74 = .ok (.getfield 24, 3) := by decide +kernel
theorem dX4_shamsAhead_77 : decode cX4_shamsAhead 77 = .ok (.iconst 0, 1) := by decide +kernel
theorem dX4_shamsAhead_78 : decode cX4_shamsAhead 78 = .ok (.iload_n 2, 1) := by decide +kernel
theorem dX4_shamsAhead_79 : decode cX4_shamsAhead 79 = .ok (.iastore, 1) := by decide +kernel
theorem dX4_shamsAhead_80 : decode cX4_shamsAhead 80 = .ok (.iconst 1, 1) := by decide +kernel
theorem dX4_shamsAhead_81 : decode cX4_shamsAhead 81 = .ok (.ireturn, 1) := by decide +kernel
theorem dX4_shamsAhead_82 : decode cX4_shamsAhead 82 = .ok (.iinc 2 1, 3) := by decide +kernel
theorem dX4_shamsAhead_85 : decode cX4_shamsAhead 85 = .ok (.goto (-26), 3) := by decide +kernel
theorem dX4_shamsAhead_88 : decode cX4_shamsAhead 88 = .ok (.iconst 0, 1) := by decide +kernel
theorem dX4_shamsAhead_89 : decode cX4_shamsAhead 89 = .ok (.istore_n 2, 1) := by decide +kernel
theorem dX4_shamsAhead_90 : decode cX4_shamsAhead 90 = .ok (.iload_n 2, 1) := by decide +kernel
theorem dX4_shamsAhead_91 : decode cX4_shamsAhead 91 = .ok (.bipush 64, 2) := by decide +kernel
theorem dX4_shamsAhead_93 : decode cX4_shamsAhead 93 = .ok (.if_icmp .ge 75, 3) := by decide +kernel
theorem dX4_shamsAhead_96 : decode cX4_shamsAhead 96 = .ok (.aload_n 0, 1) := by decide +kernel
theorem dX4_shamsAhead_97 : decode cX4_shamsAhead 97 = .ok (.getfield 34, 3) := by decide +kernel
theorem dX4_shamsAhead_100 : decode cX4_shamsAhead 100 = .ok (.iload_n 2, 1) := by decide +kernel
theorem dX4_shamsAhead_101 : decode cX4_shamsAhead 101 = .ok (.aload_n 0, 1) := by decide +kernel
theorem dX4_shamsAhead_102 : decode cX4_shamsAhead 102 = .ok (.getfield 34, 3) := by decide +kernel
theorem dX4_shamsAhead_105 : decode cX4_shamsAhead 105 = .ok (.aload_n 0, 1) := by decide +kernel
theorem dX4_shamsAhead_106 : decode cX4_shamsAhead 106 = .ok (.getfield 11, 3) := by decide +kernel
theorem dX4_shamsAhead_109 : decode cX4_shamsAhead 109 = .ok (.iload_n 2, 1) := by decide +kernel
theorem dX4_shamsAhead_110 : decode cX4_shamsAhead 110 = .ok (.aaload, 1) := by decide +kernel
theorem dX4_shamsAhead_111 : decode cX4_shamsAhead 111 = .ok (.invokevirtual 75, 3) := by decide +kernel
theorem dX4_shamsAhead_114 : decode cX4_shamsAhead 114 = .ok (.invokevirtual 82, 3) := by decide +kernel
theorem dX4_shamsAhead_117 : decode cX4_shamsAhead 117 = .ok (.iconst 0, 1) := by decide +kernel
theorem dX4_shamsAhead_118 : decode cX4_shamsAhead 118 = .ok (.istore_n 3, 1) := by decide +kernel
theorem dX4_shamsAhead_119 : decode cX4_shamsAhead 119 = .ok (.iload_n 3, 1) := by decide +kernel
theorem dX4_shamsAhead_120 : decode cX4_shamsAhead 120 = .ok (.bipush 64, 2) := by decide +kernel
theorem dX4_shamsAhead_122 : decode cX4_shamsAhead 122 = .ok (.if_icmp .ge 33, 3) := by decide +kernel
theorem dX4_shamsAhead_125 : decode cX4_shamsAhead 125 = .ok (.aload_n 0, 1) := by decide +kernel
theorem dX4_shamsAhead_126 : decode cX4_shamsAhead 126 = .ok (.iload_n 3, 1) := by decide +kernel
theorem dX4_shamsAhead_127 : decode cX4_shamsAhead 127 = .ok (.invokevirtual 97, 3) := by decide +kernel
theorem dX4_shamsAhead_130 : decode cX4_shamsAhead 130 = .ok (.ifCond .eq 19, 3) := by decide +kernel
theorem dX4_shamsAhead_133 : decode cX4_shamsAhead 133 = .ok (.aload_n 0, 1) := by decide +kernel
theorem dX4_shamsAhead_134 : decode cX4_shamsAhead 134 = .ok (.getfield 24, 3) := by decide +kernel
theorem dX4_shamsAhead_137 : decode cX4_shamsAhead 137 = .ok (.iconst 0, 1) := by decide +kernel
theorem dX4_shamsAhead_138 : decode cX4_shamsAhead 138 = .ok (.iload_n 2, 1) := by decide +kernel
theorem dX4_shamsAhead_139 : decode cX4_shamsAhead 139 = .ok (.iastore, 1) := by decide +kernel
theorem dX4_shamsAhead_140 : decode cX4_shamsAhead 140 = .ok (.aload_n 0, 1) := by decide +kernel
theorem dX4_shamsAhead_141 : decode cX4_shamsAhead 141 = .ok (.getfield 24, 3) := by decide +kernel
theorem dX4_shamsAhead_144 : decode cX4_shamsAhead 144 = .ok (.iconst 1, 1) := by decide +kernel
theorem dX4_shamsAhead_145 : decode cX4_shamsAhead 145 = .ok (.iload_n 3, 1) := by decide +kernel
theorem dX4_shamsAhead_146 : decode cX4_shamsAhead 146 = .ok (.iastore, 1) := by decide +kernel
theorem dX4_shamsAhead_147 : decode cX4_shamsAhead 147 = .ok (.iconst 2, 1) := by decide +kernel
theorem dX4_shamsAhead_148 : decode cX4_shamsAhead 148 = .ok (.ireturn, 1) := by decide +kernel
theorem dX4_shamsAhead_149 : decode cX4_shamsAhead 149 = .ok (.iinc 3 1, 3) := by decide +kernel
theorem dX4_shamsAhead_152 : decode cX4_shamsAhead 152 = .ok (.goto (-33), 3) := by decide +kernel
theorem dX4_shamsAhead_155 : decode cX4_shamsAhead 155 = .ok (.aload_n 0, 1) := by decide +kernel
theorem dX4_shamsAhead_156 : decode cX4_shamsAhead 156 = .ok (.getfield 34, 3) := by decide +kernel
theorem dX4_shamsAhead_159 : decode cX4_shamsAhead 159 = .ok (.invokevirtual 86, 3) := by decide +kernel
theorem dX4_shamsAhead_162 : decode cX4_shamsAhead 162 = .ok (.iinc 2 1, 3) := by decide +kernel
theorem dX4_shamsAhead_165 : decode cX4_shamsAhead 165 = .ok (.goto (-75), 3) := by decide +kernel
theorem dX4_shamsAhead_168 : decode cX4_shamsAhead 168 = .ok (.bipush (-5), 2) := by decide +kernel
theorem dX4_shamsAhead_170 : decode cX4_shamsAhead 170 = .ok (.ireturn, 1) := by decide +kernel
theorem dX4_winsBehind_0 : decode cX4_winsBehind 0 = .ok (.iload_n 1, 1) := by decide +kernel
theorem dX4_winsBehind_1 : decode cX4_winsBehind 1 = .ok (.ifCond .lt 9, 3) := by decide +kernel
theorem dX4_winsBehind_4 : decode cX4_winsBehind 4 = .ok (.iload_n 1, 1) := by decide +kernel
theorem dX4_winsBehind_5 : decode cX4_winsBehind 5 = .ok (.bipush 64, 2) := by decide +kernel
theorem dX4_winsBehind_7 : decode cX4_winsBehind 7 = .ok (.if_icmp .lt 5, 3) := by decide +kernel
theorem dX4_winsBehind_10 : decode cX4_winsBehind 10 = .ok (.iconst 0, 1) := by decide +kernel
theorem dX4_winsBehind_11 : decode cX4_winsBehind 11 = .ok (.ireturn, 1) := by decide +kernel
theorem dX4_winsBehind_12 : decode cX4_winsBehind 12 = .ok (.aload_n 0, 1) := by decide +kernel
theorem dX4_winsBehind_13 : decode cX4_winsBehind 13 = .ok (.getfield 34, 3) := by decide +kernel
theorem dX4_winsBehind_16 : decode cX4_winsBehind 16 = .ok (.iload_n 1, 1) := by decide +kernel
theorem dX4_winsBehind_17 : decode cX4_winsBehind 17 = .ok (.aload_n 0, 1) := by decide +kernel
theorem dX4_winsBehind_18 : decode cX4_winsBehind 18 = .ok (.getfield 34, 3) := by decide +kernel
theorem dX4_winsBehind_21 : decode cX4_winsBehind 21 = .ok (.aload_n 0, 1) := by decide +kernel
theorem dX4_winsBehind_22 : decode cX4_winsBehind 22 = .ok (.getfield 11, 3) := by decide +kernel
theorem dX4_winsBehind_25 : decode cX4_winsBehind 25 = .ok (.iload_n 1, 1) := by decide +kernel
theorem dX4_winsBehind_26 : decode cX4_winsBehind 26 = .ok (.aaload, 1) := by decide +kernel
theorem dX4_winsBehind_27 : decode cX4_winsBehind 27 = .ok (.invokevirtual 75, 3) := by decide +kernel
theorem dX4_winsBehind_30 : decode cX4_winsBehind 30 = .ok (.invokevirtual 82, 3) := by decide +kernel
theorem dX4_winsBehind_33 : decode cX4_winsBehind 33 = .ok (.aload_n 0, 1) := by decide +kernel
theorem dX4_winsBehind_34 : decode cX4_winsBehind 34 = .ok (.getfield 34, 3) := by decide +kernel
theorem dX4_winsBehind_37 : decode cX4_winsBehind 37 = .ok (.aload_n 0, 1) := by decide +kernel
theorem dX4_winsBehind_38 : decode cX4_winsBehind 38 = .ok (.getfield 34, 3) := by decide +kernel
theorem dX4_winsBehind_41 : decode cX4_winsBehind 41 = .ok (.getfield 100, 3) := by decide +kernel
theorem dX4_winsBehind_44 : decode cX4_winsBehind 44 = .ok (.invokevirtual 75, 3) := by decide +kernel
theorem dX4_winsBehind_47 : decode cX4_winsBehind 47 = .ok (.istore_n 2, 1) := by decide +kernel
theorem dX4_winsBehind_48 : decode cX4_winsBehind 48 = .ok (.aload_n 0, 1) := by decide +kernel
theorem dX4_winsBehind_49 : decode cX4_winsBehind 49 = .ok (.getfield 34, 3) := by decide +kernel
theorem dX4_winsBehind_52 : decode cX4_winsBehind 52 = .ok (.invokevirtual 86, 3) := by decide +kernel
theorem dX4_winsBehind_55 : decode cX4_winsBehind 55 = .ok (.iload_n 2, 1) := by decide +kernel
theorem dX4_winsBehind_56 : decode cX4_winsBehind 56 = .ok (.ireturn, 1) := by decide +kernel
theorem dX5_init_0 : decode cX5_init 0 = .ok (.aload_n 0, 1) := by decide +kernel
theorem dX5_init_1 : decode cX5_init 1 = .ok (.invokespecial 3, 3) := by decide +kernel
theorem dX5_init_4 : decode cX5_init 4 = .ok (.aload_n 0, 1) := by decide +kernel
theorem dX5_init_5 : decode cX5_init 5 = .ok (.iconst 0, 1) := by decide +kernel
theorem dX5_init_6 : decode cX5_init 6 = .ok (.putfield 9, 3) := by decide +kernel
theorem dX5_init_9 : decode cX5_init 9 = .ok (.aload_n 0, 1) := by decide +kernel
theorem dX5_init_10 : decode cX5_init 10 = .ok (.iconst 0, 1) := by decide +kernel
theorem dX5_init_11 : decode cX5_init 11 = .ok (.putfield 15, 3) := by decide +kernel
theorem dX5_init_14 : decode cX5_init 14 = .ok (.aload_n 0, 1) := by decide +kernel
theorem dX5_init_15 : decode cX5_init 15 = .ok (.iconst 0, 1) := by decide +kernel
theorem dX5_init_16 : decode cX5_init 16 = .ok (.putfield 18, 3) := by decide +kernel
theorem dX5_init_19 : decode cX5_init 19 = .ok (.aload_n 0, 1) := by decide +kernel
theorem dX5_init_20 : decode cX5_init 20 = .ok (.iconst 4, 1) := by decide +kernel
theorem dX5_init_21 : decode cX5_init 21 = .ok (.newarray .int, 2) := by decide +kernel
theorem dX5_init_23 : decode cX5_init 23 = .ok (.putfield 21, 3) := by decide +kernel
theorem dX5_init_26 : decode cX5_init 26 = .ok (.aload_n 0, 1) := by decide +kernel
theorem dX5_init_27 : decode cX5_init 27 = .ok (.sipush 256, 3) := by decide +kernel
theorem dX5_init_30 : decode cX5_init 30 = .ok (.newarray .int, 2) := by decide +kernel
theorem dX5_init_32 : decode cX5_init 32 = .ok (.putfield 25, 3) := by decide +kernel
theorem dX5_init_35 : decode cX5_init 35 = .ok (.aload_n 0, 1) := by decide +kernel
theorem dX5_init_36 : decode cX5_init 36 = .ok (.sipush 256, 3) := by decide +kernel
theorem dX5_init_39 : decode cX5_init 39 = .ok (.newarray .int, 2) := by decide +kernel
theorem dX5_init_41 : decode cX5_init 41 = .ok (.putfield 28, 3) := by decide +kernel
theorem dX5_init_44 : decode cX5_init 44 = .ok (.aload_n 0, 1) := by decide +kernel
theorem dX5_init_45 : decode cX5_init 45 = .ok (.iconst 0, 1) := by decide +kernel
theorem dX5_init_46 : decode cX5_init 46 = .ok (.putfield 31, 3) := by decide +kernel
theorem dX5_init_49 : decode cX5_init 49 = .ok (.aload_n 0, 1) := by decide +kernel
theorem dX5_init_50 : decode cX5_init 50 = .ok (.bipush 85, 2) := by decide +kernel
theorem dX5_init_52 : decode cX5_init 52 = .ok (.newarray .int, 2) := by decide +kernel
theorem dX5_init_54 : decode cX5_init 54 = .ok (.putfield 34, 3) := by decide +kernel
theorem dX5_init_57 : decode cX5_init 57 = .ok (.aload_n 0, 1) := by decide +kernel
theorem dX5_init_58 : decode cX5_init 58 = .ok (.bipush 85, 2) := by decide +kernel
theorem dX5_init_60 : decode cX5_init 60 = .ok (.newarray .boolean, 2) := by decide +kernel
theorem dX5_init_62 : decode cX5_init 62 = .ok (.putfield 37, 3) := by decide +kernel
theorem dX5_init_65 : decode cX5_init 65 = .ok (.aload_n 0, 1) := by decide +kernel
theorem dX5_init_66 : decode cX5_init 66 = .ok (.new 41, 3) := by decide +kernel
theorem dX5_init_69 : decode cX5_init 69 = .ok (.dup, 1) := by decide +kernel
theorem dX5_init_70 : decode cX5_init 70 = .ok (.invokespecial 43, 3) := by decide +kernel
theorem dX5_init_73 : decode cX5_init 73 = .ok (.putfield 44, 3) := by decide +kernel
theorem dX5_init_76 : decode cX5_init 76 = .ok (.aload_n 0, 1) := by decide +kernel
theorem dX5_init_77 : decode cX5_init 77 = .ok (.new 41, 3) := by decide +kernel
theorem dX5_init_80 : decode cX5_init 80 = .ok (.dup, 1) := by decide +kernel
theorem dX5_init_81 : decode cX5_init 81 = .ok (.invokespecial 43, 3) := by decide +kernel
theorem dX5_init_84 : decode cX5_init 84 = .ok (.putfield 48, 3) := by decide +kernel
theorem dX5_init_87 : decode cX5_init 87 = .ok (.return_, 1) := by decide +kernel
theorem dX5_open_0 : decode cX5_open 0 = .ok (.aload_n 0, 1) := by decide +kernel
theorem dX5_open_1 : decode cX5_open 1 = .ok (.aload_n 1, 1) := by decide +kernel
theorem dX5_open_2 : decode cX5_open 2 = .ok (.iload_n 3, 1) := by decide +kernel
theorem dX5_open_3 : decode cX5_open 3 = .ok (.invokevirtual 51, 3) := by decide +kernel
theorem dX5_open_6 : decode cX5_open 6 = .ok (.putfield 9, 3) := by decide +kernel
theorem dX5_open_9 : decode cX5_open 9 = .ok (.aload_n 0, 1) := by decide +kernel
theorem dX5_open_10 : decode cX5_open 10 = .ok (.aload_n 1, 1) := by decide +kernel
theorem dX5_open_11 : decode cX5_open 11 = .ok (.iload_n 3, 1) := by decide +kernel
theorem dX5_open_12 : decode cX5_open 12 = .ok (.invokevirtual 57, 3) := by decide +kernel
theorem dX5_open_15 : decode cX5_open 15 = .ok (.putfield 15, 3) := by decide +kernel
theorem dX5_open_18 : decode cX5_open 18 = .ok (.iconst 0, 1) := by decide +kernel
theorem dX5_open_19 : decode cX5_open 19 = .ok (.istore 4, 2) := by decide +kernel
theorem dX5_open_21 : decode cX5_open 21 = .ok (.iload 4, 2) := by decide +kernel
theorem dX5_open_23 : decode cX5_open 23 = .ok (.iconst 4, 1) := by decide +kernel
theorem dX5_open_24 : decode cX5_open 24 = .ok (.if_icmp .ge 47, 3) := by decide +kernel
theorem dX5_open_27 : decode cX5_open 27 = .ok (.iload_n 3, 1) := by decide +kernel
theorem dX5_open_28 : decode cX5_open 28 = .ok (.iconst 4, 1) := by decide +kernel
theorem dX5_open_29 : decode cX5_open 29 = .ok (.imul, 1) := by decide +kernel
theorem dX5_open_30 : decode cX5_open 30 = .ok (.iload 4, 2) := by decide +kernel
theorem dX5_open_32 : decode cX5_open 32 = .ok (.iadd, 1) := by decide +kernel
theorem dX5_open_33 : decode cX5_open 33 = .ok (.istore 5, 2) := by decide +kernel
theorem dX5_open_35 : decode cX5_open 35 = .ok (.aload_n 0, 1) := by decide +kernel
theorem dX5_open_36 : decode cX5_open 36 = .ok (.getfield 21, 3) := by decide +kernel
theorem dX5_open_39 : decode cX5_open 39 = .ok (.iload 4, 2) := by decide +kernel
theorem dX5_open_41 : decode cX5_open 41 = .ok (.iload 5, 2) := by decide +kernel
theorem dX5_open_43 : decode cX5_open 43 = .ok (.ifCond .lt 20, 3) := by decide +kernel
theorem dX5_open_46 : decode cX5_open 46 = .ok (.iload 5, 2) := by decide +kernel
theorem dX5_open_48 : decode cX5_open 48 = .ok (.bipush 16, 2) := by decide +kernel
theorem dX5_open_50 : decode cX5_open 50 = .ok (.if_icmp .ge 13, 3) := by decide +kernel
theorem dX5_open_53 : decode cX5_open 53 = .ok (.aload_n 1, 1) := by decide +kernel
theorem dX5_open_54 : decode cX5_open 54 = .ok (.getfield 60, 3) := by decide +kernel
theorem dX5_open_57 : decode cX5_open 57 = .ok (.iload 5, 2) := by decide +kernel
theorem dX5_open_59 : decode cX5_open 59 = .ok (.iaload, 1) := by decide +kernel
theorem dX5_open_60 : decode cX5_open 60 = .ok (.goto 4, 3) := by decide +kernel
theorem dX5_open_63 : decode cX5_open 63 = .ok (.iconst 0, 1) := by decide +kernel
theorem dX5_open_64 : decode cX5_open 64 = .ok (.iastore, 1) := by decide +kernel
theorem dX5_open_65 : decode cX5_open 65 = .ok (.iinc 4 1, 3) := by decide +kernel
theorem dX5_open_68 : decode cX5_open 68 = .ok (.goto (-47), 3) := by decide +kernel
theorem dX5_open_71 : decode cX5_open 71 = .ok (.aload_n 2, 1) := by decide +kernel
theorem dX5_open_72 : decode cX5_open 72 = .ok (.getfield 63, 3) := by decide +kernel
theorem dX5_open_75 : decode cX5_open 75 = .ok (.aload_n 0, 1) := by decide +kernel
theorem dX5_open_76 : decode cX5_open 76 = .ok (.getfield 25, 3) := by decide +kernel
theorem dX5_open_79 : decode cX5_open 79 = .ok (.invokestatic 68, 3) := by decide +kernel
theorem dX5_open_82 : decode cX5_open 82 = .ok (.aload_n 2, 1) := by decide +kernel
theorem dX5_open_83 : decode cX5_open 83 = .ok (.getfield 72, 3) := by decide +kernel
theorem dX5_open_86 : decode cX5_open 86 = .ok (.aload_n 0, 1) := by decide +kernel
theorem dX5_open_87 : decode cX5_open 87 = .ok (.getfield 28, 3) := by decide +kernel
theorem dX5_open_90 : decode cX5_open 90 = .ok (.invokestatic 68, 3) := by decide +kernel
theorem dX5_open_93 : decode cX5_open 93 = .ok (.aload_n 0, 1) := by decide +kernel
theorem dX5_open_94 : decode cX5_open 94 = .ok (.aload_n 2, 1) := by decide +kernel
theorem dX5_open_95 : decode cX5_open 95 = .ok (.getfield 75, 3) := by decide +kernel
theorem dX5_open_98 : decode cX5_open 98 = .ok (.invokevirtual 76, 3) := by decide +kernel
theorem dX5_open_101 : decode cX5_open 101 = .ok (.aload_n 0, 1) := by decide +kernel
theorem dX5_open_102 : decode cX5_open 102 = .ok (.iconst 0, 1) := by decide +kernel
theorem dX5_open_103 : decode cX5_open 103 = .ok (.putfield 31, 3) := by decide +kernel
theorem dX5_open_106 : decode cX5_open 106 = .ok (.iconst 0, 1) := by decide +kernel
theorem dX5_open_107 : decode cX5_open 107 = .ok (.istore 4, 2) := by decide +kernel
theorem dX5_open_109 : decode cX5_open 109 = .ok (.iload 4, 2) := by decide +kernel
theorem dX5_open_111 : decode cX5_open 111 = .ok (.aload_n 1, 1) := by decide +kernel
theorem dX5_open_112 : decode cX5_open 112 = .ok (.getfield 80, 3) := by decide +kernel
theorem dX5_open_115 : decode cX5_open 115 = .ok (.if_icmp .ge 51, 3) := by decide +kernel
theorem dX5_open_118 : decode cX5_open 118 = .ok (.iload 4, 2) := by decide +kernel
theorem dX5_open_120 : decode cX5_open 120 = .ok (.bipush 24, 2) := by decide +kernel
theorem dX5_open_122 : decode cX5_open 122 = .ok (.if_icmp .ge 44, 3) := by decide +kernel
theorem dX5_open_125 : decode cX5_open 125 = .ok (.aload_n 0, 1) := by decide +kernel
theorem dX5_open_126 : decode cX5_open 126 = .ok (.aload_n 1, 1) := by decide +kernel
theorem dX5_open_127 : decode cX5_open 127 = .ok (.aload_n 1, 1) := by decide +kernel
theorem dX5_open_128 : decode cX5_open 128 = .ok (.getfield 83, 3) := by decide +kernel
theorem dX5_open_131 : decode cX5_open 131 = .ok (.iload 4, 2) := by decide +kernel
theorem dX5_open_133 : decode cX5_open 133 = .ok (.iaload, 1) := by decide +kernel
theorem dX5_open_134 : decode cX5_open 134 = .ok (.iconst 1, 1) := by decide +kernel
theorem dX5_open_135 : decode cX5_open 135 = .ok (.ishr, 1) := by decide +kernel
theorem dX5_open_136 : decode cX5_open 136 = .ok (.invokevirtual 86, 3) := by decide +kernel
theorem dX5_open_139 : decode cX5_open 139 = .ok (.aload_n 1, 1) := by decide +kernel
theorem dX5_open_140 : decode cX5_open 140 = .ok (.getfield 83, 3) := by decide +kernel
theorem dX5_open_143 : decode cX5_open 143 = .ok (.iload 4, 2) := by decide +kernel
theorem dX5_open_145 : decode cX5_open 145 = .ok (.iaload, 1) := by decide +kernel
theorem dX5_open_146 : decode cX5_open 146 = .ok (.iconst 1, 1) := by decide +kernel
theorem dX5_open_147 : decode cX5_open 147 = .ok (.iand, 1) := by decide +kernel
theorem dX5_open_148 : decode cX5_open 148 = .ok (.iconst 1, 1) := by decide +kernel
theorem dX5_open_149 : decode cX5_open 149 = .ok (.if_icmp .ne 7, 3) := by decide +kernel
theorem dX5_open_152 : decode cX5_open 152 = .ok (.iconst 1, 1) := by decide +kernel
theorem dX5_open_153 : decode cX5_open 153 = .ok (.goto 4, 3) := by decide +kernel
theorem dX5_open_156 : decode cX5_open 156 = .ok (.iconst 0, 1) := by decide +kernel
theorem dX5_open_157 : decode cX5_open 157 = .ok (.invokevirtual 89, 3) := by decide +kernel
theorem dX5_open_160 : decode cX5_open 160 = .ok (.iinc 4 1, 3) := by decide +kernel
theorem dX5_open_163 : decode cX5_open 163 = .ok (.goto (-54), 3) := by decide +kernel
theorem dX5_open_166 : decode cX5_open 166 = .ok (.return_, 1) := by decide +kernel
theorem dX5_addUp_0 : decode cX5_addUp 0 = .ok (.aload_n 1, 1) := by decide +kernel
theorem dX5_addUp_1 : decode cX5_addUp 1 = .ok (.iconst 0, 1) := by decide +kernel
theorem dX5_addUp_2 : decode cX5_addUp 2 = .ok (.iconst 0, 1) := by decide +kernel
theorem dX5_addUp_3 : decode cX5_addUp 3 = .ok (.iastore, 1) := by decide +kernel
theorem dX5_addUp_4 : decode cX5_addUp 4 = .ok (.iconst 0, 1) := by decide +kernel
theorem dX5_addUp_5 : decode cX5_addUp 5 = .ok (.istore_n 2, 1) := by decide +kernel
theorem dX5_addUp_6 : decode cX5_addUp 6 = .ok (.iload_n 2, 1) := by decide +kernel
theorem dX5_addUp_7 : decode cX5_addUp 7 = .ok (.bipush 8, 2) := by decide +kernel
theorem dX5_addUp_9 : decode cX5_addUp 9 = .ok (.if_icmp .ge 42, 3) := by decide +kernel
theorem dX5_addUp_12 : decode cX5_addUp 12 = .ok (.iconst 1, 1) := by decide +kernel
theorem dX5_addUp_13 : decode cX5_addUp 13 = .ok (.iload_n 2, 1) := by decide +kernel
theorem dX5_addUp_14 : decode cX5_addUp 14 = .ok (.ishl, 1) := by decide +kernel
theorem dX5_addUp_15 : decode cX5_addUp 15 = .ok (.istore_n 3, 1) := by decide +kernel
theorem dX5_addUp_16 : decode cX5_addUp 16 = .ok (.iconst 0, 1) := by decide +kernel
theorem dX5_addUp_17 : decode cX5_addUp 17 = .ok (.istore 4, 2) := by decide +kernel
theorem dX5_addUp_19 : decode cX5_addUp 19 = .ok (.iload 4, 2) := by decide +kernel
theorem dX5_addUp_21 : decode cX5_addUp 21 = .ok (.iload_n 3, 1) := by decide +kernel
theorem dX5_addUp_22 : decode cX5_addUp 22 = .ok (.if_icmp .ge 23, 3) := by decide +kernel
theorem dX5_addUp_25 : decode cX5_addUp 25 = .ok (.aload_n 1, 1) := by decide +kernel
theorem dX5_addUp_26 : decode cX5_addUp 26 = .ok (.iload_n 3, 1) := by decide +kernel
theorem dX5_addUp_27 : decode cX5_addUp 27 = .ok (.iload 4, 2) := by decide +kernel
theorem dX5_addUp_29 : decode cX5_addUp 29 = .ok (.iadd, 1) := by decide +kernel
theorem dX5_addUp_30 : decode cX5_addUp 30 = .ok (.aload_n 1, 1) := by decide +kernel
theorem dX5_addUp_31 : decode cX5_addUp 31 = .ok (.iload 4, 2) := by decide +kernel
theorem dX5_addUp_33 : decode cX5_addUp 33 = .ok (.iaload, 1) := by decide +kernel
theorem dX5_addUp_34 : decode cX5_addUp 34 = .ok (.aload_n 0, 1) := by decide +kernel
theorem dX5_addUp_35 : decode cX5_addUp 35 = .ok (.iload_n 2, 1) := by decide +kernel
theorem dX5_addUp_36 : decode cX5_addUp 36 = .ok (.iaload, 1) := by decide +kernel
theorem dX5_addUp_37 : decode cX5_addUp 37 = .ok (.iadd, 1) := by decide +kernel
theorem dX5_addUp_38 : decode cX5_addUp 38 = .ok (.iastore, 1) := by decide +kernel
theorem dX5_addUp_39 : decode cX5_addUp 39 = .ok (.iinc 4 1, 3) := by decide +kernel
theorem dX5_addUp_42 : decode cX5_addUp 42 = .ok (.goto (-23), 3) := by decide +kernel
theorem dX5_addUp_45 : decode cX5_addUp 45 = .ok (.iinc 2 1, 3) := by decide +kernel
theorem dX5_addUp_48 : decode cX5_addUp 48 = .ok (.goto (-42), 3) := by decide +kernel
theorem dX5_addUp_51 : decode cX5_addUp 51 = .ok (.return_, 1) := by decide +kernel
theorem dX5_setBar_0 : decode cX5_setBar 0 = .ok (.aload_n 0, 1) := by decide +kernel
theorem dX5_setBar_1 : decode cX5_setBar 1 = .ok (.aload_n 0, 1) := by decide +kernel
theorem dX5_setBar_2 : decode cX5_setBar 2 = .ok (.getfield 9, 3) := by decide +kernel
theorem dX5_setBar_5 : decode cX5_setBar 5 = .ok (.iconst 5, 1) := by decide +kernel
theorem dX5_setBar_6 : decode cX5_setBar 6 = .ok (.if_icmp .ne 12, 3) := by decide +kernel
theorem dX5_setBar_9 : decode cX5_setBar 9 = .ok (.iload_n 1, 1) := by decide +kernel
theorem dX5_setBar_10 : decode cX5_setBar 10 = .ok (.aload_n 0, 1) := by decide +kernel
theorem dX5_setBar_11 : decode cX5_setBar 11 = .ok (.getfield 15, 3) := by decide +kernel
theorem dX5_setBar_14 : decode cX5_setBar 14 = .ok (.iadd, 1) := by decide +kernel
theorem dX5_setBar_15 : decode cX5_setBar 15 = .ok (.goto 4, 3) := by decide +kernel
theorem dX5_setBar_18 : decode cX5_setBar 18 = .ok (.iload_n 1, 1) := by decide +kernel
theorem dX5_setBar_19 : decode cX5_setBar 19 = .ok (.putfield 18, 3) := by decide +kernel
theorem dX5_setBar_22 : decode cX5_setBar 22 = .ok (.return_, 1) := by decide +kernel
theorem dX5_alike_0 : decode cX5_alike 0 = .ok (.aload_n 0, 1) := by decide +kernel
theorem dX5_alike_1 : decode cX5_alike 1 = .ok (.getfield 25, 3) := by decide +kernel
theorem dX5_alike_4 : decode cX5_alike 4 = .ok (.iload_n 1, 1) := by decide +kernel
theorem dX5_alike_5 : decode cX5_alike 5 = .ok (.iload_n 2, 1) := by decide +kernel
theorem dX5_alike_6 : decode cX5_alike 6 = .ok (.iand, 1) := by decide +kernel
theorem dX5_alike_7 : decode cX5_alike 7 = .ok (.sipush 255, 3) := by decide +kernel
theorem dX5_alike_10 : decode cX5_alike 10 = .ok (.iand, 1) := by decide +kernel
theorem dX5_alike_11 : decode cX5_alike 11 = .ok (.iaload, 1) := by decide +kernel
theorem dX5_alike_12 : decode cX5_alike 12 = .ok (.aload_n 0, 1) := by decide +kernel
theorem dX5_alike_13 : decode cX5_alike 13 = .ok (.getfield 28, 3) := by decide +kernel
theorem dX5_alike_16 : decode cX5_alike 16 = .ok (.iload_n 1, 1) := by decide +kernel
theorem dX5_alike_17 : decode cX5_alike 17 = .ok (.iload_n 2, 1) := by decide +kernel
theorem dX5_alike_18 : decode cX5_alike 18 = .ok (.ixor, 1) := by decide +kernel
theorem dX5_alike_19 : decode cX5_alike 19 = .ok (.sipush 255, 3) := by decide +kernel
theorem dX5_alike_22 : decode cX5_alike 22 = .ok (.iand, 1) := by decide +kernel
theorem dX5_alike_23 : decode cX5_alike 23 = .ok (.iaload, 1) := by decide +kernel
theorem dX5_alike_24 : decode cX5_alike 24 = .ok (.isub, 1) := by decide +kernel
theorem dX5_alike_25 : decode cX5_alike 25 = .ok (.ireturn, 1) := by decide +kernel
theorem dX5_push_0 : decode cX5_push 0 = .ok (.aload_n 0, 1) := by decide +kernel
theorem dX5_push_1 : decode cX5_push 1 = .ok (.getfield 31, 3) := by decide +kernel
theorem dX5_push_4 : decode cX5_push 4 = .ok (.ifCond .lt 42, 3) := by decide +kernel
theorem dX5_push_7 : decode cX5_push 7 = .ok (.aload_n 0, 1) := by decide +kernel
theorem dX5_push_8 : decode cX5_push 8 = .ok (.getfield 31, 3) := by decide +kernel
theorem dX5_push_11 : decode cX5_push 11 = .ok (.bipush 85, 2) := by decide +kernel
theorem dX5_push_13 : decode cX5_push 13 = .ok (.if_icmp .ge 33, 3) := by decide +kernel
theorem dX5_push_16 : decode cX5_push 16 = .ok (.aload_n 0, 1) := by decide +kernel
theorem dX5_push_17 : decode cX5_push 17 = .ok (.getfield 34, 3) := by decide +kernel
theorem dX5_push_20 : decode cX5_push 20 = .ok (.aload_n 0, 1) := by decide +kernel
theorem dX5_push_21 : decode cX5_push 21 = .ok (.getfield 31, 3) := by decide +kernel
theorem dX5_push_24 : decode cX5_push 24 = .ok (.iload_n 1, 1) := by decide +kernel
theorem dX5_push_25 : decode cX5_push 25 = .ok (.iastore, 1) := by decide +kernel
theorem dX5_push_26 : decode cX5_push 26 = .ok (.aload_n 0, 1) := by decide +kernel
theorem dX5_push_27 : decode cX5_push 27 = .ok (.getfield 37, 3) := by decide +kernel
theorem dX5_push_30 : decode cX5_push 30 = .ok (.aload_n 0, 1) := by decide +kernel
theorem dX5_push_31 : decode cX5_push 31 = .ok (.getfield 31, 3) := by decide +kernel
theorem dX5_push_34 : decode cX5_push 34 = .ok (.iload_n 2, 1) := by decide +kernel
theorem dX5_push_35 : decode cX5_push 35 = .ok (.bastore, 1) := by decide +kernel
theorem dX5_push_36 : decode cX5_push 36 = .ok (.aload_n 0, 1) := by decide +kernel
theorem dX5_push_37 : decode cX5_push 37 = .ok (.dup, 1) := by decide +kernel
theorem dX5_push_38 : decode cX5_push 38 = .ok (.getfield 31, 3) := by decide +kernel
theorem dX5_push_41 : decode cX5_push 41 = .ok (.iconst 1, 1) := by decide +kernel
theorem dX5_push_42 : decode cX5_push 42 = .ok (.iadd, 1) := by decide +kernel
theorem dX5_push_43 : decode cX5_push 43 = .ok (.putfield 31, 3) := by decide +kernel
theorem dX5_push_46 : decode cX5_push 46 = .ok (.return_, 1) := by decide +kernel
theorem dX5_pop_0 : decode cX5_pop 0 = .ok (.aload_n 0, 1) := by decide +kernel
theorem dX5_pop_1 : decode cX5_pop 1 = .ok (.iconst 0, 1) := by decide +kernel
theorem dX5_pop_2 : decode cX5_pop 2 = .ok (.aload_n 0, 1) := by decide +kernel
theorem dX5_pop_3 : decode cX5_pop 3 = .ok (.getfield 31, 3) := by decide +kernel
theorem dX5_pop_6 : decode cX5_pop 6 = .ok (.iconst 1, 1) := by decide +kernel
theorem dX5_pop_7 : decode cX5_pop 7 = .ok (.isub, 1) := by decide +kernel
theorem dX5_pop_8 : decode cX5_pop 8 = .ok (.invokestatic 93, 3) := by decide +kernel
theorem dX5_pop_11 : decode cX5_pop 11 = .ok (.putfield 31, 3) := by decide +kernel
theorem dX5_pop_14 : decode cX5_pop 14 = .ok (.return_, 1) := by decide +kernel
theorem dX5_turn_0 : decode cX5_turn 0 = .ok (.iload_n 1, 1) := by decide +kernel
theorem dX5_turn_1 : decode cX5_turn 1 = .ok (.ifCond .lt 37, 3) := by decide +kernel
theorem dX5_turn_4 : decode cX5_turn 4 = .ok (.iload_n 1, 1) := by decide +kernel
theorem dX5_turn_5 : decode cX5_turn 5 = .ok (.aload_n 0, 1) := by decide +kernel
theorem dX5_turn_6 : decode cX5_turn 6 = .ok (.getfield 31, 3) := by decide +kernel
theorem dX5_turn_9 : decode cX5_turn 9 = .ok (.if_icmp .ge 29, 3) := by decide +kernel
theorem dX5_turn_12 : decode cX5_turn 12 = .ok (.iload_n 1, 1) := by decide +kernel
theorem dX5_turn_13 : decode cX5_turn 13 = .ok (.bipush 85, 2) := by decide +kernel
theorem dX5_turn_15 : decode cX5_turn 15 = .ok (.if_icmp .ge 23, 3) := by decide +kernel
theorem dX5_turn_18 : decode cX5_turn 18 = .ok (.aload_n 0, 1) := by decide +kernel
theorem dX5_turn_19 : decode cX5_turn 19 = .ok (.getfield 37, 3) := by decide +kernel
theorem dX5_turn_22 : decode cX5_turn 22 = .ok (.iload_n 1, 1) := by decide +kernel
theorem dX5_turn_23 : decode cX5_turn 23 = .ok (.aload_n 0, 1) := by decide +kernel
theorem dX5_turn_24 : decode cX5_turn 24 = .ok (.getfield 37, 3) := by decide +kernel
theorem dX5_turn_27 : decode cX5_turn 27 = .ok (.iload_n 1, 1) := by decide +kernel
theorem dX5_turn_28 : decode cX5_turn 28 = .ok (.baload, 1) := by decide +kernel
theorem dX5_turn_29 : decode cX5_turn 29 = .ok (.ifCond .ne 7, 3) := by decide +kernel
theorem dX5_turn_32 : decode cX5_turn 32 = .ok (.iconst 1, 1) := by decide +kernel
theorem dX5_turn_33 : decode cX5_turn 33 = .ok (.goto 4, 3) := by decide +kernel
theorem dX5_turn_36 : decode cX5_turn 36 = .ok (.iconst 0, 1) := by decide +kernel
theorem dX5_turn_37 : decode cX5_turn 37 = .ok (.bastore, 1) := by decide +kernel
theorem dX5_turn_38 : decode cX5_turn 38 = .ok (.return_, 1) := by decide +kernel
theorem dX5_wasFor_0 : decode cX5_wasFor 0 = .ok (.iload_n 1, 1) := by decide +kernel
theorem dX5_wasFor_1 : decode cX5_wasFor 1 = .ok (.ifCond .lt 30, 3) := by decide +kernel
theorem dX5_wasFor_4 : decode cX5_wasFor 4 = .ok (.iload_n 1, 1) := by decide +kernel
theorem dX5_wasFor_5 : decode cX5_wasFor 5 = .ok (.aload_n 0, 1) := by decide +kernel
theorem dX5_wasFor_6 : decode cX5_wasFor 6 = .ok (.getfield 31, 3) := by decide +kernel
theorem dX5_wasFor_9 : decode cX5_wasFor 9 = .ok (.if_icmp .ge 22, 3) := by decide +kernel
theorem dX5_wasFor_12 : decode cX5_wasFor 12 = .ok (.iload_n 1, 1) := by decide +kernel
theorem dX5_wasFor_13 : decode cX5_wasFor 13 = .ok (.bipush 85, 2) := by decide +kernel
theorem dX5_wasFor_15 : decode cX5_wasFor 15 = .ok (.if_icmp .ge 16, 3) := by decide +kernel
theorem dX5_wasFor_18 : decode cX5_wasFor 18 = .ok (.aload_n 0, 1) := by decide +kernel
theorem dX5_wasFor_19 : decode cX5_wasFor 19 = .ok (.getfield 37, 3) := by decide +kernel
theorem dX5_wasFor_22 : decode cX5_wasFor 22 = .ok (.iload_n 1, 1) := by decide +kernel
theorem dX5_wasFor_23 : decode cX5_wasFor 23 = .ok (.baload, 1) := by decide +kernel
theorem dX5_wasFor_24 : decode cX5_wasFor 24 = .ok (.ifCond .eq 7, 3) := by decide +kernel
theorem dX5_wasFor_27 : decode cX5_wasFor 27 = .ok (.iconst 1, 1) := by decide +kernel
theorem dX5_wasFor_28 : decode cX5_wasFor 28 = .ok (.goto 4, 3) := by decide +kernel
theorem dX5_wasFor_31 : decode cX5_wasFor 31 = .ok (.iconst 0, 1) := by decide +kernel
theorem dX5_wasFor_32 : decode cX5_wasFor 32 = .ok (.ireturn, 1) := by decide +kernel
theorem dX5_follow_0 : decode cX5_follow 0 = .ok (.iload_n 2, 1) := by decide +kernel
theorem dX5_follow_1 : decode cX5_follow 1 = .ok (.aload_n 0, 1) := by decide +kernel
theorem dX5_follow_2 : decode cX5_follow 2 = .ok (.getfield 31, 3) := by decide +kernel
theorem dX5_follow_5 : decode cX5_follow 5 = .ok (.invokestatic 99, 3) := by decide +kernel
theorem dX5_follow_8 : decode cX5_follow 8 = .ok (.bipush 85, 2) := by decide +kernel
theorem dX5_follow_10 : decode cX5_follow 10 = .ok (.invokestatic 99, 3) := by decide +kernel
theorem dX5_follow_13 : decode cX5_follow 13 = .ok (.istore_n 3, 1) := by decide +kernel
theorem dX5_follow_14 : decode cX5_follow 14 = .ok (.iconst 0, 1) := by decide +kernel
theorem dX5_follow_15 : decode cX5_follow 15 = .ok (.aload_n 1, 1) := by decide +kernel
theorem dX5_follow_16 : decode cX5_follow 16 = .ok (.getfield 102, 3) := by decide +kernel
theorem dX5_follow_19 : decode cX5_follow 19 = .ok (.invokestatic 93, 3) := by decide +kernel
theorem dX5_follow_22 : decode cX5_follow 22 = .ok (.istore 4, 2) := by decide +kernel
theorem dX5_follow_24 : decode cX5_follow 24 = .ok (.iload 4, 2) := by decide +kernel
theorem dX5_follow_26 : decode cX5_follow 26 = .ok (.iload_n 3, 1) := by decide +kernel
theorem dX5_follow_27 : decode cX5_follow 27 = .ok (.if_icmp .ge 58, 3) := by decide +kernel
theorem dX5_follow_30 : decode cX5_follow 30 = .ok (.aload_n 0, 1) := by decide +kernel
theorem dX5_follow_31 : decode cX5_follow 31 = .ok (.aload_n 1, 1) := by decide +kernel
theorem dX5_follow_32 : decode cX5_follow 32 = .ok (.getfield 105, 3) := by decide +kernel
theorem dX5_follow_35 : decode cX5_follow 35 = .ok (.aload_n 0, 1) := by decide +kernel
theorem dX5_follow_36 : decode cX5_follow 36 = .ok (.getfield 34, 3) := by decide +kernel
theorem dX5_follow_39 : decode cX5_follow 39 = .ok (.iload 4, 2) := by decide +kernel
theorem dX5_follow_41 : decode cX5_follow 41 = .ok (.iaload, 1) := by decide +kernel
theorem dX5_follow_42 : decode cX5_follow 42 = .ok (.invokevirtual 107, 3) := by decide +kernel
theorem dX5_follow_45 : decode cX5_follow 45 = .ok (.istore 5, 2) := by decide +kernel
theorem dX5_follow_47 : decode cX5_follow 47 = .ok (.iload 5, 2) := by decide +kernel
theorem dX5_follow_49 : decode cX5_follow 49 = .ok (.aload_n 0, 1) := by decide +kernel
theorem dX5_follow_50 : decode cX5_follow 50 = .ok (.getfield 18, 3) := by decide +kernel
theorem dX5_follow_53 : decode cX5_follow 53 = .ok (.if_icmp .lt 18, 3) := by decide +kernel
theorem dX5_follow_56 : decode cX5_follow 56 = .ok (.aload_n 1, 1) := by decide +kernel
theorem dX5_follow_57 : decode cX5_follow 57 = .ok (.iload 4, 2) := by decide +kernel
theorem dX5_follow_59 : decode cX5_follow 59 = .ok (.iload 5, 2) := by decide +kernel
theorem dX5_follow_61 : decode cX5_follow 61 = .ok (.aload_n 0, 1) := by decide +kernel
theorem dX5_follow_62 : decode cX5_follow 62 = .ok (.getfield 37, 3) := by decide +kernel
theorem dX5_follow_65 : decode cX5_follow 65 = .ok (.iload 4, 2) := by decide +kernel
theorem dX5_follow_67 : decode cX5_follow 67 = .ok (.baload, 1) := by decide +kernel
theorem dX5_follow_68 : decode cX5_follow 68 = .ok (.invokevirtual 110, 3) := by decide +kernel
theorem dX5_follow_71 : decode cX5_follow 71 = .ok (.aload_n 1, 1) := by decide +kernel
theorem dX5_follow_72 : decode cX5_follow 72 = .ok (.iload 4, 2) := by decide +kernel
theorem dX5_follow_74 : decode cX5_follow 74 = .ok (.iconst 1, 1) := by decide +kernel
theorem dX5_follow_75 : decode cX5_follow 75 = .ok (.iadd, 1) := by decide +kernel
theorem dX5_follow_76 : decode cX5_follow 76 = .ok (.putfield 102, 3) := by decide +kernel
theorem dX5_follow_79 : decode cX5_follow 79 = .ok (.iinc 4 1, 3) := by decide +kernel
theorem dX5_follow_82 : decode cX5_follow 82 = .ok (.goto (-58), 3) := by decide +kernel
theorem dX5_follow_85 : decode cX5_follow 85 = .ok (.return_, 1) := by decide +kernel
theorem dX5_rowTells_0 : decode cX5_rowTells 0 = .ok (.aload_n 0, 1) := by decide +kernel
theorem dX5_rowTells_1 : decode cX5_rowTells 1 = .ok (.getfield 9, 3) := by decide +kernel
theorem dX5_rowTells_4 : decode cX5_rowTells 4 = .ok (.bipush 6, 2) := by decide +kernel
theorem dX5_rowTells_6 : decode cX5_rowTells 6 = .ok (.if_icmp .ne 17, 3) := by decide +kernel
theorem dX5_rowTells_9 : decode cX5_rowTells 9 = .ok (.aload_n 0, 1) := by decide +kernel
theorem dX5_rowTells_10 : decode cX5_rowTells 10 = .ok (.getfield 21, 3) := by decide +kernel
theorem dX5_rowTells_13 : decode cX5_rowTells 13 = .ok (.iload_n 1, 1) := by decide +kernel
theorem dX5_rowTells_14 : decode cX5_rowTells 14 = .ok (.invokestatic 114, 3) := by decide +kernel
theorem dX5_rowTells_17 : decode cX5_rowTells 17 = .ok (.iconst 3, 1) := by decide +kernel
theorem dX5_rowTells_18 : decode cX5_rowTells 18 = .ok (.iand, 1) := by decide +kernel
theorem dX5_rowTells_19 : decode cX5_rowTells 19 = .ok (.iaload, 1) := by decide +kernel
theorem dX5_rowTells_20 : decode cX5_rowTells 20 = .ok (.goto 4, 3) := by decide +kernel
theorem dX5_rowTells_23 : decode cX5_rowTells 23 = .ok (.iconst 0, 1) := by decide +kernel
theorem dX5_rowTells_24 : decode cX5_rowTells 24 = .ok (.ireturn, 1) := by decide +kernel
theorem dX5_isOpen_0 : decode cX5_isOpen 0 = .ok (.aload_n 0, 1) := by decide +kernel
theorem dX5_isOpen_1 : decode cX5_isOpen 1 = .ok (.aload_n 1, 1) := by decide +kernel
theorem dX5_isOpen_2 : decode cX5_isOpen 2 = .ok (.getfield 105, 3) := by decide +kernel
theorem dX5_isOpen_5 : decode cX5_isOpen 5 = .ok (.invokevirtual 119, 3) := by decide +kernel
theorem dX5_isOpen_8 : decode cX5_isOpen 8 = .ok (.ifCond .ne 14, 3) := by decide +kernel
theorem dX5_isOpen_11 : decode cX5_isOpen 11 = .ok (.aload_n 1, 1) := by decide +kernel
theorem dX5_isOpen_12 : decode cX5_isOpen 12 = .ok (.invokevirtual 122, 3) := by decide +kernel
theorem dX5_isOpen_15 : decode cX5_isOpen 15 = .ok (.ifCond .ne 7, 3) := by decide +kernel
theorem dX5_isOpen_18 : decode cX5_isOpen 18 = .ok (.iconst 1, 1) := by decide +kernel
theorem dX5_isOpen_19 : decode cX5_isOpen 19 = .ok (.goto 4, 3) := by decide +kernel
theorem dX5_isOpen_22 : decode cX5_isOpen 22 = .ok (.iconst 0, 1) := by decide +kernel
theorem dX5_isOpen_23 : decode cX5_isOpen 23 = .ok (.ireturn, 1) := by decide +kernel
theorem dX5_isFor_0 : decode cX5_isFor 0 = .ok (.aload_n 0, 1) := by decide +kernel
theorem dX5_isFor_1 : decode cX5_isFor 1 = .ok (.aload_n 1, 1) := by decide +kernel
theorem dX5_isFor_2 : decode cX5_isFor 2 = .ok (.getfield 105, 3) := by decide +kernel
theorem dX5_isFor_5 : decode cX5_isFor 5 = .ok (.invokevirtual 119, 3) := by decide +kernel
theorem dX5_isFor_8 : decode cX5_isFor 8 = .ok (.istore_n 2, 1) := by decide +kernel
theorem dX5_isFor_9 : decode cX5_isFor 9 = .ok (.iload_n 2, 1) := by decide +kernel
theorem dX5_isFor_10 : decode cX5_isFor 10 = .ok (.ifCond .eq 14, 3) := by decide +kernel
theorem dX5_isFor_13 : decode cX5_isFor 13 = .ok (.iload_n 2, 1) := by decide +kernel
theorem dX5_isFor_14 : decode cX5_isFor 14 = .ok (.iconst 1, 1) := by decide +kernel
theorem dX5_isFor_15 : decode cX5_isFor 15 = .ok (.if_icmp .ne 7, 3) := by decide +kernel
theorem dX5_isFor_18 : decode cX5_isFor 18 = .ok (.iconst 1, 1) := by decide +kernel
theorem dX5_isFor_19 : decode cX5_isFor 19 = .ok (.goto 4, 3) := by decide +kernel
theorem dX5_isFor_22 : decode cX5_isFor 22 = .ok (.iconst 0, 1) := by decide +kernel
theorem dX5_isFor_23 : decode cX5_isFor 23 = .ok (.ireturn, 1) := by decide +kernel
theorem dX5_isFor_24 : decode cX5_isFor 24 = .ok (.aload_n 1, 1) := by decide +kernel
theorem dX5_isFor_25 : decode cX5_isFor 25 = .ok (.invokevirtual 122, 3) := by decide +kernel
theorem dX5_isFor_28 : decode cX5_isFor 28 = .ok (.ifCond .ne 19, 3) := by decide +kernel
theorem dX5_isFor_31 : decode cX5_isFor 31 = .ok (.aload_n 0, 1) := by decide +kernel
theorem dX5_isFor_32 : decode cX5_isFor 32 = .ok (.getfield 15, 3) := by decide +kernel
theorem dX5_isFor_35 : decode cX5_isFor 35 = .ok (.iconst 1, 1) := by decide +kernel
theorem dX5_isFor_36 : decode cX5_isFor 36 = .ok (.iand, 1) := by decide +kernel
theorem dX5_isFor_37 : decode cX5_isFor 37 = .ok (.iconst 1, 1) := by decide +kernel
theorem dX5_isFor_38 : decode cX5_isFor 38 = .ok (.if_icmp .ne 7, 3) := by decide +kernel
theorem dX5_isFor_41 : decode cX5_isFor 41 = .ok (.iconst 1, 1) := by decide +kernel
theorem dX5_isFor_42 : decode cX5_isFor 42 = .ok (.goto 4, 3) := by decide +kernel
theorem dX5_isFor_45 : decode cX5_isFor 45 = .ok (.iconst 0, 1) := by decide +kernel
theorem dX5_isFor_46 : decode cX5_isFor 46 = .ok (.ireturn, 1) := by decide +kernel
theorem dX5_isFor_47 : decode cX5_isFor 47 = .ok (.aload_n 0, 1) := by decide +kernel
theorem dX5_isFor_48 : decode cX5_isFor 48 = .ok (.getfield 9, 3) := by decide +kernel
theorem dX5_isFor_51 : decode cX5_isFor 51 = .ok (.tableswitch 158 1 6 #[37, 54, 71, 118, 54, 71], 37) := by decide +kernel
theorem dX5_isFor_88 : decode cX5_isFor 88 = .ok (.aload_n 0, 1) := by decide +kernel
theorem dX5_isFor_89 : decode cX5_isFor 89 = .ok (.aload_n 1, 1) := by decide +kernel
theorem dX5_isFor_90 : decode cX5_isFor 90 = .ok (.getfield 126, 3) := by decide +kernel
theorem dX5_isFor_93 : decode cX5_isFor 93 = .ok (.invokevirtual 129, 3) := by decide +kernel
theorem dX5_isFor_96 : decode cX5_isFor 96 = .ok (.ifCond .ne 7, 3) := by decide +kernel
theorem dX5_isFor_99 : decode cX5_isFor 99 = .ok (.iconst 1, 1) := by decide +kernel
theorem dX5_isFor_100 : decode cX5_isFor 100 = .ok (.goto 4, 3) := by decide +kernel
theorem dX5_isFor_103 : decode cX5_isFor 103 = .ok (.iconst 0, 1) := by decide +kernel
theorem dX5_isFor_104 : decode cX5_isFor 104 = .ok (.ireturn, 1) := by decide +kernel
theorem dX5_isFor_105 : decode cX5_isFor 105 = .ok (.aload_n 0, 1) := by decide +kernel
theorem dX5_isFor_106 : decode cX5_isFor 106 = .ok (.aload_n 1, 1) := by decide +kernel
theorem dX5_isFor_107 : decode cX5_isFor 107 = .ok (.getfield 133, 3) := by decide +kernel
theorem dX5_isFor_110 : decode cX5_isFor 110 = .ok (.invokevirtual 129, 3) := by decide +kernel
theorem dX5_isFor_113 : decode cX5_isFor 113 = .ok (.ifCond .ne 7, 3) := by decide +kernel
theorem dX5_isFor_116 : decode cX5_isFor 116 = .ok (.iconst 1, 1) := by decide +kernel
theorem dX5_isFor_117 : decode cX5_isFor 117 = .ok (.goto 4, 3) := by decide +kernel
theorem dX5_isFor_120 : decode cX5_isFor 120 = .ok (.iconst 0, 1) := by decide +kernel
theorem dX5_isFor_121 : decode cX5_isFor 121 = .ok (.ireturn, 1) := by decide +kernel
theorem dX5_isFor_122 : decode cX5_isFor 122 = .ok (.aload_n 1, 1) := by decide +kernel
theorem dX5_isFor_123 : decode cX5_isFor 123 = .ok (.getfield 136, 3) := by decide +kernel
theorem dX5_isFor_126 : decode cX5_isFor 126 = .ok (.aload_n 1, 1) := by decide +kernel
theorem dX5_isFor_127 : decode cX5_isFor 127 = .ok (.getfield 139, 3) := by decide +kernel
theorem dX5_isFor_130 : decode cX5_isFor 130 = .ok (.if_icmp .ne 22, 3) := by decide +kernel
theorem dX5_isFor_133 : decode cX5_isFor 133 = .ok (.aload_n 0, 1) := by decide +kernel
theorem dX5_isFor_134 : decode cX5_isFor 134 = .ok (.aload_n 1, 1) := by decide +kernel
theorem dX5_isFor_135 : decode cX5_isFor 135 = .ok (.getfield 142, 3) := by decide +kernel
theorem dX5_isFor_138 : decode cX5_isFor 138 = .ok (.invokevirtual 129, 3) := by decide +kernel
theorem dX5_isFor_141 : decode cX5_isFor 141 = .ok (.ifCond .ne 7, 3) := by decide +kernel
theorem dX5_isFor_144 : decode cX5_isFor 144 = .ok (.iconst 1, 1) := by decide +kernel
theorem dX5_isFor_145 : decode cX5_isFor 145 = .ok (.goto 23, 3) := by decide +kernel
theorem dX5_isFor_148 : decode cX5_isFor 148 = .ok (.iconst 0, 1) := by decide +kernel
theorem dX5_isFor_149 : decode cX5_isFor 149 = .ok (.goto 19, 3) := by decide +kernel
theorem dX5_isFor_152 : decode cX5_isFor 152 = .ok (.aload_n 1, 1) := by decide +kernel
theorem dX5_isFor_153 : decode cX5_isFor 153 = .ok (.getfield 139, 3) := by decide +kernel
theorem dX5_isFor_156 : decode cX5_isFor 156 = .ok (.aload_n 1, 1) := by decide +kernel
theorem dX5_isFor_157 : decode cX5_isFor 157 = .ok (.getfield 136, 3) := by decide +kernel
theorem dX5_isFor_160 : decode cX5_isFor 160 = .ok (.if_icmp .le 7, 3) := by decide +kernel
theorem dX5_isFor_163 : decode cX5_isFor 163 = .ok (.iconst 1, 1) := by decide +kernel
theorem dX5_isFor_164 : decode cX5_isFor 164 = .ok (.goto 4, 3) := by decide +kernel
theorem dX5_isFor_167 : decode cX5_isFor 167 = .ok (.iconst 0, 1) := by decide +kernel
theorem dX5_isFor_168 : decode cX5_isFor 168 = .ok (.ireturn, 1) := by decide +kernel
theorem dX5_isFor_169 : decode cX5_isFor 169 = .ok (.aload_n 1, 1) := by decide +kernel
theorem dX5_isFor_170 : decode cX5_isFor 170 = .ok (.invokevirtual 145, 3) := by decide +kernel
theorem dX5_isFor_173 : decode cX5_isFor 173 = .ok (.ifCond .eq 19, 3) := by decide +kernel
theorem dX5_isFor_176 : decode cX5_isFor 176 = .ok (.aload_n 0, 1) := by decide +kernel
theorem dX5_isFor_177 : decode cX5_isFor 177 = .ok (.getfield 15, 3) := by decide +kernel
theorem dX5_isFor_180 : decode cX5_isFor 180 = .ok (.iconst 4, 1) := by decide +kernel
theorem dX5_isFor_181 : decode cX5_isFor 181 = .ok (.if_icmp .le 7, 3) := by decide +kernel
theorem dX5_isFor_184 : decode cX5_isFor 184 = .ok (.iconst 1, 1) := by decide +kernel
theorem dX5_isFor_185 : decode cX5_isFor 185 = .ok (.goto 23, 3) := by decide +kernel
theorem dX5_isFor_188 : decode cX5_isFor 188 = .ok (.iconst 0, 1) := by decide +kernel
theorem dX5_isFor_189 : decode cX5_isFor 189 = .ok (.goto 19, 3) := by decide +kernel
theorem dX5_isFor_192 : decode cX5_isFor 192 = .ok (.aload_n 0, 1) := by decide +kernel
theorem dX5_isFor_193 : decode cX5_isFor 193 = .ok (.aload_n 1, 1) := by decide +kernel
theorem dX5_isFor_194 : decode cX5_isFor 194 = .ok (.getfield 126, 3) := by decide +kernel
theorem dX5_isFor_197 : decode cX5_isFor 197 = .ok (.invokevirtual 129, 3) := by decide +kernel
theorem dX5_isFor_200 : decode cX5_isFor 200 = .ok (.ifCond .ne 7, 3) := by decide +kernel
theorem dX5_isFor_203 : decode cX5_isFor 203 = .ok (.iconst 1, 1) := by decide +kernel
theorem dX5_isFor_204 : decode cX5_isFor 204 = .ok (.goto 4, 3) := by decide +kernel
theorem dX5_isFor_207 : decode cX5_isFor 207 = .ok (.iconst 0, 1) := by decide +kernel
theorem dX5_isFor_208 : decode cX5_isFor 208 = .ok (.ireturn, 1) := by decide +kernel
theorem dX5_isFor_209 : decode cX5_isFor 209 = .ok (.aload_n 0, 1) := by decide +kernel
theorem dX5_isFor_210 : decode cX5_isFor 210 = .ok (.aload_n 1, 1) := by decide +kernel
theorem dX5_isFor_211 : decode cX5_isFor 211 = .ok (.getfield 142, 3) := by decide +kernel
theorem dX5_isFor_214 : decode cX5_isFor 214 = .ok (.invokevirtual 129, 3) := by decide +kernel
theorem dX5_isFor_217 : decode cX5_isFor 217 = .ok (.ifCond .ne 7, 3) := by decide +kernel
theorem dX5_isFor_220 : decode cX5_isFor 220 = .ok (.iconst 1, 1) := by decide +kernel
theorem dX5_isFor_221 : decode cX5_isFor 221 = .ok (.goto 4, 3) := by decide +kernel
theorem dX5_isFor_224 : decode cX5_isFor 224 = .ok (.iconst 0, 1) := by decide +kernel
theorem dX5_isFor_225 : decode cX5_isFor 225 = .ok (.ireturn, 1) := by decide +kernel
theorem dX5_decidedBy_0 : decode cX5_decidedBy 0 = .ok (.aload_n 1, 1) := by decide +kernel
theorem dX5_decidedBy_1 : decode cX5_decidedBy 1 = .ok (.invokevirtual 122, 3) := by decide +kernel
theorem dX5_decidedBy_4 : decode cX5_decidedBy 4 = .ok (.ifCond .ne 6, 3) := by decide +kernel
theorem dX5_decidedBy_7 : decode cX5_decidedBy 7 = .ok (.bipush (-5), 2) := by decide +kernel
theorem dX5_decidedBy_9 : decode cX5_decidedBy 9 = .ok (.ireturn, 1) := by decide +kernel
theorem dX5_decidedBy_10 : decode cX5_decidedBy 10 = .ok (.aload_n 0, 1) := by decide +kernel
theorem dX5_decidedBy_11 : decode cX5_decidedBy 11 = .ok (.getfield 9, 3) := by decide +kernel
theorem dX5_decidedBy_14 : decode cX5_decidedBy 14 = .ok (.tableswitch 68 1 6 #[38, 43, 48, 51, 43, 48], 38) := by decide +kernel
theorem dX5_decidedBy_52 : decode cX5_decidedBy 52 = .ok (.aload_n 1, 1) := by decide +kernel
theorem dX5_decidedBy_53 : decode cX5_decidedBy 53 = .ok (.getfield 126, 3) := by decide +kernel
theorem dX5_decidedBy_56 : decode cX5_decidedBy 56 = .ok (.ireturn, 1) := by decide +kernel
theorem dX5_decidedBy_57 : decode cX5_decidedBy 57 = .ok (.aload_n 1, 1) := by decide +kernel
theorem dX5_decidedBy_58 : decode cX5_decidedBy 58 = .ok (.getfield 133, 3) := by decide +kernel
theorem dX5_decidedBy_61 : decode cX5_decidedBy 61 = .ok (.ireturn, 1) := by decide +kernel
theorem dX5_decidedBy_62 : decode cX5_decidedBy 62 = .ok (.bipush (-5), 2) := by decide +kernel
theorem dX5_decidedBy_64 : decode cX5_decidedBy 64 = .ok (.ireturn, 1) := by decide +kernel
theorem dX5_decidedBy_65 : decode cX5_decidedBy 65 = .ok (.aload_n 1, 1) := by decide +kernel
theorem dX5_decidedBy_66 : decode cX5_decidedBy 66 = .ok (.invokevirtual 145, 3) := by decide +kernel
theorem dX5_decidedBy_69 : decode cX5_decidedBy 69 = .ok (.ifCond .eq 8, 3) := by decide +kernel
theorem dX5_decidedBy_72 : decode cX5_decidedBy 72 = .ok (.bipush (-5), 2) := by decide +kernel
theorem dX5_decidedBy_74 : decode cX5_decidedBy 74 = .ok (.goto 7, 3) := by decide +kernel
theorem dX5_decidedBy_77 : decode cX5_decidedBy 77 = .ok (.aload_n 1, 1) := by decide +kernel
theorem dX5_decidedBy_78 : decode cX5_decidedBy 78 = .ok (.getfield 126, 3) := by decide +kernel
theorem dX5_decidedBy_81 : decode cX5_decidedBy 81 = .ok (.ireturn, 1) := by decide +kernel
theorem dX5_decidedBy_82 : decode cX5_decidedBy 82 = .ok (.aload_n 1, 1) := by decide +kernel
theorem dX5_decidedBy_83 : decode cX5_decidedBy 83 = .ok (.getfield 142, 3) := by decide +kernel
theorem dX5_decidedBy_86 : decode cX5_decidedBy 86 = .ok (.ireturn, 1) := by decide +kernel
theorem dX5_wins_0 : decode cX5_wins 0 = .ok (.aload_n 0, 1) := by decide +kernel
theorem dX5_wins_1 : decode cX5_wins 1 = .ok (.getfield 44, 3) := by decide +kernel
theorem dX5_wins_4 : decode cX5_wins 4 = .ok (.iload_n 1, 1) := by decide +kernel
theorem dX5_wins_5 : decode cX5_wins 5 = .ok (.invokevirtual 149, 3) := by decide +kernel
theorem dX5_wins_8 : decode cX5_wins 8 = .ok (.aload_n 0, 1) := by decide +kernel
theorem dX5_wins_9 : decode cX5_wins 9 = .ok (.aload_n 0, 1) := by decide +kernel
theorem dX5_wins_10 : decode cX5_wins 10 = .ok (.getfield 44, 3) := by decide +kernel
theorem dX5_wins_13 : decode cX5_wins 13 = .ok (.aload_n 0, 1) := by decide +kernel
theorem dX5_wins_14 : decode cX5_wins 14 = .ok (.getfield 31, 3) := by decide +kernel
theorem dX5_wins_17 : decode cX5_wins 17 = .ok (.invokevirtual 152, 3) := by decide +kernel
theorem dX5_wins_20 : decode cX5_wins 20 = .ok (.aload_n 0, 1) := by decide +kernel
theorem dX5_wins_21 : decode cX5_wins 21 = .ok (.aload_n 0, 1) := by decide +kernel
theorem dX5_wins_22 : decode cX5_wins 22 = .ok (.getfield 44, 3) := by decide +kernel
theorem dX5_wins_25 : decode cX5_wins 25 = .ok (.invokevirtual 156, 3) := by decide +kernel
theorem dX5_wins_28 : decode cX5_wins 28 = .ok (.ireturn, 1) := by decide +kernel
theorem dX5_now_0 : decode cX5_now 0 = .ok (.aload_n 0, 1) := by decide +kernel
theorem dX5_now_1 : decode cX5_now 1 = .ok (.getfield 48, 3) := by decide +kernel
theorem dX5_now_4 : decode cX5_now 4 = .ok (.aload_n 1, 1) := by decide +kernel
theorem dX5_now_5 : decode cX5_now 5 = .ok (.invokevirtual 160, 3) := by decide +kernel
theorem dX5_now_8 : decode cX5_now 8 = .ok (.aload_n 0, 1) := by decide +kernel
theorem dX5_now_9 : decode cX5_now 9 = .ok (.aload_n 0, 1) := by decide +kernel
theorem dX5_now_10 : decode cX5_now 10 = .ok (.getfield 48, 3) := by decide +kernel
theorem dX5_now_13 : decode cX5_now 13 = .ok (.aload_n 0, 1) := by decide +kernel
theorem dX5_now_14 : decode cX5_now 14 = .ok (.getfield 31, 3) := by decide +kernel
theorem dX5_now_17 : decode cX5_now 17 = .ok (.invokevirtual 152, 3) := by decide +kernel
theorem dX5_now_20 : decode cX5_now 20 = .ok (.aload_n 0, 1) := by decide +kernel
theorem dX5_now_21 : decode cX5_now 21 = .ok (.getfield 48, 3) := by decide +kernel
theorem dX5_now_24 : decode cX5_now 24 = .ok (.areturn, 1) := by decide +kernel
theorem dX5_winsNow_0 : decode cX5_winsNow 0 = .ok (.aload_n 0, 1) := by decide +kernel
theorem dX5_winsNow_1 : decode cX5_winsNow 1 = .ok (.aload_n 0, 1) := by decide +kernel
theorem dX5_winsNow_2 : decode cX5_winsNow 2 = .ok (.aload_n 1, 1) := by decide +kernel
theorem dX5_winsNow_3 : decode cX5_winsNow 3 = .ok (.invokevirtual 164, 3) := by decide +kernel
theorem dX5_winsNow_6 : decode cX5_winsNow 6 = .ok (.invokevirtual 156, 3) := by decide +kernel
theorem dX5_winsNow_9 : decode cX5_winsNow 9 = .ok (.ireturn, 1) := by decide +kernel
theorem dX5_timesWon_0 : decode cX5_timesWon 0 = .ok (.aload_n 0, 1) := by decide +kernel
theorem dX5_timesWon_1 : decode cX5_timesWon 1 = .ok (.getfield 44, 3) := by decide +kernel
theorem dX5_timesWon_4 : decode cX5_timesWon 4 = .ok (.iload_n 1, 1) := by decide +kernel
theorem dX5_timesWon_5 : decode cX5_timesWon 5 = .ok (.invokevirtual 149, 3) := by decide +kernel
theorem dX5_timesWon_8 : decode cX5_timesWon 8 = .ok (.iconst 0, 1) := by decide +kernel
theorem dX5_timesWon_9 : decode cX5_timesWon 9 = .ok (.istore_n 3, 1) := by decide +kernel
theorem dX5_timesWon_10 : decode cX5_timesWon 10 = .ok (.iconst 0, 1) := by decide +kernel
theorem dX5_timesWon_11 : decode cX5_timesWon 11 = .ok (.istore 4, 2) := by decide +kernel
theorem dX5_timesWon_13 : decode cX5_timesWon 13 = .ok (.iload 4, 2) := by decide +kernel
theorem dX5_timesWon_15 : decode cX5_timesWon 15 = .ok (.iload_n 2, 1) := by decide +kernel
theorem dX5_timesWon_16 : decode cX5_timesWon 16 = .ok (.if_icmp .ge 51, 3) := by decide +kernel
theorem dX5_timesWon_19 : decode cX5_timesWon 19 = .ok (.aload_n 0, 1) := by decide +kernel
theorem dX5_timesWon_20 : decode cX5_timesWon 20 = .ok (.aload_n 0, 1) := by decide +kernel
theorem dX5_timesWon_21 : decode cX5_timesWon 21 = .ok (.getfield 44, 3) := by decide +kernel
theorem dX5_timesWon_24 : decode cX5_timesWon 24 = .ok (.aload_n 0, 1) := by decide +kernel
theorem dX5_timesWon_25 : decode cX5_timesWon 25 = .ok (.getfield 31, 3) := by decide +kernel
theorem dX5_timesWon_28 : decode cX5_timesWon 28 = .ok (.invokevirtual 152, 3) := by decide +kernel
theorem dX5_timesWon_31 : decode cX5_timesWon 31 = .ok (.aload_n 0, 1) := by decide +kernel
theorem dX5_timesWon_32 : decode cX5_timesWon 32 = .ok (.aload_n 0, 1) := by decide +kernel
theorem dX5_timesWon_33 : decode cX5_timesWon 33 = .ok (.getfield 44, 3) := by decide +kernel
theorem dX5_timesWon_36 : decode cX5_timesWon 36 = .ok (.invokevirtual 156, 3) := by decide +kernel
theorem dX5_timesWon_39 : decode cX5_timesWon 39 = .ok (.istore 5, 2) := by decide +kernel
theorem dX5_timesWon_41 : decode cX5_timesWon 41 = .ok (.iload_n 3, 1) := by decide +kernel
theorem dX5_timesWon_42 : decode cX5_timesWon 42 = .ok (.iload 5, 2) := by decide +kernel
theorem dX5_timesWon_44 : decode cX5_timesWon 44 = .ok (.ifCond .eq 7, 3) := by decide +kernel
theorem dX5_timesWon_47 : decode cX5_timesWon 47 = .ok (.iconst 1, 1) := by decide +kernel
theorem dX5_timesWon_48 : decode cX5_timesWon 48 = .ok (.goto 4, 3) := by decide +kernel
theorem dX5_timesWon_51 : decode cX5_timesWon 51 = .ok (.iconst 0, 1) := by decide +kernel
theorem dX5_timesWon_52 : decode cX5_timesWon 52 = .ok (.iadd, 1) := by decide +kernel
theorem dX5_timesWon_53 : decode cX5_timesWon 53 = .ok (.istore_n 3, 1) := by decide +kernel
theorem dX5_timesWon_54 : decode cX5_timesWon 54 = .ok (.aload_n 0, 1) := by decide +kernel
theorem dX5_timesWon_55 : decode cX5_timesWon 55 = .ok (.iload_n 1, 1) := by decide +kernel
theorem dX5_timesWon_56 : decode cX5_timesWon 56 = .ok (.iload 5, 2) := by decide +kernel
theorem dX5_timesWon_58 : decode cX5_timesWon 58 = .ok (.invokevirtual 89, 3) := by decide +kernel
theorem dX5_timesWon_61 : decode cX5_timesWon 61 = .ok (.iinc 4 1, 3) := by decide +kernel
theorem dX5_timesWon_64 : decode cX5_timesWon 64 = .ok (.goto (-51), 3) := by decide +kernel
theorem dX5_timesWon_67 : decode cX5_timesWon 67 = .ok (.iload_n 3, 1) := by decide +kernel
theorem dX5_timesWon_68 : decode cX5_timesWon 68 = .ok (.ireturn, 1) := by decide +kernel
theorem dX5_firstTurn_0 : decode cX5_firstTurn 0 = .ok (.aload_n 0, 1) := by decide +kernel
theorem dX5_firstTurn_1 : decode cX5_firstTurn 1 = .ok (.iload_n 1, 1) := by decide +kernel
theorem dX5_firstTurn_2 : decode cX5_firstTurn 2 = .ok (.invokevirtual 168, 3) := by decide +kernel
theorem dX5_firstTurn_5 : decode cX5_firstTurn 5 = .ok (.istore_n 2, 1) := by decide +kernel
theorem dX5_firstTurn_6 : decode cX5_firstTurn 6 = .ok (.iconst 1, 1) := by decide +kernel
theorem dX5_firstTurn_7 : decode cX5_firstTurn 7 = .ok (.istore_n 3, 1) := by decide +kernel
theorem dX5_firstTurn_8 : decode cX5_firstTurn 8 = .ok (.iload_n 3, 1) := by decide +kernel
theorem dX5_firstTurn_9 : decode cX5_firstTurn 9 = .ok (.bipush 60, 2) := by decide +kernel
theorem dX5_firstTurn_11 : decode cX5_firstTurn 11 = .ok (.if_icmp .gt 41, 3) := by decide +kernel
theorem dX5_firstTurn_14 : decode cX5_firstTurn 14 = .ok (.aload_n 0, 1) := by decide +kernel
theorem dX5_firstTurn_15 : decode cX5_firstTurn 15 = .ok (.iload_n 1, 1) := by decide +kernel
theorem dX5_firstTurn_16 : decode cX5_firstTurn 16 = .ok (.iload_n 2, 1) := by decide +kernel
theorem dX5_firstTurn_17 : decode cX5_firstTurn 17 = .ok (.invokevirtual 89, 3) := by decide +kernel
theorem dX5_firstTurn_20 : decode cX5_firstTurn 20 = .ok (.aload_n 0, 1) := by decide +kernel
theorem dX5_firstTurn_21 : decode cX5_firstTurn 21 = .ok (.aload_n 0, 1) := by decide +kernel
theorem dX5_firstTurn_22 : decode cX5_firstTurn 22 = .ok (.getfield 44, 3) := by decide +kernel
theorem dX5_firstTurn_25 : decode cX5_firstTurn 25 = .ok (.aload_n 0, 1) := by decide +kernel
theorem dX5_firstTurn_26 : decode cX5_firstTurn 26 = .ok (.getfield 31, 3) := by decide +kernel
theorem dX5_firstTurn_29 : decode cX5_firstTurn 29 = .ok (.invokevirtual 152, 3) := by decide +kernel
theorem dX5_firstTurn_32 : decode cX5_firstTurn 32 = .ok (.aload_n 0, 1) := by decide +kernel
theorem dX5_firstTurn_33 : decode cX5_firstTurn 33 = .ok (.aload_n 0, 1) := by decide +kernel
theorem dX5_firstTurn_34 : decode cX5_firstTurn 34 = .ok (.getfield 44, 3) := by decide +kernel
theorem dX5_firstTurn_37 : decode cX5_firstTurn 37 = .ok (.invokevirtual 156, 3) := by decide +kernel
theorem dX5_firstTurn_40 : decode cX5_firstTurn 40 = .ok (.iload_n 2, 1) := by decide +kernel
theorem dX5_firstTurn_41 : decode cX5_firstTurn 41 = .ok (.if_icmp .eq 5, 3) := by decide +kernel
theorem dX5_firstTurn_44 : decode cX5_firstTurn 44 = .ok (.iload_n 3, 1) := by decide +kernel
theorem dX5_firstTurn_45 : decode cX5_firstTurn 45 = .ok (.ireturn, 1) := by decide +kernel
theorem dX5_firstTurn_46 : decode cX5_firstTurn 46 = .ok (.iinc 3 1, 3) := by decide +kernel
theorem dX5_firstTurn_49 : decode cX5_firstTurn 49 = .ok (.goto (-41), 3) := by decide +kernel
theorem dX5_firstTurn_52 : decode cX5_firstTurn 52 = .ok (.bipush (-5), 2) := by decide +kernel
theorem dX5_firstTurn_54 : decode cX5_firstTurn 54 = .ok (.ireturn, 1) := by decide +kernel
theorem dX5_firstUnlawful_0 : decode cX5_firstUnlawful 0 = .ok (.iconst 0, 1) := by decide +kernel
theorem dX5_firstUnlawful_1 : decode cX5_firstUnlawful 1 = .ok (.istore_n 1, 1) := by decide +kernel
theorem dX5_firstUnlawful_2 : decode cX5_firstUnlawful 2 = .ok (.iload_n 1, 1) := by decide +kernel
theorem dX5_firstUnlawful_3 : decode cX5_firstUnlawful 3 = .ok (.aload_n 0, 1) := by decide +kernel
theorem dX5_firstUnlawful_4 : decode cX5_firstUnlawful 4 = .ok (.getfield 31, 3) := by decide +kernel
theorem dX5_firstUnlawful_7 : decode cX5_firstUnlawful 7 = .ok (.if_icmp .ge 56, 3) := by decide +kernel
theorem dX5_firstUnlawful_10 : decode cX5_firstUnlawful 10 = .ok (.iload_n 1, 1) := by decide +kernel
theorem dX5_firstUnlawful_11 : decode cX5_firstUnlawful 11 = .ok (.bipush 85, 2) := by decide +kernel
theorem dX5_firstUnlawful_13 : decode cX5_firstUnlawful 13 = .ok (.if_icmp .ge 50, 3) := by decide +kernel
theorem dX5_firstUnlawful_16 : decode cX5_firstUnlawful 16 = .ok (.aload_n 0, 1) := by decide +kernel
theorem dX5_firstUnlawful_17 : decode cX5_firstUnlawful 17 = .ok (.getfield 44, 3) := by decide +kernel
theorem dX5_firstUnlawful_20 : decode cX5_firstUnlawful 20 = .ok (.aload_n 0, 1) := by decide +kernel
theorem dX5_firstUnlawful_21 : decode cX5_firstUnlawful 21 = .ok (.getfield 34, 3) := by decide +kernel
theorem dX5_firstUnlawful_24 : decode cX5_firstUnlawful 24 = .ok (.iload_n 1, 1) := by decide +kernel
theorem dX5_firstUnlawful_25 : decode cX5_firstUnlawful 25 = .ok (.iaload, 1) := by decide +kernel
theorem dX5_firstUnlawful_26 : decode cX5_firstUnlawful 26 = .ok (.invokevirtual 149, 3) := by decide +kernel
theorem dX5_firstUnlawful_29 : decode cX5_firstUnlawful 29 = .ok (.aload_n 0, 1) := by decide +kernel
theorem dX5_firstUnlawful_30 : decode cX5_firstUnlawful 30 = .ok (.aload_n 0, 1) := by decide +kernel
theorem dX5_firstUnlawful_31 : decode cX5_firstUnlawful 31 = .ok (.getfield 44, 3) := by decide +kernel
theorem dX5_firstUnlawful_34 : decode cX5_firstUnlawful 34 = .ok (.iload_n 1, 1) := by decide +kernel
theorem dX5_firstUnlawful_35 : decode cX5_firstUnlawful 35 = .ok (.invokevirtual 152, 3) := by decide +kernel
theorem dX5_firstUnlawful_38 : decode cX5_firstUnlawful 38 = .ok (.aload_n 0, 1) := by decide +kernel
theorem dX5_firstUnlawful_39 : decode cX5_firstUnlawful 39 = .ok (.aload_n 0, 1) := by decide +kernel
theorem dX5_firstUnlawful_40 : decode cX5_firstUnlawful 40 = .ok (.getfield 44, 3) := by decide +kernel
theorem dX5_firstUnlawful_43 : decode cX5_firstUnlawful 43 = .ok (.invokevirtual 156, 3) := by decide +kernel
theorem dX5_firstUnlawful_46 : decode cX5_firstUnlawful 46 = .ok (.aload_n 0, 1) := by decide +kernel
theorem dX5_firstUnlawful_47 : decode cX5_firstUnlawful 47 = .ok (.getfield 37, 3) := by decide +kernel
theorem dX5_firstUnlawful_50 : decode cX5_firstUnlawful 50 = .ok (.iload_n 1, 1) := by decide +kernel
theorem dX5_firstUnlawful_51 : decode cX5_firstUnlawful 51 = .ok (.baload, 1) := by decide +kernel
theorem dX5_firstUnlawful_52 : decode cX5_firstUnlawful 52 = .ok (.if_icmp .eq 5, 3) := by decide +kernel
theorem dX5_firstUnlawful_55 : decode cX5_firstUnlawful 55 = .ok (.iload_n 1, 1) := by decide +kernel
theorem dX5_firstUnlawful_56 : decode cX5_firstUnlawful 56 = .ok (.ireturn, 1) := by decide +kernel
theorem dX5_firstUnlawful_57 : decode cX5_firstUnlawful 57 = .ok (.iinc 1 1, 3) := by decide +kernel
theorem dX5_firstUnlawful_60 : decode cX5_firstUnlawful 60 = .ok (.goto (-58), 3) := by decide +kernel
theorem dX5_firstUnlawful_63 : decode cX5_firstUnlawful 63 = .ok (.bipush (-5), 2) := by decide +kernel
theorem dX5_firstUnlawful_65 : decode cX5_firstUnlawful 65 = .ok (.ireturn, 1) := by decide +kernel
theorem dX6_init_0 : decode cX6_init 0 = .ok (.aload_n 0, 1) := by decide +kernel
theorem dX6_init_1 : decode cX6_init 1 = .ok (.invokespecial 1, 3) := by decide +kernel
theorem dX6_init_4 : decode cX6_init 4 = .ok (.aload_n 0, 1) := by decide +kernel
theorem dX6_init_5 : decode cX6_init 5 = .ok (.iconst 0, 1) := by decide +kernel
theorem dX6_init_6 : decode cX6_init 6 = .ok (.putfield 7, 3) := by decide +kernel
theorem dX6_init_9 : decode cX6_init 9 = .ok (.aload_n 0, 1) := by decide +kernel
theorem dX6_init_10 : decode cX6_init 10 = .ok (.iconst 0, 1) := by decide +kernel
theorem dX6_init_11 : decode cX6_init 11 = .ok (.putfield 13, 3) := by decide +kernel
theorem dX6_init_14 : decode cX6_init 14 = .ok (.aload_n 0, 1) := by decide +kernel
theorem dX6_init_15 : decode cX6_init 15 = .ok (.iconst (-1), 1) := by decide +kernel
theorem dX6_init_16 : decode cX6_init 16 = .ok (.putfield 16, 3) := by decide +kernel
theorem dX6_init_19 : decode cX6_init 19 = .ok (.aload_n 0, 1) := by decide +kernel
theorem dX6_init_20 : decode cX6_init 20 = .ok (.iconst (-1), 1) := by decide +kernel
theorem dX6_init_21 : decode cX6_init 21 = .ok (.putfield 19, 3) := by decide +kernel
theorem dX6_init_24 : decode cX6_init 24 = .ok (.aload_n 0, 1) := by decide +kernel
theorem dX6_init_25 : decode cX6_init 25 = .ok (.iconst (-1), 1) := by decide +kernel
theorem dX6_init_26 : decode cX6_init 26 = .ok (.putfield 22, 3) := by decide +kernel
theorem dX6_init_29 : decode cX6_init 29 = .ok (.aload_n 0, 1) := by decide +kernel
theorem dX6_init_30 : decode cX6_init 30 = .ok (.iconst 0, 1) := by decide +kernel
theorem dX6_init_31 : decode cX6_init 31 = .ok (.putfield 25, 3) := by decide +kernel
theorem dX6_init_34 : decode cX6_init 34 = .ok (.aload_n 0, 1) := by decide +kernel
theorem dX6_init_35 : decode cX6_init 35 = .ok (.iconst 0, 1) := by decide +kernel
theorem dX6_init_36 : decode cX6_init 36 = .ok (.putfield 28, 3) := by decide +kernel
theorem dX6_init_39 : decode cX6_init 39 = .ok (.aload_n 0, 1) := by decide +kernel
theorem dX6_init_40 : decode cX6_init 40 = .ok (.iconst 0, 1) := by decide +kernel
theorem dX6_init_41 : decode cX6_init 41 = .ok (.putfield 31, 3) := by decide +kernel
theorem dX6_init_44 : decode cX6_init 44 = .ok (.return_, 1) := by decide +kernel
theorem dX6_begin_0 : decode cX6_begin 0 = .ok (.aload_n 0, 1) := by decide +kernel
theorem dX6_begin_1 : decode cX6_begin 1 = .ok (.iload_n 1, 1) := by decide +kernel
theorem dX6_begin_2 : decode cX6_begin 2 = .ok (.putfield 7, 3) := by decide +kernel
theorem dX6_begin_5 : decode cX6_begin 5 = .ok (.aload_n 0, 1) := by decide +kernel
theorem dX6_begin_6 : decode cX6_begin 6 = .ok (.iconst 0, 1) := by decide +kernel
theorem dX6_begin_7 : decode cX6_begin 7 = .ok (.putfield 13, 3) := by decide +kernel
theorem dX6_begin_10 : decode cX6_begin 10 = .ok (.aload_n 0, 1) := by decide +kernel
theorem dX6_begin_11 : decode cX6_begin 11 = .ok (.iconst (-1), 1) := by decide +kernel
theorem dX6_begin_12 : decode cX6_begin 12 = .ok (.putfield 16, 3) := by decide +kernel
theorem dX6_begin_15 : decode cX6_begin 15 = .ok (.aload_n 0, 1) := by decide +kernel
theorem dX6_begin_16 : decode cX6_begin 16 = .ok (.iconst (-1), 1) := by decide +kernel
theorem dX6_begin_17 : decode cX6_begin 17 = .ok (.putfield 19, 3) := by decide +kernel
theorem dX6_begin_20 : decode cX6_begin 20 = .ok (.aload_n 0, 1) := by decide +kernel
theorem dX6_begin_21 : decode cX6_begin 21 = .ok (.iconst (-1), 1) := by decide +kernel
theorem dX6_begin_22 : decode cX6_begin 22 = .ok (.putfield 22, 3) := by decide +kernel
theorem dX6_begin_25 : decode cX6_begin 25 = .ok (.aload_n 0, 1) := by decide +kernel
theorem dX6_begin_26 : decode cX6_begin 26 = .ok (.iconst 0, 1) := by decide +kernel
theorem dX6_begin_27 : decode cX6_begin 27 = .ok (.putfield 25, 3) := by decide +kernel
theorem dX6_begin_30 : decode cX6_begin 30 = .ok (.aload_n 0, 1) := by decide +kernel
theorem dX6_begin_31 : decode cX6_begin 31 = .ok (.iconst 0, 1) := by decide +kernel
theorem dX6_begin_32 : decode cX6_begin 32 = .ok (.putfield 28, 3) := by decide +kernel
theorem dX6_begin_35 : decode cX6_begin 35 = .ok (.aload_n 0, 1) := by decide +kernel
theorem dX6_begin_36 : decode cX6_begin 36 = .ok (.iconst 0, 1) := by decide +kernel
theorem dX6_begin_37 : decode cX6_begin 37 = .ok (.putfield 31, 3) := by decide +kernel
theorem dX6_begin_40 : decode cX6_begin 40 = .ok (.return_, 1) := by decide +kernel
theorem dX6_become_0 : decode cX6_become 0 = .ok (.aload_n 0, 1) := by decide +kernel
theorem dX6_become_1 : decode cX6_become 1 = .ok (.aload_n 1, 1) := by decide +kernel
theorem dX6_become_2 : decode cX6_become 2 = .ok (.getfield 7, 3) := by decide +kernel
theorem dX6_become_5 : decode cX6_become 5 = .ok (.putfield 7, 3) := by decide +kernel
theorem dX6_become_8 : decode cX6_become 8 = .ok (.aload_n 0, 1) := by decide +kernel
theorem dX6_become_9 : decode cX6_become 9 = .ok (.aload_n 1, 1) := by decide +kernel
theorem dX6_become_10 : decode cX6_become 10 = .ok (.getfield 13, 3) := by decide +kernel
theorem dX6_become_13 : decode cX6_become 13 = .ok (.putfield 13, 3) := by decide +kernel
theorem dX6_become_16 : decode cX6_become 16 = .ok (.aload_n 0, 1) := by decide +kernel
theorem dX6_become_17 : decode cX6_become 17 = .ok (.aload_n 1, 1) := by decide +kernel
theorem dX6_become_18 : decode cX6_become 18 = .ok (.getfield 16, 3) := by decide +kernel
theorem dX6_become_21 : decode cX6_become 21 = .ok (.putfield 16, 3) := by decide +kernel
theorem dX6_become_24 : decode cX6_become 24 = .ok (.aload_n 0, 1) := by decide +kernel
theorem dX6_become_25 : decode cX6_become 25 = .ok (.aload_n 1, 1) := by decide +kernel
theorem dX6_become_26 : decode cX6_become 26 = .ok (.getfield 19, 3) := by decide +kernel
theorem dX6_become_29 : decode cX6_become 29 = .ok (.putfield 19, 3) := by decide +kernel
theorem dX6_become_32 : decode cX6_become 32 = .ok (.aload_n 0, 1) := by decide +kernel
theorem dX6_become_33 : decode cX6_become 33 = .ok (.aload_n 1, 1) := by decide +kernel
theorem dX6_become_34 : decode cX6_become 34 = .ok (.getfield 22, 3) := by decide +kernel
theorem dX6_become_37 : decode cX6_become 37 = .ok (.putfield 22, 3) := by decide +kernel
theorem dX6_become_40 : decode cX6_become 40 = .ok (.aload_n 0, 1) := by decide +kernel
theorem dX6_become_41 : decode cX6_become 41 = .ok (.aload_n 1, 1) := by decide +kernel
theorem dX6_become_42 : decode cX6_become 42 = .ok (.getfield 25, 3) := by decide +kernel
theorem dX6_become_45 : decode cX6_become 45 = .ok (.putfield 25, 3) := by decide +kernel
theorem dX6_become_48 : decode cX6_become 48 = .ok (.aload_n 0, 1) := by decide +kernel
theorem dX6_become_49 : decode cX6_become 49 = .ok (.aload_n 1, 1) := by decide +kernel
theorem dX6_become_50 : decode cX6_become 50 = .ok (.getfield 28, 3) := by decide +kernel
theorem dX6_become_53 : decode cX6_become 53 = .ok (.putfield 28, 3) := by decide +kernel
theorem dX6_become_56 : decode cX6_become 56 = .ok (.aload_n 0, 1) := by decide +kernel
theorem dX6_become_57 : decode cX6_become 57 = .ok (.aload_n 1, 1) := by decide +kernel
theorem dX6_become_58 : decode cX6_become 58 = .ok (.getfield 31, 3) := by decide +kernel
theorem dX6_become_61 : decode cX6_become 61 = .ok (.putfield 31, 3) := by decide +kernel
theorem dX6_become_64 : decode cX6_become 64 = .ok (.return_, 1) := by decide +kernel
theorem dX6_meet_0 : decode cX6_meet 0 = .ok (.aload_n 0, 1) := by decide +kernel
theorem dX6_meet_1 : decode cX6_meet 1 = .ok (.getfield 16, 3) := by decide +kernel
theorem dX6_meet_4 : decode cX6_meet 4 = .ok (.ifCond .ge 8, 3) := by decide +kernel
theorem dX6_meet_7 : decode cX6_meet 7 = .ok (.aload_n 0, 1) := by decide +kernel
theorem dX6_meet_8 : decode cX6_meet 8 = .ok (.iload_n 1, 1) := by decide +kernel
theorem dX6_meet_9 : decode cX6_meet 9 = .ok (.putfield 16, 3) := by decide +kernel
theorem dX6_meet_12 : decode cX6_meet 12 = .ok (.aload_n 0, 1) := by decide +kernel
theorem dX6_meet_13 : decode cX6_meet 13 = .ok (.iload_n 1, 1) := by decide +kernel
theorem dX6_meet_14 : decode cX6_meet 14 = .ok (.putfield 19, 3) := by decide +kernel
theorem dX6_meet_17 : decode cX6_meet 17 = .ok (.aload_n 0, 1) := by decide +kernel
theorem dX6_meet_18 : decode cX6_meet 18 = .ok (.getfield 22, 3) := by decide +kernel
theorem dX6_meet_21 : decode cX6_meet 21 = .ok (.ifCond .lt 11, 3) := by decide +kernel
theorem dX6_meet_24 : decode cX6_meet 24 = .ok (.iload_n 2, 1) := by decide +kernel
theorem dX6_meet_25 : decode cX6_meet 25 = .ok (.aload_n 0, 1) := by decide +kernel
theorem dX6_meet_26 : decode cX6_meet 26 = .ok (.getfield 25, 3) := by decide +kernel
theorem dX6_meet_29 : decode cX6_meet 29 = .ok (.if_icmp .lt 13, 3) := by decide +kernel
theorem dX6_meet_32 : decode cX6_meet 32 = .ok (.aload_n 0, 1) := by decide +kernel
theorem dX6_meet_33 : decode cX6_meet 33 = .ok (.iload_n 1, 1) := by decide +kernel
theorem dX6_meet_34 : decode cX6_meet 34 = .ok (.putfield 22, 3) := by decide +kernel
theorem dX6_meet_37 : decode cX6_meet 37 = .ok (.aload_n 0, 1) := by decide +kernel
theorem dX6_meet_38 : decode cX6_meet 38 = .ok (.iload_n 2, 1) := by decide +kernel
theorem dX6_meet_39 : decode cX6_meet 39 = .ok (.putfield 25, 3) := by decide +kernel
theorem dX6_meet_42 : decode cX6_meet 42 = .ok (.iload_n 3, 1) := by decide +kernel
theorem dX6_meet_43 : decode cX6_meet 43 = .ok (.ifCond .eq 16, 3) := by decide +kernel
theorem dX6_meet_46 : decode cX6_meet 46 = .ok (.aload_n 0, 1) := by decide +kernel
theorem dX6_meet_47 : decode cX6_meet 47 = .ok (.dup, 1) := by decide +kernel
theorem dX6_meet_48 : decode cX6_meet 48 = .ok (.getfield 28, 3) := by decide +kernel
theorem dX6_meet_51 : decode cX6_meet 51 = .ok (.iconst 1, 1) := by decide +kernel
theorem dX6_meet_52 : decode cX6_meet 52 = .ok (.iadd, 1) := by decide +kernel
theorem dX6_meet_53 : decode cX6_meet 53 = .ok (.putfield 28, 3) := by decide +kernel
theorem dX6_meet_56 : decode cX6_meet 56 = .ok (.goto 13, 3) := by decide +kernel
theorem dX6_meet_59 : decode cX6_meet 59 = .ok (.aload_n 0, 1) := by decide +kernel
theorem dX6_meet_60 : decode cX6_meet 60 = .ok (.dup, 1) := by decide +kernel
theorem dX6_meet_61 : decode cX6_meet 61 = .ok (.getfield 31, 3) := by decide +kernel
theorem dX6_meet_64 : decode cX6_meet 64 = .ok (.iconst 1, 1) := by decide +kernel
theorem dX6_meet_65 : decode cX6_meet 65 = .ok (.iadd, 1) := by decide +kernel
theorem dX6_meet_66 : decode cX6_meet 66 = .ok (.putfield 31, 3) := by decide +kernel
theorem dX6_meet_69 : decode cX6_meet 69 = .ok (.return_, 1) := by decide +kernel
theorem dX6_likes_0 : decode cX6_likes 0 = .ok (.aload_n 0, 1) := by decide +kernel
theorem dX6_likes_1 : decode cX6_likes 1 = .ok (.getfield 28, 3) := by decide +kernel
theorem dX6_likes_4 : decode cX6_likes 4 = .ok (.aload_n 0, 1) := by decide +kernel
theorem dX6_likes_5 : decode cX6_likes 5 = .ok (.getfield 31, 3) := by decide +kernel
theorem dX6_likes_8 : decode cX6_likes 8 = .ok (.iadd, 1) := by decide +kernel
theorem dX6_likes_9 : decode cX6_likes 9 = .ok (.ireturn, 1) := by decide +kernel
theorem dX6_torn_0 : decode cX6_torn 0 = .ok (.aload_n 0, 1) := by decide +kernel
theorem dX6_torn_1 : decode cX6_torn 1 = .ok (.getfield 28, 3) := by decide +kernel
theorem dX6_torn_4 : decode cX6_torn 4 = .ok (.ifCond .le 14, 3) := by decide +kernel
theorem dX6_torn_7 : decode cX6_torn 7 = .ok (.aload_n 0, 1) := by decide +kernel
theorem dX6_torn_8 : decode cX6_torn 8 = .ok (.getfield 31, 3) := by decide +kernel
theorem dX6_torn_11 : decode cX6_torn 11 = .ok (.ifCond .le 7, 3) := by decide +kernel
theorem dX6_torn_14 : decode cX6_torn 14 = .ok (.iconst 1, 1) := by decide +kernel
theorem dX6_torn_15 : decode cX6_torn 15 = .ok (.goto 4, 3) := by decide +kernel
theorem dX6_torn_18 : decode cX6_torn 18 = .ok (.iconst 0, 1) := by decide +kernel
theorem dX6_torn_19 : decode cX6_torn 19 = .ok (.ireturn, 1) := by decide +kernel
theorem dX7_init_0 : decode cX7_init 0 = .ok (.aload_n 0, 1) := by decide +kernel
theorem dX7_init_1 : decode cX7_init 1 = .ok (.invokespecial 5, 3) := by decide +kernel
theorem dX7_init_4 : decode cX7_init 4 = .ok (.aload_n 0, 1) := by decide +kernel
theorem dX7_init_5 : decode cX7_init 5 = .ok (.new 11, 3) := by decide +kernel
theorem dX7_init_8 : decode cX7_init 8 = .ok (.dup, 1) := by decide +kernel
theorem dX7_init_9 : decode cX7_init 9 = .ok (.invokespecial 13, 3) := by decide +kernel
theorem dX7_init_12 : decode cX7_init 12 = .ok (.putfield 14, 3) := by decide +kernel
theorem dX7_init_15 : decode cX7_init 15 = .ok (.aload_n 0, 1) := by decide +kernel
theorem dX7_init_16 : decode cX7_init 16 = .ok (.new 11, 3) := by decide +kernel
theorem dX7_init_19 : decode cX7_init 19 = .ok (.dup, 1) := by decide +kernel
theorem dX7_init_20 : decode cX7_init 20 = .ok (.invokespecial 13, 3) := by decide +kernel
theorem dX7_init_23 : decode cX7_init 23 = .ok (.putfield 18, 3) := by decide +kernel
theorem dX7_init_26 : decode cX7_init 26 = .ok (.aload_n 0, 1) := by decide +kernel
theorem dX7_init_27 : decode cX7_init 27 = .ok (.iconst 0, 1) := by decide +kernel
theorem dX7_init_28 : decode cX7_init 28 = .ok (.putfield 21, 3) := by decide +kernel
theorem dX7_init_31 : decode cX7_init 31 = .ok (.aload_n 0, 1) := by decide +kernel
theorem dX7_init_32 : decode cX7_init 32 = .ok (.new 25, 3) := by decide +kernel
theorem dX7_init_35 : decode cX7_init 35 = .ok (.dup, 1) := by decide +kernel
theorem dX7_init_36 : decode cX7_init 36 = .ok (.invokespecial 27, 3) := by decide +kernel
theorem dX7_init_39 : decode cX7_init 39 = .ok (.putfield 28, 3) := by decide +kernel
theorem dX7_init_42 : decode cX7_init 42 = .ok (.aload_n 0, 1) := by decide +kernel
theorem dX7_init_43 : decode cX7_init 43 = .ok (.new 32, 3) := by decide +kernel
theorem dX7_init_46 : decode cX7_init 46 = .ok (.dup, 1) := by decide +kernel
theorem dX7_init_47 : decode cX7_init 47 = .ok (.invokespecial 34, 3) := by decide +kernel
theorem dX7_init_50 : decode cX7_init 50 = .ok (.putfield 35, 3) := by decide +kernel
theorem dX7_init_53 : decode cX7_init 53 = .ok (.aload_n 0, 1) := by decide +kernel
theorem dX7_init_54 : decode cX7_init 54 = .ok (.new 39, 3) := by decide +kernel
theorem dX7_init_57 : decode cX7_init 57 = .ok (.dup, 1) := by decide +kernel
theorem dX7_init_58 : decode cX7_init 58 = .ok (.aload_n 0, 1) := by decide +kernel
theorem dX7_init_59 : decode cX7_init 59 = .ok (.getfield 35, 3) := by decide +kernel
theorem dX7_init_62 : decode cX7_init 62 = .ok (.invokespecial 41, 3) := by decide +kernel
theorem dX7_init_65 : decode cX7_init 65 = .ok (.putfield 44, 3) := by decide +kernel
theorem dX7_init_68 : decode cX7_init 68 = .ok (.aload_n 0, 1) := by decide +kernel
theorem dX7_init_69 : decode cX7_init 69 = .ok (.new 48, 3) := by decide +kernel
theorem dX7_init_72 : decode cX7_init 72 = .ok (.dup, 1) := by decide +kernel
theorem dX7_init_73 : decode cX7_init 73 = .ok (.aload_n 0, 1) := by decide +kernel
theorem dX7_init_74 : decode cX7_init 74 = .ok (.getfield 35, 3) := by decide +kernel
theorem dX7_init_77 : decode cX7_init 77 = .ok (.invokespecial 50, 3) := by decide +kernel
theorem dX7_init_80 : decode cX7_init 80 = .ok (.putfield 51, 3) := by decide +kernel
theorem dX7_init_83 : decode cX7_init 83 = .ok (.aload_n 0, 1) := by decide +kernel
theorem dX7_init_84 : decode cX7_init 84 = .ok (.new 55, 3) := by decide +kernel
theorem dX7_init_87 : decode cX7_init 87 = .ok (.dup, 1) := by decide +kernel
theorem dX7_init_88 : decode cX7_init 88 = .ok (.invokespecial 57, 3) := by decide +kernel
theorem dX7_init_91 : decode cX7_init 91 = .ok (.putfield 58, 3) := by decide +kernel
theorem dX7_init_94 : decode cX7_init 94 = .ok (.return_, 1) := by decide +kernel
theorem dX7_feed_0 : decode cX7_feed 0 = .ok (.iload_n 1, 1) := by decide +kernel
theorem dX7_feed_1 : decode cX7_feed 1 = .ok (.ifCond .lt 9, 3) := by decide +kernel
theorem dX7_feed_4 : decode cX7_feed 4 = .ok (.iload_n 1, 1) := by decide +kernel
theorem dX7_feed_5 : decode cX7_feed 5 = .ok (.bipush 127, 2) := by decide +kernel
theorem dX7_feed_7 : decode cX7_feed 7 = .ok (.if_icmp .le 6, 3) := by decide +kernel
theorem dX7_feed_10 : decode cX7_feed 10 = .ok (.bipush (-2), 2) := by decide +kernel
theorem dX7_feed_12 : decode cX7_feed 12 = .ok (.ireturn, 1) := by decide +kernel
theorem dX7_feed_13 : decode cX7_feed 13 = .ok (.aload_n 0, 1) := by decide +kernel
theorem dX7_feed_14 : decode cX7_feed 14 = .ok (.getfield 14, 3) := by decide +kernel
theorem dX7_feed_17 : decode cX7_feed 17 = .ok (.getfield 62, 3) := by decide +kernel
theorem dX7_feed_20 : decode cX7_feed 20 = .ok (.ifCond .lt 15, 3) := by decide +kernel
theorem dX7_feed_23 : decode cX7_feed 23 = .ok (.aload_n 0, 1) := by decide +kernel
theorem dX7_feed_24 : decode cX7_feed 24 = .ok (.getfield 14, 3) := by decide +kernel
theorem dX7_feed_27 : decode cX7_feed 27 = .ok (.getfield 62, 3) := by decide +kernel
theorem dX7_feed_30 : decode cX7_feed 30 = .ok (.bipush 100, 2) := by decide +kernel
theorem dX7_feed_32 : decode cX7_feed 32 = .ok (.if_icmp .lt 6, 3) := by decide +kernel
theorem dX7_feed_35 : decode cX7_feed 35 = .ok (.bipush (-4), 2) := by decide +kernel
theorem dX7_feed_37 : decode cX7_feed 37 = .ok (.ireturn, 1) := by decide +kernel
theorem dX7_feed_38 : decode cX7_feed 38 = .ok (.aload_n 0, 1) := by decide +kernel
theorem dX7_feed_39 : decode cX7_feed 39 = .ok (.getfield 14, 3) := by decide +kernel
theorem dX7_feed_42 : decode cX7_feed 42 = .ok (.getfield 66, 3) := by decide +kernel
theorem dX7_feed_45 : decode cX7_feed 45 = .ok (.aload_n 0, 1) := by decide +kernel
theorem dX7_feed_46 : decode cX7_feed 46 = .ok (.getfield 14, 3) := by decide +kernel
theorem dX7_feed_49 : decode cX7_feed 49 = .ok (.getfield 62, 3) := by decide +kernel
theorem dX7_feed_52 : decode cX7_feed 52 = .ok (.iload_n 1, 1) := by decide +kernel
theorem dX7_feed_53 : decode cX7_feed 53 = .ok (.i2b, 1) := by decide +kernel
theorem dX7_feed_54 : decode cX7_feed 54 = .ok (.bastore, 1) := by decide +kernel
theorem dX7_feed_55 : decode cX7_feed 55 = .ok (.aload_n 0, 1) := by decide +kernel
theorem dX7_feed_56 : decode cX7_feed 56 = .ok (.getfield 14, 3) := by decide +kernel
theorem dX7_feed_59 : decode cX7_feed 59 = .ok (.dup, 1) := by decide +kernel
theorem dX7_feed_60 : decode cX7_feed 60 = .ok (.getfield 62, 3) := by decide +kernel
theorem dX7_feed_63 : decode cX7_feed 63 = .ok (.iconst 1, 1) := by decide +kernel
theorem dX7_feed_64 : decode cX7_feed 64 = .ok (.iadd, 1) := by decide +kernel
theorem dX7_feed_65 : decode cX7_feed 65 = .ok (.putfield 62, 3) := by decide +kernel
theorem dX7_feed_68 : decode cX7_feed 68 = .ok (.aload_n 0, 1) := by decide +kernel
theorem dX7_feed_69 : decode cX7_feed 69 = .ok (.getfield 14, 3) := by decide +kernel
theorem dX7_feed_72 : decode cX7_feed 72 = .ok (.getfield 62, 3) := by decide +kernel
theorem dX7_feed_75 : decode cX7_feed 75 = .ok (.ireturn, 1) := by decide +kernel
theorem dX7_court_0 : decode cX7_court 0 = .ok (.aload_n 0, 1) := by decide +kernel
theorem dX7_court_1 : decode cX7_court 1 = .ok (.getfield 14, 3) := by decide +kernel
theorem dX7_court_4 : decode cX7_court 4 = .ok (.getfield 70, 3) := by decide +kernel
theorem dX7_court_7 : decode cX7_court 7 = .ok (.iconst 5, 1) := by decide +kernel
theorem dX7_court_8 : decode cX7_court 8 = .ok (.if_icmp .lt 6, 3) := by decide +kernel
theorem dX7_court_11 : decode cX7_court 11 = .ok (.bipush (-4), 2) := by decide +kernel
theorem dX7_court_13 : decode cX7_court 13 = .ok (.ireturn, 1) := by decide +kernel
theorem dX7_court_14 : decode cX7_court 14 = .ok (.aload_n 0, 1) := by decide +kernel
theorem dX7_court_15 : decode cX7_court 15 = .ok (.getfield 14, 3) := by decide +kernel
theorem dX7_court_18 : decode cX7_court 18 = .ok (.getfield 62, 3) := by decide +kernel
theorem dX7_court_21 : decode cX7_court 21 = .ok (.istore_n 1, 1) := by decide +kernel
theorem dX7_court_22 : decode cX7_court 22 = .ok (.aload_n 0, 1) := by decide +kernel
theorem dX7_court_23 : decode cX7_court 23 = .ok (.getfield 14, 3) := by decide +kernel
theorem dX7_court_26 : decode cX7_court 26 = .ok (.iconst 0, 1) := by decide +kernel
theorem dX7_court_27 : decode cX7_court 27 = .ok (.putfield 62, 3) := by decide +kernel
theorem dX7_court_30 : decode cX7_court 30 = .ok (.aload_n 0, 1) := by decide +kernel
theorem dX7_court_31 : decode cX7_court 31 = .ok (.getfield 28, 3) := by decide +kernel
theorem dX7_court_34 : decode cX7_court 34 = .ok (.aload_n 0, 1) := by decide +kernel
theorem dX7_court_35 : decode cX7_court 35 = .ok (.getfield 14, 3) := by decide +kernel
theorem dX7_court_38 : decode cX7_court 38 = .ok (.getfield 66, 3) := by decide +kernel
theorem dX7_court_41 : decode cX7_court 41 = .ok (.iload_n 1, 1) := by decide +kernel
theorem dX7_court_42 : decode cX7_court 42 = .ok (.iconst 0, 1) := by decide +kernel
theorem dX7_court_43 : decode cX7_court 43 = .ok (.iconst 0, 1) := by decide +kernel
theorem dX7_court_44 : decode cX7_court 44 = .ok (.iconst 0, 1) := by decide +kernel
theorem dX7_court_45 : decode cX7_court 45 = .ok (.invokevirtual 73, 3) := by decide +kernel
theorem dX7_court_48 : decode cX7_court 48 = .ok (.istore_n 2, 1) := by decide +kernel
theorem dX7_court_49 : decode cX7_court 49 = .ok (.iload_n 2, 1) := by decide +kernel
theorem dX7_court_50 : decode cX7_court 50 = .ok (.ifCond .lt 8, 3) := by decide +kernel
theorem dX7_court_53 : decode cX7_court 53 = .ok (.bipush (-10), 2) := by decide +kernel
theorem dX7_court_55 : decode cX7_court 55 = .ok (.iload_n 2, 1) := by decide +kernel
theorem dX7_court_56 : decode cX7_court 56 = .ok (.isub, 1) := by decide +kernel
theorem dX7_court_57 : decode cX7_court 57 = .ok (.ireturn, 1) := by decide +kernel
theorem dX7_court_58 : decode cX7_court 58 = .ok (.iconst 0, 1) := by decide +kernel
theorem dX7_court_59 : decode cX7_court 59 = .ok (.istore_n 3, 1) := by decide +kernel
theorem dX7_court_60 : decode cX7_court 60 = .ok (.iload_n 3, 1) := by decide +kernel
theorem dX7_court_61 : decode cX7_court 61 = .ok (.iload_n 1, 1) := by decide +kernel
theorem dX7_court_62 : decode cX7_court 62 = .ok (.if_icmp .ge 33, 3) := by decide +kernel
theorem dX7_court_65 : decode cX7_court 65 = .ok (.iload_n 3, 1) := by decide +kernel
theorem dX7_court_66 : decode cX7_court 66 = .ok (.bipush 100, 2) := by decide +kernel
theorem dX7_court_68 : decode cX7_court 68 = .ok (.if_icmp .ge 27, 3) := by decide +kernel
theorem dX7_court_71 : decode cX7_court 71 = .ok (.aload_n 0, 1) := by decide +kernel
theorem dX7_court_72 : decode cX7_court 72 = .ok (.getfield 14, 3) := by decide +kernel
theorem dX7_court_75 : decode cX7_court 75 = .ok (.getfield 77, 3) := by decide +kernel
theorem dX7_court_78 : decode cX7_court 78 = .ok (.iload_n 3, 1) := by decide +kernel
theorem dX7_court_79 : decode cX7_court 79 = .ok (.aload_n 0, 1) := by decide +kernel
theorem dX7_court_80 : decode cX7_court 80 = .ok (.getfield 14, 3) := by decide +kernel
theorem dX7_court_83 : decode cX7_court 83 = .ok (.getfield 66, 3) := by decide +kernel
theorem dX7_court_86 : decode cX7_court 86 = .ok (.iload_n 3, 1) := by decide +kernel
theorem dX7_court_87 : decode cX7_court 87 = .ok (.baload, 1) := by decide +kernel
theorem dX7_court_88 : decode cX7_court 88 = .ok (.bastore, 1) := by decide +kernel
theorem dX7_court_89 : decode cX7_court 89 = .ok (.iinc 3 1, 3) := by decide +kernel
theorem dX7_court_92 : decode cX7_court 92 = .ok (.goto (-32), 3) := by decide +kernel
theorem dX7_court_95 : decode cX7_court 95 = .ok (.aload_n 0, 1) := by decide +kernel
theorem dX7_court_96 : decode cX7_court 96 = .ok (.getfield 14, 3) := by decide +kernel
theorem dX7_court_99 : decode cX7_court 99 = .ok (.iload_n 1, 1) := by decide +kernel
theorem dX7_court_100 : decode cX7_court 100 = .ok (.putfield 79, 3) := by decide +kernel
theorem dX7_court_103 : decode cX7_court 103 = .ok (.aload_n 0, 1) := by decide +kernel
theorem dX7_court_104 : decode cX7_court 104 = .ok (.getfield 14, 3) := by decide +kernel
theorem dX7_court_107 : decode cX7_court 107 = .ok (.dup, 1) := by decide +kernel
theorem dX7_court_108 : decode cX7_court 108 = .ok (.getfield 70, 3) := by decide +kernel
theorem dX7_court_111 : decode cX7_court 111 = .ok (.iconst 1, 1) := by decide +kernel
theorem dX7_court_112 : decode cX7_court 112 = .ok (.iadd, 1) := by decide +kernel
theorem dX7_court_113 : decode cX7_court 113 = .ok (.putfield 70, 3) := by decide +kernel
theorem dX7_court_116 : decode cX7_court 116 = .ok (.aload_n 0, 1) := by decide +kernel
theorem dX7_court_117 : decode cX7_court 117 = .ok (.getfield 14, 3) := by decide +kernel
theorem dX7_court_120 : decode cX7_court 120 = .ok (.getfield 70, 3) := by decide +kernel
theorem dX7_court_123 : decode cX7_court 123 = .ok (.iconst 1, 1) := by decide +kernel
theorem dX7_court_124 : decode cX7_court 124 = .ok (.isub, 1) := by decide +kernel
theorem dX7_court_125 : decode cX7_court 125 = .ok (.ireturn, 1) := by decide +kernel
theorem dX7_day_0 : decode cX7_day 0 = .ok (.iload_n 1, 1) := by decide +kernel
theorem dX7_day_1 : decode cX7_day 1 = .ok (.ifCond .lt 9, 3) := by decide +kernel
theorem dX7_day_4 : decode cX7_day 4 = .ok (.iload_n 1, 1) := by decide +kernel
theorem dX7_day_5 : decode cX7_day 5 = .ok (.bipush 9, 2) := by decide +kernel
theorem dX7_day_7 : decode cX7_day 7 = .ok (.if_icmp .le 6, 3) := by decide +kernel
theorem dX7_day_10 : decode cX7_day 10 = .ok (.bipush (-2), 2) := by decide +kernel
theorem dX7_day_12 : decode cX7_day 12 = .ok (.ireturn, 1) := by decide +kernel
theorem dX7_day_13 : decode cX7_day 13 = .ok (.aload_n 0, 1) := by decide +kernel
theorem dX7_day_14 : decode cX7_day 14 = .ok (.getfield 14, 3) := by decide +kernel
theorem dX7_day_17 : decode cX7_day 17 = .ok (.getfield 82, 3) := by decide +kernel
theorem dX7_day_20 : decode cX7_day 20 = .ok (.istore_n 2, 1) := by decide +kernel
theorem dX7_day_21 : decode cX7_day 21 = .ok (.aload_n 0, 1) := by decide +kernel
theorem dX7_day_22 : decode cX7_day 22 = .ok (.getfield 14, 3) := by decide +kernel
theorem dX7_day_25 : decode cX7_day 25 = .ok (.iload_n 1, 1) := by decide +kernel
theorem dX7_day_26 : decode cX7_day 26 = .ok (.putfield 82, 3) := by decide +kernel
theorem dX7_day_29 : decode cX7_day 29 = .ok (.iload_n 2, 1) := by decide +kernel
theorem dX7_day_30 : decode cX7_day 30 = .ok (.ireturn, 1) := by decide +kernel
theorem dX7_suit_0 : decode cX7_suit 0 = .ok (.iload_n 1, 1) := by decide +kernel
theorem dX7_suit_1 : decode cX7_suit 1 = .ok (.ifCond .lt 20, 3) := by decide +kernel
theorem dX7_suit_4 : decode cX7_suit 4 = .ok (.iload_n 1, 1) := by decide +kernel
theorem dX7_suit_5 : decode cX7_suit 5 = .ok (.sipush 256, 3) := by decide +kernel
theorem dX7_suit_8 : decode cX7_suit 8 = .ok (.if_icmp .ge 13, 3) := by decide +kernel
theorem dX7_suit_11 : decode cX7_suit 11 = .ok (.iload_n 2, 1) := by decide +kernel
theorem dX7_suit_12 : decode cX7_suit 12 = .ok (.ifCond .lt 9, 3) := by decide +kernel
theorem dX7_suit_15 : decode cX7_suit 15 = .ok (.iload_n 2, 1) := by decide +kernel
theorem dX7_suit_16 : decode cX7_suit 16 = .ok (.bipush 99, 2) := by decide +kernel
theorem dX7_suit_18 : decode cX7_suit 18 = .ok (.if_icmp .le 6, 3) := by decide +kernel
theorem dX7_suit_21 : decode cX7_suit 21 = .ok (.bipush (-2), 2) := by decide +kernel
theorem dX7_suit_23 : decode cX7_suit 23 = .ok (.ireturn, 1) := by decide +kernel
theorem dX7_suit_24 : decode cX7_suit 24 = .ok (.aload_n 0, 1) := by decide +kernel
theorem dX7_suit_25 : decode cX7_suit 25 = .ok (.getfield 14, 3) := by decide +kernel
theorem dX7_suit_28 : decode cX7_suit 28 = .ok (.getfield 85, 3) := by decide +kernel
theorem dX7_suit_31 : decode cX7_suit 31 = .ok (.ifCond .lt 15, 3) := by decide +kernel
theorem dX7_suit_34 : decode cX7_suit 34 = .ok (.aload_n 0, 1) := by decide +kernel
theorem dX7_suit_35 : decode cX7_suit 35 = .ok (.getfield 14, 3) := by decide +kernel
theorem dX7_suit_38 : decode cX7_suit 38 = .ok (.getfield 85, 3) := by decide +kernel
theorem dX7_suit_41 : decode cX7_suit 41 = .ok (.bipush 8, 2) := by decide +kernel
theorem dX7_suit_43 : decode cX7_suit 43 = .ok (.if_icmp .lt 6, 3) := by decide +kernel
theorem dX7_suit_46 : decode cX7_suit 46 = .ok (.bipush (-4), 2) := by decide +kernel
theorem dX7_suit_48 : decode cX7_suit 48 = .ok (.ireturn, 1) := by decide +kernel
theorem dX7_suit_49 : decode cX7_suit 49 = .ok (.aload_n 0, 1) := by decide +kernel
theorem dX7_suit_50 : decode cX7_suit 50 = .ok (.getfield 14, 3) := by decide +kernel
theorem dX7_suit_53 : decode cX7_suit 53 = .ok (.getfield 88, 3) := by decide +kernel
theorem dX7_suit_56 : decode cX7_suit 56 = .ok (.aload_n 0, 1) := by decide +kernel
theorem dX7_suit_57 : decode cX7_suit 57 = .ok (.getfield 14, 3) := by decide +kernel
theorem dX7_suit_60 : decode cX7_suit 60 = .ok (.getfield 85, 3) := by decide +kernel
theorem dX7_suit_63 : decode cX7_suit 63 = .ok (.iload_n 1, 1) := by decide +kernel
theorem dX7_suit_64 : decode cX7_suit 64 = .ok (.iastore, 1) := by decide +kernel
theorem dX7_suit_65 : decode cX7_suit 65 = .ok (.aload_n 0, 1) := by decide +kernel
theorem dX7_suit_66 : decode cX7_suit 66 = .ok (.getfield 14, 3) := by decide +kernel
theorem dX7_suit_69 : decode cX7_suit 69 = .ok (.getfield 92, 3) := by decide +kernel
theorem dX7_suit_72 : decode cX7_suit 72 = .ok (.aload_n 0, 1) := by decide +kernel
theorem dX7_suit_73 : decode cX7_suit 73 = .ok (.getfield 14, 3) := by decide +kernel
theorem dX7_suit_76 : decode cX7_suit 76 = .ok (.getfield 85, 3) := by decide +kernel
theorem dX7_suit_79 : decode cX7_suit 79 = .ok (.iload_n 2, 1) := by decide +kernel
theorem dX7_suit_80 : decode cX7_suit 80 = .ok (.iastore, 1) := by decide +kernel
theorem dX7_suit_81 : decode cX7_suit 81 = .ok (.aload_n 0, 1) := by decide +kernel
theorem dX7_suit_82 : decode cX7_suit 82 = .ok (.getfield 14, 3) := by decide +kernel
theorem dX7_suit_85 : decode cX7_suit 85 = .ok (.dup, 1) := by decide +kernel
theorem dX7_suit_86 : decode cX7_suit 86 = .ok (.getfield 85, 3) := by decide +kernel
theorem dX7_suit_89 : decode cX7_suit 89 = .ok (.iconst 1, 1) := by decide +kernel
theorem dX7_suit_90 : decode cX7_suit 90 = .ok (.iadd, 1) := by decide +kernel
theorem dX7_suit_91 : decode cX7_suit 91 = .ok (.putfield 85, 3) := by decide +kernel
theorem dX7_suit_94 : decode cX7_suit 94 = .ok (.aload_n 0, 1) := by decide +kernel
theorem dX7_suit_95 : decode cX7_suit 95 = .ok (.getfield 14, 3) := by decide +kernel
theorem dX7_suit_98 : decode cX7_suit 98 = .ok (.getfield 85, 3) := by decide +kernel
theorem dX7_suit_101 : decode cX7_suit 101 = .ok (.iconst 1, 1) := by decide +kernel
theorem dX7_suit_102 : decode cX7_suit 102 = .ok (.isub, 1) := by decide +kernel
theorem dX7_suit_103 : decode cX7_suit 103 = .ok (.ireturn, 1) := by decide +kernel
theorem dX7_of_0 : decode cX7_of 0 = .ok (.aload_n 0, 1) := by decide +kernel
theorem dX7_of_1 : decode cX7_of 1 = .ok (.getfield 14, 3) := by decide +kernel
theorem dX7_of_4 : decode cX7_of 4 = .ok (.iload_n 1, 1) := by decide +kernel
theorem dX7_of_5 : decode cX7_of 5 = .ok (.invokevirtual 95, 3) := by decide +kernel
theorem dX7_of_8 : decode cX7_of 8 = .ok (.ifCond .eq 12, 3) := by decide +kernel
theorem dX7_of_11 : decode cX7_of 11 = .ok (.iload_n 2, 1) := by decide +kernel
theorem dX7_of_12 : decode cX7_of 12 = .ok (.ifCond .lt 8, 3) := by decide +kernel
theorem dX7_of_15 : decode cX7_of 15 = .ok (.iload_n 2, 1) := by decide +kernel
theorem dX7_of_16 : decode cX7_of 16 = .ok (.iconst 1, 1) := by decide +kernel
theorem dX7_of_17 : decode cX7_of 17 = .ok (.if_icmp .le 5, 3) := by decide +kernel
theorem dX7_of_20 : decode cX7_of 20 = .ok (.iconst (-1), 1) := by decide +kernel
theorem dX7_of_21 : decode cX7_of 21 = .ok (.ireturn, 1) := by decide +kernel
theorem dX7_of_22 : decode cX7_of 22 = .ok (.iload_n 2, 1) := by decide +kernel
theorem dX7_of_23 : decode cX7_of 23 = .ok (.ifCond .ne 14, 3) := by decide +kernel
theorem dX7_of_26 : decode cX7_of 26 = .ok (.aload_n 0, 1) := by decide +kernel
theorem dX7_of_27 : decode cX7_of 27 = .ok (.getfield 14, 3) := by decide +kernel
theorem dX7_of_30 : decode cX7_of 30 = .ok (.iload_n 1, 1) := by decide +kernel
theorem dX7_of_31 : decode cX7_of 31 = .ok (.invokevirtual 99, 3) := by decide +kernel
theorem dX7_of_34 : decode cX7_of 34 = .ok (.goto 11, 3) := by decide +kernel
theorem dX7_of_37 : decode cX7_of 37 = .ok (.aload_n 0, 1) := by decide +kernel
theorem dX7_of_38 : decode cX7_of 38 = .ok (.getfield 14, 3) := by decide +kernel
theorem dX7_of_41 : decode cX7_of 41 = .ok (.iload_n 1, 1) := by decide +kernel
theorem dX7_of_42 : decode cX7_of 42 = .ok (.invokevirtual 103, 3) := by decide +kernel
theorem dX7_of_45 : decode cX7_of 45 = .ok (.ireturn, 1) := by decide +kernel
theorem dX7_judge_0 : decode cX7_judge 0 = .ok (.iload_n 1, 1) := by decide +kernel
theorem dX7_judge_1 : decode cX7_judge 1 = .ok (.ifCond .lt 9, 3) := by decide +kernel
theorem dX7_judge_4 : decode cX7_judge 4 = .ok (.iload_n 1, 1) := by decide +kernel
theorem dX7_judge_5 : decode cX7_judge 5 = .ok (.bipush 7, 2) := by decide +kernel
theorem dX7_judge_7 : decode cX7_judge 7 = .ok (.if_icmp .lt 5, 3) := by decide +kernel
theorem dX7_judge_10 : decode cX7_judge 10 = .ok (.iconst (-1), 1) := by decide +kernel
theorem dX7_judge_11 : decode cX7_judge 11 = .ok (.ireturn, 1) := by decide +kernel
theorem dX7_judge_12 : decode cX7_judge 12 = .ok (.iload_n 2, 1) := by decide +kernel
theorem dX7_judge_13 : decode cX7_judge 13 = .ok (.ifCond .lt 9, 3) := by decide +kernel
theorem dX7_judge_16 : decode cX7_judge 16 = .ok (.iload_n 2, 1) := by decide +kernel
theorem dX7_judge_17 : decode cX7_judge 17 = .ok (.bipush 9, 2) := by decide +kernel
theorem dX7_judge_19 : decode cX7_judge 19 = .ok (.if_icmp .le 6, 3) := by decide +kernel
theorem dX7_judge_22 : decode cX7_judge 22 = .ok (.bipush (-2), 2) := by decide +kernel
theorem dX7_judge_24 : decode cX7_judge 24 = .ok (.ireturn, 1) := by decide +kernel
theorem dX7_judge_25 : decode cX7_judge 25 = .ok (.aload_n 0, 1) := by decide +kernel
theorem dX7_judge_26 : decode cX7_judge 26 = .ok (.getfield 14, 3) := by decide +kernel
theorem dX7_judge_29 : decode cX7_judge 29 = .ok (.getfield 106, 3) := by decide +kernel
theorem dX7_judge_32 : decode cX7_judge 32 = .ok (.ifCond .lt 14, 3) := by decide +kernel
theorem dX7_judge_35 : decode cX7_judge 35 = .ok (.aload_n 0, 1) := by decide +kernel
theorem dX7_judge_36 : decode cX7_judge 36 = .ok (.getfield 14, 3) := by decide +kernel
theorem dX7_judge_39 : decode cX7_judge 39 = .ok (.getfield 106, 3) := by decide +kernel
theorem dX7_judge_42 : decode cX7_judge 42 = .ok (.iconst 4, 1) := by decide +kernel
theorem dX7_judge_43 : decode cX7_judge 43 = .ok (.if_icmp .lt 6, 3) := by decide +kernel
theorem dX7_judge_46 : decode cX7_judge 46 = .ok (.bipush (-4), 2) := by decide +kernel
theorem dX7_judge_48 : decode cX7_judge 48 = .ok (.ireturn, 1) := by decide +kernel
theorem dX7_judge_49 : decode cX7_judge 49 = .ok (.aload_n 0, 1) := by decide +kernel
theorem dX7_judge_50 : decode cX7_judge 50 = .ok (.getfield 14, 3) := by decide +kernel
theorem dX7_judge_53 : decode cX7_judge 53 = .ok (.getfield 109, 3) := by decide +kernel
theorem dX7_judge_56 : decode cX7_judge 56 = .ok (.aload_n 0, 1) := by decide +kernel
theorem dX7_judge_57 : decode cX7_judge 57 = .ok (.getfield 14, 3) := by decide +kernel
theorem dX7_judge_60 : decode cX7_judge 60 = .ok (.getfield 106, 3) := by decide +kernel
theorem dX7_judge_63 : decode cX7_judge 63 = .ok (.iload_n 1, 1) := by decide +kernel
theorem dX7_judge_64 : decode cX7_judge 64 = .ok (.iastore, 1) := by decide +kernel
theorem dX7_judge_65 : decode cX7_judge 65 = .ok (.aload_n 0, 1) := by decide +kernel
theorem dX7_judge_66 : decode cX7_judge 66 = .ok (.getfield 14, 3) := by decide +kernel
theorem dX7_judge_69 : decode cX7_judge 69 = .ok (.getfield 112, 3) := by decide +kernel
theorem dX7_judge_72 : decode cX7_judge 72 = .ok (.aload_n 0, 1) := by decide +kernel
theorem dX7_judge_73 : decode cX7_judge 73 = .ok (.getfield 14, 3) := by decide +kernel
theorem dX7_judge_76 : decode cX7_judge 76 = .ok (.getfield 106, 3) := by decide +kernel
theorem dX7_judge_79 : decode cX7_judge 79 = .ok (.iload_n 2, 1) := by decide +kernel
theorem dX7_judge_80 : decode cX7_judge 80 = .ok (.iastore, 1) := by decide +kernel
theorem dX7_judge_81 : decode cX7_judge 81 = .ok (.aload_n 0, 1) := by decide +kernel
theorem dX7_judge_82 : decode cX7_judge 82 = .ok (.getfield 14, 3) := by decide +kernel
theorem dX7_judge_85 : decode cX7_judge 85 = .ok (.dup, 1) := by decide +kernel
theorem dX7_judge_86 : decode cX7_judge 86 = .ok (.getfield 106, 3) := by decide +kernel
theorem dX7_judge_89 : decode cX7_judge 89 = .ok (.iconst 1, 1) := by decide +kernel
theorem dX7_judge_90 : decode cX7_judge 90 = .ok (.iadd, 1) := by decide +kernel
theorem dX7_judge_91 : decode cX7_judge 91 = .ok (.putfield 106, 3) := by decide +kernel
theorem dX7_judge_94 : decode cX7_judge 94 = .ok (.aload_n 0, 1) := by decide +kernel
theorem dX7_judge_95 : decode cX7_judge 95 = .ok (.getfield 14, 3) := by decide +kernel
theorem dX7_judge_98 : decode cX7_judge 98 = .ok (.getfield 106, 3) := by decide +kernel
theorem dX7_judge_101 : decode cX7_judge 101 = .ok (.iconst 1, 1) := by decide +kernel
theorem dX7_judge_102 : decode cX7_judge 102 = .ok (.isub, 1) := by decide +kernel
theorem dX7_judge_103 : decode cX7_judge 103 = .ok (.ireturn, 1) := by decide +kernel
theorem dX7_at_0 : decode cX7_at 0 = .ok (.aload_n 0, 1) := by decide +kernel
theorem dX7_at_1 : decode cX7_at 1 = .ok (.getfield 14, 3) := by decide +kernel
theorem dX7_at_4 : decode cX7_at 4 = .ok (.iload_n 1, 1) := by decide +kernel
theorem dX7_at_5 : decode cX7_at 5 = .ok (.invokevirtual 115, 3) := by decide +kernel
theorem dX7_at_8 : decode cX7_at 8 = .ok (.ifCond .ne 5, 3) := by decide +kernel
theorem dX7_at_11 : decode cX7_at 11 = .ok (.iconst (-1), 1) := by decide +kernel
theorem dX7_at_12 : decode cX7_at 12 = .ok (.ireturn, 1) := by decide +kernel
theorem dX7_at_13 : decode cX7_at 13 = .ok (.iload_n 2, 1) := by decide +kernel
theorem dX7_at_14 : decode cX7_at 14 = .ok (.ifCond .ne 12, 3) := by decide +kernel
theorem dX7_at_17 : decode cX7_at 17 = .ok (.aload_n 0, 1) := by decide +kernel
theorem dX7_at_18 : decode cX7_at 18 = .ok (.getfield 14, 3) := by decide +kernel
theorem dX7_at_21 : decode cX7_at 21 = .ok (.iload_n 1, 1) := by decide +kernel
theorem dX7_at_22 : decode cX7_at 22 = .ok (.invokevirtual 118, 3) := by decide +kernel
theorem dX7_at_25 : decode cX7_at 25 = .ok (.ireturn, 1) := by decide +kernel
theorem dX7_at_26 : decode cX7_at 26 = .ok (.iload_n 2, 1) := by decide +kernel
theorem dX7_at_27 : decode cX7_at 27 = .ok (.iconst 1, 1) := by decide +kernel
theorem dX7_at_28 : decode cX7_at 28 = .ok (.if_icmp .ne 12, 3) := by decide +kernel
theorem dX7_at_31 : decode cX7_at 31 = .ok (.aload_n 0, 1) := by decide +kernel
theorem dX7_at_32 : decode cX7_at 32 = .ok (.getfield 14, 3) := by decide +kernel
theorem dX7_at_35 : decode cX7_at 35 = .ok (.iload_n 1, 1) := by decide +kernel
theorem dX7_at_36 : decode cX7_at 36 = .ok (.invokevirtual 121, 3) := by decide +kernel
theorem dX7_at_39 : decode cX7_at 39 = .ok (.ireturn, 1) := by decide +kernel
theorem dX7_at_40 : decode cX7_at 40 = .ok (.iload_n 2, 1) := by decide +kernel
theorem dX7_at_41 : decode cX7_at 41 = .ok (.bipush 10, 2) := by decide +kernel
theorem dX7_at_43 : decode cX7_at 43 = .ok (.if_icmp .lt 27, 3) := by decide +kernel
theorem dX7_at_46 : decode cX7_at 46 = .ok (.iload_n 2, 1) := by decide +kernel
theorem dX7_at_47 : decode cX7_at 47 = .ok (.bipush 18, 2) := by decide +kernel
theorem dX7_at_49 : decode cX7_at 49 = .ok (.if_icmp .ge 21, 3) := by decide +kernel
theorem dX7_at_52 : decode cX7_at 52 = .ok (.aload_n 0, 1) := by decide +kernel
theorem dX7_at_53 : decode cX7_at 53 = .ok (.iload_n 1, 1) := by decide +kernel
theorem dX7_at_54 : decode cX7_at 54 = .ok (.invokevirtual 124, 3) := by decide +kernel
theorem dX7_at_57 : decode cX7_at 57 = .ok (.aload_n 0, 1) := by decide +kernel
theorem dX7_at_58 : decode cX7_at 58 = .ok (.getfield 28, 3) := by decide +kernel
theorem dX7_at_61 : decode cX7_at 61 = .ok (.getfield 128, 3) := by decide +kernel
theorem dX7_at_64 : decode cX7_at 64 = .ok (.iload_n 2, 1) := by decide +kernel
theorem dX7_at_65 : decode cX7_at 65 = .ok (.bipush 10, 2) := by decide +kernel
theorem dX7_at_67 : decode cX7_at 67 = .ok (.isub, 1) := by decide +kernel
theorem dX7_at_68 : decode cX7_at 68 = .ok (.iaload, 1) := by decide +kernel
theorem dX7_at_69 : decode cX7_at 69 = .ok (.ireturn, 1) := by decide +kernel
theorem dX7_at_70 : decode cX7_at 70 = .ok (.iload_n 2, 1) := by decide +kernel
theorem dX7_at_71 : decode cX7_at 71 = .ok (.bipush 20, 2) := by decide +kernel
theorem dX7_at_73 : decode cX7_at 73 = .ok (.if_icmp .lt 27, 3) := by decide +kernel
theorem dX7_at_76 : decode cX7_at 76 = .ok (.iload_n 2, 1) := by decide +kernel
theorem dX7_at_77 : decode cX7_at 77 = .ok (.bipush 28, 2) := by decide +kernel
theorem dX7_at_79 : decode cX7_at 79 = .ok (.if_icmp .ge 21, 3) := by decide +kernel
theorem dX7_at_82 : decode cX7_at 82 = .ok (.aload_n 0, 1) := by decide +kernel
theorem dX7_at_83 : decode cX7_at 83 = .ok (.iload_n 1, 1) := by decide +kernel
theorem dX7_at_84 : decode cX7_at 84 = .ok (.invokevirtual 124, 3) := by decide +kernel
theorem dX7_at_87 : decode cX7_at 87 = .ok (.aload_n 0, 1) := by decide +kernel
theorem dX7_at_88 : decode cX7_at 88 = .ok (.getfield 28, 3) := by decide +kernel
theorem dX7_at_91 : decode cX7_at 91 = .ok (.getfield 131, 3) := by decide +kernel
theorem dX7_at_94 : decode cX7_at 94 = .ok (.iload_n 2, 1) := by decide +kernel
theorem dX7_at_95 : decode cX7_at 95 = .ok (.bipush 20, 2) := by decide +kernel
theorem dX7_at_97 : decode cX7_at 97 = .ok (.isub, 1) := by decide +kernel
theorem dX7_at_98 : decode cX7_at 98 = .ok (.iaload, 1) := by decide +kernel
theorem dX7_at_99 : decode cX7_at 99 = .ok (.ireturn, 1) := by decide +kernel
theorem dX7_at_100 : decode cX7_at 100 = .ok (.iconst (-1), 1) := by decide +kernel
theorem dX7_at_101 : decode cX7_at 101 = .ok (.ireturn, 1) := by decide +kernel
theorem dX7_row_0 : decode cX7_row 0 = .ok (.aload_n 0, 1) := by decide +kernel
theorem dX7_row_1 : decode cX7_row 1 = .ok (.getfield 14, 3) := by decide +kernel
theorem dX7_row_4 : decode cX7_row 4 = .ok (.iload_n 1, 1) := by decide +kernel
theorem dX7_row_5 : decode cX7_row 5 = .ok (.invokevirtual 115, 3) := by decide +kernel
theorem dX7_row_8 : decode cX7_row 8 = .ok (.ifCond .eq 12, 3) := by decide +kernel
theorem dX7_row_11 : decode cX7_row 11 = .ok (.iload_n 2, 1) := by decide +kernel
theorem dX7_row_12 : decode cX7_row 12 = .ok (.ifCond .lt 8, 3) := by decide +kernel
theorem dX7_row_15 : decode cX7_row 15 = .ok (.iload_n 2, 1) := by decide +kernel
theorem dX7_row_16 : decode cX7_row 16 = .ok (.iconst 4, 1) := by decide +kernel
theorem dX7_row_17 : decode cX7_row 17 = .ok (.if_icmp .lt 5, 3) := by decide +kernel
theorem dX7_row_20 : decode cX7_row 20 = .ok (.iconst (-1), 1) := by decide +kernel
theorem dX7_row_21 : decode cX7_row 21 = .ok (.ireturn, 1) := by decide +kernel
theorem dX7_row_22 : decode cX7_row 22 = .ok (.iload_n 3, 1) := by decide +kernel
theorem dX7_row_23 : decode cX7_row 23 = .ok (.ifCond .lt 8, 3) := by decide +kernel
theorem dX7_row_26 : decode cX7_row 26 = .ok (.iload_n 3, 1) := by decide +kernel
theorem dX7_row_27 : decode cX7_row 27 = .ok (.iconst 2, 1) := by decide +kernel
theorem dX7_row_28 : decode cX7_row 28 = .ok (.if_icmp .le 6, 3) := by decide +kernel
theorem dX7_row_31 : decode cX7_row 31 = .ok (.bipush (-2), 2) := by decide +kernel
theorem dX7_row_33 : decode cX7_row 33 = .ok (.ireturn, 1) := by decide +kernel
theorem dX7_row_34 : decode cX7_row 34 = .ok (.aload_n 0, 1) := by decide +kernel
theorem dX7_row_35 : decode cX7_row 35 = .ok (.getfield 14, 3) := by decide +kernel
theorem dX7_row_38 : decode cX7_row 38 = .ok (.iload_n 1, 1) := by decide +kernel
theorem dX7_row_39 : decode cX7_row 39 = .ok (.invokevirtual 118, 3) := by decide +kernel
theorem dX7_row_42 : decode cX7_row 42 = .ok (.bipush 6, 2) := by decide +kernel
theorem dX7_row_44 : decode cX7_row 44 = .ok (.if_icmp .eq 6, 3) := by decide +kernel
theorem dX7_row_47 : decode cX7_row 47 = .ok (.bipush (-3), 2) := by decide +kernel
theorem dX7_row_49 : decode cX7_row 49 = .ok (.ireturn, 1) := by decide +kernel
theorem dX7_row_50 : decode cX7_row 50 = .ok (.aload_n 0, 1) := by decide +kernel
theorem dX7_row_51 : decode cX7_row 51 = .ok (.getfield 14, 3) := by decide +kernel
theorem dX7_row_54 : decode cX7_row 54 = .ok (.getfield 134, 3) := by decide +kernel
theorem dX7_row_57 : decode cX7_row 57 = .ok (.iload_n 1, 1) := by decide +kernel
theorem dX7_row_58 : decode cX7_row 58 = .ok (.iconst 4, 1) := by decide +kernel
theorem dX7_row_59 : decode cX7_row 59 = .ok (.imul, 1) := by decide +kernel
theorem dX7_row_60 : decode cX7_row 60 = .ok (.iload_n 2, 1) := by decide +kernel
theorem dX7_row_61 : decode cX7_row 61 = .ok (.iadd, 1) := by decide +kernel
theorem dX7_row_62 : decode cX7_row 62 = .ok (.iaload, 1) := by decide +kernel
theorem dX7_row_63 : decode cX7_row 63 = .ok (.istore 4, 2) := by decide +kernel
theorem dX7_row_65 : decode cX7_row 65 = .ok (.aload_n 0, 1) := by decide +kernel
theorem dX7_row_66 : decode cX7_row 66 = .ok (.getfield 14, 3) := by decide +kernel
theorem dX7_row_69 : decode cX7_row 69 = .ok (.getfield 134, 3) := by decide +kernel
theorem dX7_row_72 : decode cX7_row 72 = .ok (.iload_n 1, 1) := by decide +kernel
theorem dX7_row_73 : decode cX7_row 73 = .ok (.iconst 4, 1) := by decide +kernel
theorem dX7_row_74 : decode cX7_row 74 = .ok (.imul, 1) := by decide +kernel
theorem dX7_row_75 : decode cX7_row 75 = .ok (.iload_n 2, 1) := by decide +kernel
theorem dX7_row_76 : decode cX7_row 76 = .ok (.iadd, 1) := by decide +kernel
theorem dX7_row_77 : decode cX7_row 77 = .ok (.iload_n 3, 1) := by decide +kernel
theorem dX7_row_78 : decode cX7_row 78 = .ok (.iastore, 1) := by decide +kernel
theorem dX7_row_79 : decode cX7_row 79 = .ok (.iload 4, 2) := by decide +kernel
theorem dX7_row_81 : decode cX7_row 81 = .ok (.ireturn, 1) := by decide +kernel
theorem dX7_told_0 : decode cX7_told 0 = .ok (.iload_n 1, 1) := by decide +kernel
theorem dX7_told_1 : decode cX7_told 1 = .ok (.ifCond .ne 11, 3) := by decide +kernel
theorem dX7_told_4 : decode cX7_told 4 = .ok (.aload_n 0, 1) := by decide +kernel
theorem dX7_told_5 : decode cX7_told 5 = .ok (.getfield 14, 3) := by decide +kernel
theorem dX7_told_8 : decode cX7_told 8 = .ok (.getfield 82, 3) := by decide +kernel
theorem dX7_told_11 : decode cX7_told 11 = .ok (.ireturn, 1) := by decide +kernel
theorem dX7_told_12 : decode cX7_told 12 = .ok (.iload_n 1, 1) := by decide +kernel
theorem dX7_told_13 : decode cX7_told 13 = .ok (.iconst 1, 1) := by decide +kernel
theorem dX7_told_14 : decode cX7_told 14 = .ok (.if_icmp .ne 42, 3) := by decide +kernel
theorem dX7_told_17 : decode cX7_told 17 = .ok (.aload_n 0, 1) := by decide +kernel
theorem dX7_told_18 : decode cX7_told 18 = .ok (.getfield 28, 3) := by decide +kernel
theorem dX7_told_21 : decode cX7_told 21 = .ok (.aload_n 0, 1) := by decide +kernel
theorem dX7_told_22 : decode cX7_told 22 = .ok (.getfield 14, 3) := by decide +kernel
theorem dX7_told_25 : decode cX7_told 25 = .ok (.getfield 77, 3) := by decide +kernel
theorem dX7_told_28 : decode cX7_told 28 = .ok (.aload_n 0, 1) := by decide +kernel
theorem dX7_told_29 : decode cX7_told 29 = .ok (.getfield 14, 3) := by decide +kernel
theorem dX7_told_32 : decode cX7_told 32 = .ok (.getfield 79, 3) := by decide +kernel
theorem dX7_told_35 : decode cX7_told 35 = .ok (.iconst 0, 1) := by decide +kernel
theorem dX7_told_36 : decode cX7_told 36 = .ok (.iconst 0, 1) := by decide +kernel
theorem dX7_told_37 : decode cX7_told 37 = .ok (.aload_n 0, 1) := by decide +kernel
theorem dX7_told_38 : decode cX7_told 38 = .ok (.getfield 14, 3) := by decide +kernel
theorem dX7_told_41 : decode cX7_told 41 = .ok (.getfield 82, 3) := by decide +kernel
theorem dX7_told_44 : decode cX7_told 44 = .ok (.invokevirtual 73, 3) := by decide +kernel
theorem dX7_told_47 : decode cX7_told 47 = .ok (.pop, 1) := by decide +kernel
theorem dX7_told_48 : decode cX7_told 48 = .ok (.aload_n 0, 1) := by decide +kernel
theorem dX7_told_49 : decode cX7_told 49 = .ok (.getfield 28, 3) := by decide +kernel
theorem dX7_told_52 : decode cX7_told 52 = .ok (.getfield 137, 3) := by decide +kernel
theorem dX7_told_55 : decode cX7_told 55 = .ok (.ireturn, 1) := by decide +kernel
theorem dX7_told_56 : decode cX7_told 56 = .ok (.iconst (-1), 1) := by decide +kernel
theorem dX7_told_57 : decode cX7_told 57 = .ok (.ireturn, 1) := by decide +kernel
theorem dX7_score_0 : decode cX7_score 0 = .ok (.aload_n 0, 1) := by decide +kernel
theorem dX7_score_1 : decode cX7_score 1 = .ok (.getfield 14, 3) := by decide +kernel
theorem dX7_score_4 : decode cX7_score 4 = .ok (.iload_n 1, 1) := by decide +kernel
theorem dX7_score_5 : decode cX7_score 5 = .ok (.invokevirtual 115, 3) := by decide +kernel
theorem dX7_score_8 : decode cX7_score 8 = .ok (.ifCond .eq 25, 3) := by decide +kernel
theorem dX7_score_11 : decode cX7_score 11 = .ok (.aload_n 0, 1) := by decide +kernel
theorem dX7_score_12 : decode cX7_score 12 = .ok (.getfield 14, 3) := by decide +kernel
theorem dX7_score_15 : decode cX7_score 15 = .ok (.iload_n 2, 1) := by decide +kernel
theorem dX7_score_16 : decode cX7_score 16 = .ok (.invokevirtual 95, 3) := by decide +kernel
theorem dX7_score_19 : decode cX7_score 19 = .ok (.ifCond .eq 14, 3) := by decide +kernel
theorem dX7_score_22 : decode cX7_score 22 = .ok (.aload_n 0, 1) := by decide +kernel
theorem dX7_score_23 : decode cX7_score 23 = .ok (.getfield 14, 3) := by decide +kernel
theorem dX7_score_26 : decode cX7_score 26 = .ok (.iload_n 3, 1) := by decide +kernel
theorem dX7_score_27 : decode cX7_score 27 = .ok (.invokevirtual 95, 3) := by decide +kernel
theorem dX7_score_30 : decode cX7_score 30 = .ok (.ifCond .ne 6, 3) := by decide +kernel
theorem dX7_score_33 : decode cX7_score 33 = .ok (.ldc 140, 2) := by decide +kernel
theorem dX7_score_35 : decode cX7_score 35 = .ok (.ireturn, 1) := by decide +kernel
theorem dX7_score_36 : decode cX7_score 36 = .ok (.aload_n 0, 1) := by decide +kernel
theorem dX7_score_37 : decode cX7_score 37 = .ok (.iload_n 1, 1) := by decide +kernel
theorem dX7_score_38 : decode cX7_score 38 = .ok (.invokevirtual 124, 3) := by decide +kernel
theorem dX7_score_41 : decode cX7_score 41 = .ok (.aload_n 0, 1) := by decide +kernel
theorem dX7_score_42 : decode cX7_score 42 = .ok (.getfield 35, 3) := by decide +kernel
theorem dX7_score_45 : decode cX7_score 45 = .ok (.aload_n 0, 1) := by decide +kernel
theorem dX7_score_46 : decode cX7_score 46 = .ok (.getfield 14, 3) := by decide +kernel
theorem dX7_score_49 : decode cX7_score 49 = .ok (.iload_n 2, 1) := by decide +kernel
theorem dX7_score_50 : decode cX7_score 50 = .ok (.invokevirtual 99, 3) := by decide +kernel
theorem dX7_score_53 : decode cX7_score 53 = .ok (.aload_n 0, 1) := by decide +kernel
theorem dX7_score_54 : decode cX7_score 54 = .ok (.getfield 14, 3) := by decide +kernel
theorem dX7_score_57 : decode cX7_score 57 = .ok (.iload_n 3, 1) := by decide +kernel
theorem dX7_score_58 : decode cX7_score 58 = .ok (.invokevirtual 99, 3) := by decide +kernel
theorem dX7_score_61 : decode cX7_score 61 = .ok (.invokevirtual 141, 3) := by decide +kernel
theorem dX7_score_64 : decode cX7_score 64 = .ok (.ireturn, 1) := by decide +kernel
theorem dX7_decides_0 : decode cX7_decides 0 = .ok (.aload_n 0, 1) := by decide +kernel
theorem dX7_decides_1 : decode cX7_decides 1 = .ok (.getfield 14, 3) := by decide +kernel
theorem dX7_decides_4 : decode cX7_decides 4 = .ok (.iload_n 1, 1) := by decide +kernel
theorem dX7_decides_5 : decode cX7_decides 5 = .ok (.invokevirtual 115, 3) := by decide +kernel
theorem dX7_decides_8 : decode cX7_decides 8 = .ok (.ifCond .eq 23, 3) := by decide +kernel
theorem dX7_decides_11 : decode cX7_decides 11 = .ok (.aload_n 0, 1) := by decide +kernel
theorem dX7_decides_12 : decode cX7_decides 12 = .ok (.getfield 14, 3) := by decide +kernel
theorem dX7_decides_15 : decode cX7_decides 15 = .ok (.iload_n 2, 1) := by decide +kernel
theorem dX7_decides_16 : decode cX7_decides 16 = .ok (.invokevirtual 95, 3) := by decide +kernel
theorem dX7_decides_19 : decode cX7_decides 19 = .ok (.ifCond .eq 12, 3) := by decide +kernel
theorem dX7_decides_22 : decode cX7_decides 22 = .ok (.iload_n 3, 1) := by decide +kernel
theorem dX7_decides_23 : decode cX7_decides 23 = .ok (.ifCond .lt 8, 3) := by decide +kernel
theorem dX7_decides_26 : decode cX7_decides 26 = .ok (.iload_n 3, 1) := by decide +kernel
theorem dX7_decides_27 : decode cX7_decides 27 = .ok (.iconst 2, 1) := by decide +kernel
theorem dX7_decides_28 : decode cX7_decides 28 = .ok (.if_icmp .le 5, 3) := by decide +kernel
theorem dX7_decides_31 : decode cX7_decides 31 = .ok (.iconst (-1), 1) := by decide +kernel
theorem dX7_decides_32 : decode cX7_decides 32 = .ok (.ireturn, 1) := by decide +kernel
theorem dX7_decides_33 : decode cX7_decides 33 = .ok (.aload_n 0, 1) := by decide +kernel
theorem dX7_decides_34 : decode cX7_decides 34 = .ok (.iload_n 1, 1) := by decide +kernel
theorem dX7_decides_35 : decode cX7_decides 35 = .ok (.invokevirtual 124, 3) := by decide +kernel
theorem dX7_decides_38 : decode cX7_decides 38 = .ok (.aload_n 0, 1) := by decide +kernel
theorem dX7_decides_39 : decode cX7_decides 39 = .ok (.getfield 35, 3) := by decide +kernel
theorem dX7_decides_42 : decode cX7_decides 42 = .ok (.getfield 145, 3) := by decide +kernel
theorem dX7_decides_45 : decode cX7_decides 45 = .ok (.astore 4, 2) := by decide +kernel
theorem dX7_decides_47 : decode cX7_decides 47 = .ok (.aload 4, 2) := by decide +kernel
theorem dX7_decides_49 : decode cX7_decides 49 = .ok (.aload_n 0, 1) := by decide +kernel
theorem dX7_decides_50 : decode cX7_decides 50 = .ok (.getfield 14, 3) := by decide +kernel
theorem dX7_decides_53 : decode cX7_decides 53 = .ok (.iload_n 2, 1) := by decide +kernel
theorem dX7_decides_54 : decode cX7_decides 54 = .ok (.invokevirtual 99, 3) := by decide +kernel
theorem dX7_decides_57 : decode cX7_decides 57 = .ok (.invokevirtual 149, 3) := by decide +kernel
theorem dX7_decides_60 : decode cX7_decides 60 = .ok (.aload_n 0, 1) := by decide +kernel
theorem dX7_decides_61 : decode cX7_decides 61 = .ok (.getfield 35, 3) := by decide +kernel
theorem dX7_decides_64 : decode cX7_decides 64 = .ok (.aload 4, 2) := by decide +kernel
theorem dX7_decides_66 : decode cX7_decides 66 = .ok (.aload_n 0, 1) := by decide +kernel
theorem dX7_decides_67 : decode cX7_decides 67 = .ok (.getfield 35, 3) := by decide +kernel
theorem dX7_decides_70 : decode cX7_decides 70 = .ok (.getfield 154, 3) := by decide +kernel
theorem dX7_decides_73 : decode cX7_decides 73 = .ok (.invokevirtual 157, 3) := by decide +kernel
theorem dX7_decides_76 : decode cX7_decides 76 = .ok (.iload_n 3, 1) := by decide +kernel
theorem dX7_decides_77 : decode cX7_decides 77 = .ok (.ifCond .ne 21, 3) := by decide +kernel
theorem dX7_decides_80 : decode cX7_decides 80 = .ok (.aload_n 0, 1) := by decide +kernel
theorem dX7_decides_81 : decode cX7_decides 81 = .ok (.getfield 35, 3) := by decide +kernel
theorem dX7_decides_84 : decode cX7_decides 84 = .ok (.aload 4, 2) := by decide +kernel
theorem dX7_decides_86 : decode cX7_decides 86 = .ok (.invokevirtual 161, 3) := by decide +kernel
theorem dX7_decides_89 : decode cX7_decides 89 = .ok (.ifCond .eq 7, 3) := by decide +kernel
theorem dX7_decides_92 : decode cX7_decides 92 = .ok (.iconst 1, 1) := by decide +kernel
theorem dX7_decides_93 : decode cX7_decides 93 = .ok (.goto 4, 3) := by decide +kernel
theorem dX7_decides_96 : decode cX7_decides 96 = .ok (.iconst 0, 1) := by decide +kernel
theorem dX7_decides_97 : decode cX7_decides 97 = .ok (.ireturn, 1) := by decide +kernel
theorem dX7_decides_98 : decode cX7_decides 98 = .ok (.iload_n 3, 1) := by decide +kernel
theorem dX7_decides_99 : decode cX7_decides 99 = .ok (.iconst 1, 1) := by decide +kernel
theorem dX7_decides_100 : decode cX7_decides 100 = .ok (.if_icmp .ne 15, 3) := by decide +kernel
theorem dX7_decides_103 : decode cX7_decides 103 = .ok (.aload_n 0, 1) := by decide +kernel
theorem dX7_decides_104 : decode cX7_decides 104 = .ok (.getfield 35, 3) := by decide +kernel
theorem dX7_decides_107 : decode cX7_decides 107 = .ok (.aload 4, 2) := by decide +kernel
theorem dX7_decides_109 : decode cX7_decides 109 = .ok (.invokevirtual 165, 3) := by decide +kernel
theorem dX7_decides_112 : decode cX7_decides 112 = .ok (.goto 8, 3) := by decide +kernel
theorem dX7_decides_115 : decode cX7_decides 115 = .ok (.aload 4, 2) := by decide +kernel
theorem dX7_decides_117 : decode cX7_decides 117 = .ok (.invokevirtual 169, 3) := by decide +kernel
theorem dX7_decides_120 : decode cX7_decides 120 = .ok (.ireturn, 1) := by decide +kernel
theorem dX7_hear_0 : decode cX7_hear 0 = .ok (.aload_n 0, 1) := by decide +kernel
theorem dX7_hear_1 : decode cX7_hear 1 = .ok (.getfield 14, 3) := by decide +kernel
theorem dX7_hear_4 : decode cX7_hear 4 = .ok (.iload_n 1, 1) := by decide +kernel
theorem dX7_hear_5 : decode cX7_hear 5 = .ok (.invokevirtual 115, 3) := by decide +kernel
theorem dX7_hear_8 : decode cX7_hear 8 = .ok (.ifCond .eq 14, 3) := by decide +kernel
theorem dX7_hear_11 : decode cX7_hear 11 = .ok (.aload_n 0, 1) := by decide +kernel
theorem dX7_hear_12 : decode cX7_hear 12 = .ok (.getfield 14, 3) := by decide +kernel
theorem dX7_hear_15 : decode cX7_hear 15 = .ok (.iload_n 2, 1) := by decide +kernel
theorem dX7_hear_16 : decode cX7_hear 16 = .ok (.invokevirtual 95, 3) := by decide +kernel
theorem dX7_hear_19 : decode cX7_hear 19 = .ok (.ifCond .ne 5, 3) := by decide +kernel
theorem dX7_hear_22 : decode cX7_hear 22 = .ok (.iconst (-1), 1) := by decide +kernel
theorem dX7_hear_23 : decode cX7_hear 23 = .ok (.ireturn, 1) := by decide +kernel
theorem dX7_hear_24 : decode cX7_hear 24 = .ok (.aload_n 0, 1) := by decide +kernel
theorem dX7_hear_25 : decode cX7_hear 25 = .ok (.getfield 14, 3) := by decide +kernel
theorem dX7_hear_28 : decode cX7_hear 28 = .ok (.getfield 173, 3) := by decide +kernel
theorem dX7_hear_31 : decode cX7_hear 31 = .ok (.bipush 24, 2) := by decide +kernel
theorem dX7_hear_33 : decode cX7_hear 33 = .ok (.if_icmp .lt 6, 3) := by decide +kernel
theorem dX7_hear_36 : decode cX7_hear 36 = .ok (.bipush (-4), 2) := by decide +kernel
theorem dX7_hear_38 : decode cX7_hear 38 = .ok (.ireturn, 1) := by decide +kernel
theorem dX7_hear_39 : decode cX7_hear 39 = .ok (.aload_n 0, 1) := by decide +kernel
theorem dX7_hear_40 : decode cX7_hear 40 = .ok (.iload_n 1, 1) := by decide +kernel
theorem dX7_hear_41 : decode cX7_hear 41 = .ok (.invokevirtual 124, 3) := by decide +kernel
theorem dX7_hear_44 : decode cX7_hear 44 = .ok (.aload_n 0, 1) := by decide +kernel
theorem dX7_hear_45 : decode cX7_hear 45 = .ok (.getfield 35, 3) := by decide +kernel
theorem dX7_hear_48 : decode cX7_hear 48 = .ok (.aload_n 0, 1) := by decide +kernel
theorem dX7_hear_49 : decode cX7_hear 49 = .ok (.getfield 14, 3) := by decide +kernel
theorem dX7_hear_52 : decode cX7_hear 52 = .ok (.iload_n 2, 1) := by decide +kernel
theorem dX7_hear_53 : decode cX7_hear 53 = .ok (.invokevirtual 99, 3) := by decide +kernel
theorem dX7_hear_56 : decode cX7_hear 56 = .ok (.invokevirtual 176, 3) := by decide +kernel
theorem dX7_hear_59 : decode cX7_hear 59 = .ok (.istore_n 3, 1) := by decide +kernel
theorem dX7_hear_60 : decode cX7_hear 60 = .ok (.aload_n 0, 1) := by decide +kernel
theorem dX7_hear_61 : decode cX7_hear 61 = .ok (.getfield 14, 3) := by decide +kernel
theorem dX7_hear_64 : decode cX7_hear 64 = .ok (.iload_n 2, 1) := by decide +kernel
theorem dX7_hear_65 : decode cX7_hear 65 = .ok (.iload_n 3, 1) := by decide +kernel
theorem dX7_hear_66 : decode cX7_hear 66 = .ok (.invokevirtual 179, 3) := by decide +kernel
theorem dX7_hear_69 : decode cX7_hear 69 = .ok (.iload_n 3, 1) := by decide +kernel
theorem dX7_hear_70 : decode cX7_hear 70 = .ok (.ifCond .eq 7, 3) := by decide +kernel
theorem dX7_hear_73 : decode cX7_hear 73 = .ok (.iconst 1, 1) := by decide +kernel
theorem dX7_hear_74 : decode cX7_hear 74 = .ok (.goto 4, 3) := by decide +kernel
theorem dX7_hear_77 : decode cX7_hear 77 = .ok (.iconst 0, 1) := by decide +kernel
theorem dX7_hear_78 : decode cX7_hear 78 = .ok (.ireturn, 1) := by decide +kernel
theorem dX7_enter_0 : decode cX7_enter 0 = .ok (.iload_n 1, 1) := by decide +kernel
theorem dX7_enter_1 : decode cX7_enter 1 = .ok (.iconst (-1), 1) := by decide +kernel
theorem dX7_enter_2 : decode cX7_enter 2 = .ok (.if_icmp .ne 13, 3) := by decide +kernel
theorem dX7_enter_5 : decode cX7_enter 5 = .ok (.aload_n 0, 1) := by decide +kernel
theorem dX7_enter_6 : decode cX7_enter 6 = .ok (.getfield 14, 3) := by decide +kernel
theorem dX7_enter_9 : decode cX7_enter 9 = .ok (.iconst 0, 1) := by decide +kernel
theorem dX7_enter_10 : decode cX7_enter 10 = .ok (.putfield 173, 3) := by decide +kernel
theorem dX7_enter_13 : decode cX7_enter 13 = .ok (.iconst 0, 1) := by decide +kernel
theorem dX7_enter_14 : decode cX7_enter 14 = .ok (.ireturn, 1) := by decide +kernel
theorem dX7_enter_15 : decode cX7_enter 15 = .ok (.aload_n 0, 1) := by decide +kernel
theorem dX7_enter_16 : decode cX7_enter 16 = .ok (.getfield 14, 3) := by decide +kernel
theorem dX7_enter_19 : decode cX7_enter 19 = .ok (.iload_n 1, 1) := by decide +kernel
theorem dX7_enter_20 : decode cX7_enter 20 = .ok (.invokevirtual 95, 3) := by decide +kernel
theorem dX7_enter_23 : decode cX7_enter 23 = .ok (.ifCond .ne 5, 3) := by decide +kernel
theorem dX7_enter_26 : decode cX7_enter 26 = .ok (.iconst (-1), 1) := by decide +kernel
theorem dX7_enter_27 : decode cX7_enter 27 = .ok (.ireturn, 1) := by decide +kernel
theorem dX7_enter_28 : decode cX7_enter 28 = .ok (.aload_n 0, 1) := by decide +kernel
theorem dX7_enter_29 : decode cX7_enter 29 = .ok (.getfield 14, 3) := by decide +kernel
theorem dX7_enter_32 : decode cX7_enter 32 = .ok (.getfield 173, 3) := by decide +kernel
theorem dX7_enter_35 : decode cX7_enter 35 = .ok (.bipush 24, 2) := by decide +kernel
theorem dX7_enter_37 : decode cX7_enter 37 = .ok (.if_icmp .lt 6, 3) := by decide +kernel
theorem dX7_enter_40 : decode cX7_enter 40 = .ok (.bipush (-4), 2) := by decide +kernel
theorem dX7_enter_42 : decode cX7_enter 42 = .ok (.ireturn, 1) := by decide +kernel
theorem dX7_enter_43 : decode cX7_enter 43 = .ok (.aload_n 0, 1) := by decide +kernel
theorem dX7_enter_44 : decode cX7_enter 44 = .ok (.getfield 14, 3) := by decide +kernel
theorem dX7_enter_47 : decode cX7_enter 47 = .ok (.iload_n 1, 1) := by decide +kernel
theorem dX7_enter_48 : decode cX7_enter 48 = .ok (.iload_n 2, 1) := by decide +kernel
theorem dX7_enter_49 : decode cX7_enter 49 = .ok (.invokevirtual 179, 3) := by decide +kernel
theorem dX7_enter_52 : decode cX7_enter 52 = .ok (.aload_n 0, 1) := by decide +kernel
theorem dX7_enter_53 : decode cX7_enter 53 = .ok (.getfield 14, 3) := by decide +kernel
theorem dX7_enter_56 : decode cX7_enter 56 = .ok (.getfield 173, 3) := by decide +kernel
theorem dX7_enter_59 : decode cX7_enter 59 = .ok (.ireturn, 1) := by decide +kernel
theorem dX7_entry_0 : decode cX7_entry 0 = .ok (.iload_n 1, 1) := by decide +kernel
theorem dX7_entry_1 : decode cX7_entry 1 = .ok (.ifCond .lt 20, 3) := by decide +kernel
theorem dX7_entry_4 : decode cX7_entry 4 = .ok (.iload_n 1, 1) := by decide +kernel
theorem dX7_entry_5 : decode cX7_entry 5 = .ok (.aload_n 0, 1) := by decide +kernel
theorem dX7_entry_6 : decode cX7_entry 6 = .ok (.getfield 14, 3) := by decide +kernel
theorem dX7_entry_9 : decode cX7_entry 9 = .ok (.getfield 173, 3) := by decide +kernel
theorem dX7_entry_12 : decode cX7_entry 12 = .ok (.if_icmp .ge 9, 3) := by decide +kernel
theorem dX7_entry_15 : decode cX7_entry 15 = .ok (.iload_n 1, 1) := by decide +kernel
theorem dX7_entry_16 : decode cX7_entry 16 = .ok (.bipush 24, 2) := by decide +kernel
theorem dX7_entry_18 : decode cX7_entry 18 = .ok (.if_icmp .lt 5, 3) := by decide +kernel
theorem dX7_entry_21 : decode cX7_entry 21 = .ok (.iconst (-1), 1) := by decide +kernel
theorem dX7_entry_22 : decode cX7_entry 22 = .ok (.ireturn, 1) := by decide +kernel
theorem dX7_entry_23 : decode cX7_entry 23 = .ok (.aload_n 0, 1) := by decide +kernel
theorem dX7_entry_24 : decode cX7_entry 24 = .ok (.getfield 14, 3) := by decide +kernel
theorem dX7_entry_27 : decode cX7_entry 27 = .ok (.getfield 183, 3) := by decide +kernel
theorem dX7_entry_30 : decode cX7_entry 30 = .ok (.iload_n 1, 1) := by decide +kernel
theorem dX7_entry_31 : decode cX7_entry 31 = .ok (.iaload, 1) := by decide +kernel
theorem dX7_entry_32 : decode cX7_entry 32 = .ok (.ireturn, 1) := by decide +kernel
theorem dX7_best_0 : decode cX7_best 0 = .ok (.aload_n 0, 1) := by decide +kernel
theorem dX7_best_1 : decode cX7_best 1 = .ok (.getfield 14, 3) := by decide +kernel
theorem dX7_best_4 : decode cX7_best 4 = .ok (.iload_n 1, 1) := by decide +kernel
theorem dX7_best_5 : decode cX7_best 5 = .ok (.invokevirtual 115, 3) := by decide +kernel
theorem dX7_best_8 : decode cX7_best 8 = .ok (.ifCond .eq 14, 3) := by decide +kernel
theorem dX7_best_11 : decode cX7_best 11 = .ok (.iload_n 3, 1) := by decide +kernel
theorem dX7_best_12 : decode cX7_best 12 = .ok (.iconst (-1), 1) := by decide +kernel
theorem dX7_best_13 : decode cX7_best 13 = .ok (.if_icmp .lt 9, 3) := by decide +kernel
theorem dX7_best_16 : decode cX7_best 16 = .ok (.iload_n 3, 1) := by decide +kernel
theorem dX7_best_17 : decode cX7_best 17 = .ok (.bipush 6, 2) := by decide +kernel
theorem dX7_best_19 : decode cX7_best 19 = .ok (.if_icmp .lt 6, 3) := by decide +kernel
theorem dX7_best_22 : decode cX7_best 22 = .ok (.ldc 140, 2) := by decide +kernel
theorem dX7_best_24 : decode cX7_best 24 = .ok (.ireturn, 1) := by decide +kernel
theorem dX7_best_25 : decode cX7_best 25 = .ok (.aload_n 0, 1) := by decide +kernel
theorem dX7_best_26 : decode cX7_best 26 = .ok (.getfield 14, 3) := by decide +kernel
theorem dX7_best_29 : decode cX7_best 29 = .ok (.iload_n 2, 1) := by decide +kernel
theorem dX7_best_30 : decode cX7_best 30 = .ok (.invokevirtual 186, 3) := by decide +kernel
theorem dX7_best_33 : decode cX7_best 33 = .ok (.ifCond .eq 12, 3) := by decide +kernel
theorem dX7_best_36 : decode cX7_best 36 = .ok (.iload_n 2, 1) := by decide +kernel
theorem dX7_best_37 : decode cX7_best 37 = .ok (.invokestatic 189, 3) := by decide +kernel
theorem dX7_best_40 : decode cX7_best 40 = .ok (.bipush 6, 2) := by decide +kernel
theorem dX7_best_42 : decode cX7_best 42 = .ok (.if_icmp .le 6, 3) := by decide +kernel
theorem dX7_best_45 : decode cX7_best 45 = .ok (.ldc 194, 2) := by decide +kernel
theorem dX7_best_47 : decode cX7_best 47 = .ok (.ireturn, 1) := by decide +kernel
theorem dX7_best_48 : decode cX7_best 48 = .ok (.aload_n 0, 1) := by decide +kernel
theorem dX7_best_49 : decode cX7_best 49 = .ok (.iload_n 1, 1) := by decide +kernel
theorem dX7_best_50 : decode cX7_best 50 = .ok (.invokevirtual 124, 3) := by decide +kernel
theorem dX7_best_53 : decode cX7_best 53 = .ok (.aload_n 0, 1) := by decide +kernel
theorem dX7_best_54 : decode cX7_best 54 = .ok (.getfield 44, 3) := by decide +kernel
theorem dX7_best_57 : decode cX7_best 57 = .ok (.aload_n 0, 1) := by decide +kernel
theorem dX7_best_58 : decode cX7_best 58 = .ok (.getfield 14, 3) := by decide +kernel
theorem dX7_best_61 : decode cX7_best 61 = .ok (.iload_n 2, 1) := by decide +kernel
theorem dX7_best_62 : decode cX7_best 62 = .ok (.invokevirtual 195, 3) := by decide +kernel
theorem dX7_best_65 : decode cX7_best 65 = .ok (.iload_n 3, 1) := by decide +kernel
theorem dX7_best_66 : decode cX7_best 66 = .ok (.iconst (-1), 1) := by decide +kernel
theorem dX7_best_67 : decode cX7_best 67 = .ok (.if_icmp .ne 11, 3) := by decide +kernel
theorem dX7_best_70 : decode cX7_best 70 = .ok (.aload_n 0, 1) := by decide +kernel
theorem dX7_best_71 : decode cX7_best 71 = .ok (.getfield 44, 3) := by decide +kernel
theorem dX7_best_74 : decode cX7_best 74 = .ok (.getfield 199, 3) := by decide +kernel
theorem dX7_best_77 : decode cX7_best 77 = .ok (.ireturn, 1) := by decide +kernel
theorem dX7_best_78 : decode cX7_best 78 = .ok (.iload_n 3, 1) := by decide +kernel
theorem dX7_best_79 : decode cX7_best 79 = .ok (.iload_n 2, 1) := by decide +kernel
theorem dX7_best_80 : decode cX7_best 80 = .ok (.invokestatic 189, 3) := by decide +kernel
theorem dX7_best_83 : decode cX7_best 83 = .ok (.if_icmp .ge 15, 3) := by decide +kernel
theorem dX7_best_86 : decode cX7_best 86 = .ok (.aload_n 0, 1) := by decide +kernel
theorem dX7_best_87 : decode cX7_best 87 = .ok (.getfield 44, 3) := by decide +kernel
theorem dX7_best_90 : decode cX7_best 90 = .ok (.getfield 202, 3) := by decide +kernel
theorem dX7_best_93 : decode cX7_best 93 = .ok (.iload_n 3, 1) := by decide +kernel
theorem dX7_best_94 : decode cX7_best 94 = .ok (.iaload, 1) := by decide +kernel
theorem dX7_best_95 : decode cX7_best 95 = .ok (.goto 5, 3) := by decide +kernel
theorem dX7_best_98 : decode cX7_best 98 = .ok (.bipush (-5), 2) := by decide +kernel
theorem dX7_best_100 : decode cX7_best 100 = .ok (.ireturn, 1) := by decide +kernel
theorem dX7_shams_0 : decode cX7_shams 0 = .ok (.aload_n 0, 1) := by decide +kernel
theorem dX7_shams_1 : decode cX7_shams 1 = .ok (.getfield 14, 3) := by decide +kernel
theorem dX7_shams_4 : decode cX7_shams 4 = .ok (.iload_n 1, 1) := by decide +kernel
theorem dX7_shams_5 : decode cX7_shams 5 = .ok (.invokevirtual 115, 3) := by decide +kernel
theorem dX7_shams_8 : decode cX7_shams 8 = .ok (.ifCond .eq 24, 3) := by decide +kernel
theorem dX7_shams_11 : decode cX7_shams 11 = .ok (.aload_n 0, 1) := by decide +kernel
theorem dX7_shams_12 : decode cX7_shams 12 = .ok (.getfield 14, 3) := by decide +kernel
theorem dX7_shams_15 : decode cX7_shams 15 = .ok (.iload_n 2, 1) := by decide +kernel
theorem dX7_shams_16 : decode cX7_shams 16 = .ok (.invokevirtual 95, 3) := by decide +kernel
theorem dX7_shams_19 : decode cX7_shams 19 = .ok (.ifCond .eq 13, 3) := by decide +kernel
theorem dX7_shams_22 : decode cX7_shams 22 = .ok (.iload_n 3, 1) := by decide +kernel
theorem dX7_shams_23 : decode cX7_shams 23 = .ok (.iconst (-1), 1) := by decide +kernel
theorem dX7_shams_24 : decode cX7_shams 24 = .ok (.if_icmp .lt 8, 3) := by decide +kernel
theorem dX7_shams_27 : decode cX7_shams 27 = .ok (.iload_n 3, 1) := by decide +kernel
theorem dX7_shams_28 : decode cX7_shams 28 = .ok (.iconst 1, 1) := by decide +kernel
theorem dX7_shams_29 : decode cX7_shams 29 = .ok (.if_icmp .le 5, 3) := by decide +kernel
theorem dX7_shams_32 : decode cX7_shams 32 = .ok (.iconst (-1), 1) := by decide +kernel
theorem dX7_shams_33 : decode cX7_shams 33 = .ok (.ireturn, 1) := by decide +kernel
theorem dX7_shams_34 : decode cX7_shams 34 = .ok (.aload_n 0, 1) := by decide +kernel
theorem dX7_shams_35 : decode cX7_shams 35 = .ok (.iload_n 1, 1) := by decide +kernel
theorem dX7_shams_36 : decode cX7_shams 36 = .ok (.invokevirtual 124, 3) := by decide +kernel
theorem dX7_shams_39 : decode cX7_shams 39 = .ok (.aload_n 0, 1) := by decide +kernel
theorem dX7_shams_40 : decode cX7_shams 40 = .ok (.getfield 44, 3) := by decide +kernel
theorem dX7_shams_43 : decode cX7_shams 43 = .ok (.aload_n 0, 1) := by decide +kernel
theorem dX7_shams_44 : decode cX7_shams 44 = .ok (.getfield 14, 3) := by decide +kernel
theorem dX7_shams_47 : decode cX7_shams 47 = .ok (.iload_n 2, 1) := by decide +kernel
theorem dX7_shams_48 : decode cX7_shams 48 = .ok (.invokevirtual 99, 3) := by decide +kernel
theorem dX7_shams_51 : decode cX7_shams 51 = .ok (.invokevirtual 205, 3) := by decide +kernel
theorem dX7_shams_54 : decode cX7_shams 54 = .ok (.istore 4, 2) := by decide +kernel
theorem dX7_shams_56 : decode cX7_shams 56 = .ok (.iload_n 3, 1) := by decide +kernel
theorem dX7_shams_57 : decode cX7_shams 57 = .ok (.iconst (-1), 1) := by decide +kernel
theorem dX7_shams_58 : decode cX7_shams 58 = .ok (.if_icmp .ne 6, 3) := by decide +kernel
theorem dX7_shams_61 : decode cX7_shams 61 = .ok (.iload 4, 2) := by decide +kernel
theorem dX7_shams_63 : decode cX7_shams 63 = .ok (.ireturn, 1) := by decide +kernel
theorem dX7_shams_64 : decode cX7_shams 64 = .ok (.iload_n 3, 1) := by decide +kernel
theorem dX7_shams_65 : decode cX7_shams 65 = .ok (.iload 4, 2) := by decide +kernel
theorem dX7_shams_67 : decode cX7_shams 67 = .ok (.if_icmp .ge 15, 3) := by decide +kernel
theorem dX7_shams_70 : decode cX7_shams 70 = .ok (.aload_n 0, 1) := by decide +kernel
theorem dX7_shams_71 : decode cX7_shams 71 = .ok (.getfield 44, 3) := by decide +kernel
theorem dX7_shams_74 : decode cX7_shams 74 = .ok (.getfield 202, 3) := by decide +kernel
theorem dX7_shams_77 : decode cX7_shams 77 = .ok (.iload_n 3, 1) := by decide +kernel
theorem dX7_shams_78 : decode cX7_shams 78 = .ok (.iaload, 1) := by decide +kernel
theorem dX7_shams_79 : decode cX7_shams 79 = .ok (.goto 5, 3) := by decide +kernel
theorem dX7_shams_82 : decode cX7_shams 82 = .ok (.bipush (-5), 2) := by decide +kernel
theorem dX7_shams_84 : decode cX7_shams 84 = .ok (.ireturn, 1) := by decide +kernel
theorem dX7_point_0 : decode cX7_point 0 = .ok (.aload_n 0, 1) := by decide +kernel
theorem dX7_point_1 : decode cX7_point 1 = .ok (.getfield 14, 3) := by decide +kernel
theorem dX7_point_4 : decode cX7_point 4 = .ok (.iload_n 1, 1) := by decide +kernel
theorem dX7_point_5 : decode cX7_point 5 = .ok (.invokevirtual 115, 3) := by decide +kernel
theorem dX7_point_8 : decode cX7_point 8 = .ok (.ifCond .eq 23, 3) := by decide +kernel
theorem dX7_point_11 : decode cX7_point 11 = .ok (.aload_n 0, 1) := by decide +kernel
theorem dX7_point_12 : decode cX7_point 12 = .ok (.getfield 14, 3) := by decide +kernel
theorem dX7_point_15 : decode cX7_point 15 = .ok (.iload_n 2, 1) := by decide +kernel
theorem dX7_point_16 : decode cX7_point 16 = .ok (.invokevirtual 95, 3) := by decide +kernel
theorem dX7_point_19 : decode cX7_point 19 = .ok (.ifCond .eq 12, 3) := by decide +kernel
theorem dX7_point_22 : decode cX7_point 22 = .ok (.iload_n 3, 1) := by decide +kernel
theorem dX7_point_23 : decode cX7_point 23 = .ok (.ifCond .lt 8, 3) := by decide +kernel
theorem dX7_point_26 : decode cX7_point 26 = .ok (.iload_n 3, 1) := by decide +kernel
theorem dX7_point_27 : decode cX7_point 27 = .ok (.iconst 1, 1) := by decide +kernel
theorem dX7_point_28 : decode cX7_point 28 = .ok (.if_icmp .le 5, 3) := by decide +kernel
theorem dX7_point_31 : decode cX7_point 31 = .ok (.iconst (-1), 1) := by decide +kernel
theorem dX7_point_32 : decode cX7_point 32 = .ok (.ireturn, 1) := by decide +kernel
theorem dX7_point_33 : decode cX7_point 33 = .ok (.aload_n 0, 1) := by decide +kernel
theorem dX7_point_34 : decode cX7_point 34 = .ok (.iload_n 1, 1) := by decide +kernel
theorem dX7_point_35 : decode cX7_point 35 = .ok (.invokevirtual 124, 3) := by decide +kernel
theorem dX7_point_38 : decode cX7_point 38 = .ok (.aload_n 0, 1) := by decide +kernel
theorem dX7_point_39 : decode cX7_point 39 = .ok (.getfield 14, 3) := by decide +kernel
theorem dX7_point_42 : decode cX7_point 42 = .ok (.iload_n 2, 1) := by decide +kernel
theorem dX7_point_43 : decode cX7_point 43 = .ok (.invokevirtual 99, 3) := by decide +kernel
theorem dX7_point_46 : decode cX7_point 46 = .ok (.istore 4, 2) := by decide +kernel
theorem dX7_point_48 : decode cX7_point 48 = .ok (.aload_n 0, 1) := by decide +kernel
theorem dX7_point_49 : decode cX7_point 49 = .ok (.getfield 35, 3) := by decide +kernel
theorem dX7_point_52 : decode cX7_point 52 = .ok (.iload 4, 2) := by decide +kernel
theorem dX7_point_54 : decode cX7_point 54 = .ok (.invokevirtual 176, 3) := by decide +kernel
theorem dX7_point_57 : decode cX7_point 57 = .ok (.ifCond .eq 6, 3) := by decide +kernel
theorem dX7_point_60 : decode cX7_point 60 = .ok (.bipush 8, 2) := by decide +kernel
theorem dX7_point_62 : decode cX7_point 62 = .ok (.ireturn, 1) := by decide +kernel
theorem dX7_point_63 : decode cX7_point 63 = .ok (.iconst 0, 1) := by decide +kernel
theorem dX7_point_64 : decode cX7_point 64 = .ok (.istore 5, 2) := by decide +kernel
theorem dX7_point_66 : decode cX7_point 66 = .ok (.iload 5, 2) := by decide +kernel
theorem dX7_point_68 : decode cX7_point 68 = .ok (.bipush 8, 2) := by decide +kernel
theorem dX7_point_70 : decode cX7_point 70 = .ok (.if_icmp .ge 62, 3) := by decide +kernel
theorem dX7_point_73 : decode cX7_point 73 = .ok (.iload 4, 2) := by decide +kernel
theorem dX7_point_75 : decode cX7_point 75 = .ok (.iload 5, 2) := by decide +kernel
theorem dX7_point_77 : decode cX7_point 77 = .ok (.ishr, 1) := by decide +kernel
theorem dX7_point_78 : decode cX7_point 78 = .ok (.iconst 1, 1) := by decide +kernel
theorem dX7_point_79 : decode cX7_point 79 = .ok (.iand, 1) := by decide +kernel
theorem dX7_point_80 : decode cX7_point 80 = .ok (.iconst 1, 1) := by decide +kernel
theorem dX7_point_81 : decode cX7_point 81 = .ok (.if_icmp .ne 7, 3) := by decide +kernel
theorem dX7_point_84 : decode cX7_point 84 = .ok (.iconst 1, 1) := by decide +kernel
theorem dX7_point_85 : decode cX7_point 85 = .ok (.goto 4, 3) := by decide +kernel
theorem dX7_point_88 : decode cX7_point 88 = .ok (.iconst 0, 1) := by decide +kernel
theorem dX7_point_89 : decode cX7_point 89 = .ok (.istore 6, 2) := by decide +kernel
theorem dX7_point_91 : decode cX7_point 91 = .ok (.iload 6, 2) := by decide +kernel
theorem dX7_point_93 : decode cX7_point 93 = .ok (.iload_n 3, 1) := by decide +kernel
theorem dX7_point_94 : decode cX7_point 94 = .ok (.iconst 1, 1) := by decide +kernel
theorem dX7_point_95 : decode cX7_point 95 = .ok (.if_icmp .ne 7, 3) := by decide +kernel
theorem dX7_point_98 : decode cX7_point 98 = .ok (.iconst 1, 1) := by decide +kernel
theorem dX7_point_99 : decode cX7_point 99 = .ok (.goto 4, 3) := by decide +kernel
theorem dX7_point_102 : decode cX7_point 102 = .ok (.iconst 0, 1) := by decide +kernel
theorem dX7_point_103 : decode cX7_point 103 = .ok (.if_icmp .ne 23, 3) := by decide +kernel
theorem dX7_point_106 : decode cX7_point 106 = .ok (.aload_n 0, 1) := by decide +kernel
theorem dX7_point_107 : decode cX7_point 107 = .ok (.getfield 35, 3) := by decide +kernel
theorem dX7_point_110 : decode cX7_point 110 = .ok (.iload 4, 2) := by decide +kernel
theorem dX7_point_112 : decode cX7_point 112 = .ok (.iconst 1, 1) := by decide +kernel
theorem dX7_point_113 : decode cX7_point 113 = .ok (.iload 5, 2) := by decide +kernel
theorem dX7_point_115 : decode cX7_point 115 = .ok (.ishl, 1) := by decide +kernel
theorem dX7_point_116 : decode cX7_point 116 = .ok (.ixor, 1) := by decide +kernel
theorem dX7_point_117 : decode cX7_point 117 = .ok (.invokevirtual 176, 3) := by decide +kernel
theorem dX7_point_120 : decode cX7_point 120 = .ok (.ifCond .eq 6, 3) := by decide +kernel
theorem dX7_point_123 : decode cX7_point 123 = .ok (.iload 5, 2) := by decide +kernel
theorem dX7_point_125 : decode cX7_point 125 = .ok (.ireturn, 1) := by decide +kernel
theorem dX7_point_126 : decode cX7_point 126 = .ok (.iinc 5 1, 3) := by decide +kernel
theorem dX7_point_129 : decode cX7_point 129 = .ok (.goto (-63), 3) := by decide +kernel
theorem dX7_point_132 : decode cX7_point 132 = .ok (.bipush (-5), 2) := by decide +kernel
theorem dX7_point_134 : decode cX7_point 134 = .ok (.ireturn, 1) := by decide +kernel
theorem dX7_rival_0 : decode cX7_rival 0 = .ok (.aload_n 0, 1) := by decide +kernel
theorem dX7_rival_1 : decode cX7_rival 1 = .ok (.getfield 14, 3) := by decide +kernel
theorem dX7_rival_4 : decode cX7_rival 4 = .ok (.iload_n 1, 1) := by decide +kernel
theorem dX7_rival_5 : decode cX7_rival 5 = .ok (.invokevirtual 115, 3) := by decide +kernel
theorem dX7_rival_8 : decode cX7_rival 8 = .ok (.ifCond .eq 14, 3) := by decide +kernel
theorem dX7_rival_11 : decode cX7_rival 11 = .ok (.iload 4, 2) := by decide +kernel
theorem dX7_rival_13 : decode cX7_rival 13 = .ok (.ifCond .lt 9, 3) := by decide +kernel
theorem dX7_rival_16 : decode cX7_rival 16 = .ok (.iload 4, 2) := by decide +kernel
theorem dX7_rival_18 : decode cX7_rival 18 = .ok (.iconst 1, 1) := by decide +kernel
theorem dX7_rival_19 : decode cX7_rival 19 = .ok (.if_icmp .le 6, 3) := by decide +kernel
theorem dX7_rival_22 : decode cX7_rival 22 = .ok (.ldc 140, 2) := by decide +kernel
theorem dX7_rival_24 : decode cX7_rival 24 = .ok (.ireturn, 1) := by decide +kernel
theorem dX7_rival_25 : decode cX7_rival 25 = .ok (.aload_n 0, 1) := by decide +kernel
theorem dX7_rival_26 : decode cX7_rival 26 = .ok (.getfield 14, 3) := by decide +kernel
theorem dX7_rival_29 : decode cX7_rival 29 = .ok (.iload_n 2, 1) := by decide +kernel
theorem dX7_rival_30 : decode cX7_rival 30 = .ok (.invokevirtual 186, 3) := by decide +kernel
theorem dX7_rival_33 : decode cX7_rival 33 = .ok (.ifCond .eq 31, 3) := by decide +kernel
theorem dX7_rival_36 : decode cX7_rival 36 = .ok (.aload_n 0, 1) := by decide +kernel
theorem dX7_rival_37 : decode cX7_rival 37 = .ok (.getfield 14, 3) := by decide +kernel
theorem dX7_rival_40 : decode cX7_rival 40 = .ok (.iload_n 3, 1) := by decide +kernel
theorem dX7_rival_41 : decode cX7_rival 41 = .ok (.invokevirtual 186, 3) := by decide +kernel
theorem dX7_rival_44 : decode cX7_rival 44 = .ok (.ifCond .eq 20, 3) := by decide +kernel
theorem dX7_rival_47 : decode cX7_rival 47 = .ok (.iload_n 2, 1) := by decide +kernel
theorem dX7_rival_48 : decode cX7_rival 48 = .ok (.iload_n 3, 1) := by decide +kernel
theorem dX7_rival_49 : decode cX7_rival 49 = .ok (.iand, 1) := by decide +kernel
theorem dX7_rival_50 : decode cX7_rival 50 = .ok (.ifCond .ne 14, 3) := by decide +kernel
theorem dX7_rival_53 : decode cX7_rival 53 = .ok (.iload_n 2, 1) := by decide +kernel
theorem dX7_rival_54 : decode cX7_rival 54 = .ok (.iload_n 3, 1) := by decide +kernel
theorem dX7_rival_55 : decode cX7_rival 55 = .ok (.ior, 1) := by decide +kernel
theorem dX7_rival_56 : decode cX7_rival 56 = .ok (.invokestatic 189, 3) := by decide +kernel
theorem dX7_rival_59 : decode cX7_rival 59 = .ok (.bipush 6, 2) := by decide +kernel
theorem dX7_rival_61 : decode cX7_rival 61 = .ok (.if_icmp .le 6, 3) := by decide +kernel
theorem dX7_rival_64 : decode cX7_rival 64 = .ok (.ldc 194, 2) := by decide +kernel
theorem dX7_rival_66 : decode cX7_rival 66 = .ok (.ireturn, 1) := by decide +kernel
theorem dX7_rival_67 : decode cX7_rival 67 = .ok (.aload_n 0, 1) := by decide +kernel
theorem dX7_rival_68 : decode cX7_rival 68 = .ok (.iload_n 1, 1) := by decide +kernel
theorem dX7_rival_69 : decode cX7_rival 69 = .ok (.invokevirtual 124, 3) := by decide +kernel
theorem dX7_rival_72 : decode cX7_rival 72 = .ok (.aload_n 0, 1) := by decide +kernel
theorem dX7_rival_73 : decode cX7_rival 73 = .ok (.getfield 44, 3) := by decide +kernel
theorem dX7_rival_76 : decode cX7_rival 76 = .ok (.aload_n 0, 1) := by decide +kernel
theorem dX7_rival_77 : decode cX7_rival 77 = .ok (.getfield 14, 3) := by decide +kernel
theorem dX7_rival_80 : decode cX7_rival 80 = .ok (.iload_n 2, 1) := by decide +kernel
theorem dX7_rival_81 : decode cX7_rival 81 = .ok (.iload_n 3, 1) := by decide +kernel
theorem dX7_rival_82 : decode cX7_rival 82 = .ok (.invokevirtual 208, 3) := by decide +kernel
theorem dX7_rival_85 : decode cX7_rival 85 = .ok (.istore 5, 2) := by decide +kernel
theorem dX7_rival_87 : decode cX7_rival 87 = .ok (.iload 4, 2) := by decide +kernel
theorem dX7_rival_89 : decode cX7_rival 89 = .ok (.ifCond .ne 8, 3) := by decide +kernel
theorem dX7_rival_92 : decode cX7_rival 92 = .ok (.iload 5, 2) := by decide +kernel
theorem dX7_rival_94 : decode cX7_rival 94 = .ok (.goto 10, 3) := by decide +kernel
theorem dX7_rival_97 : decode cX7_rival 97 = .ok (.aload_n 0, 1) := by decide +kernel
theorem dX7_rival_98 : decode cX7_rival 98 = .ok (.getfield 44, 3) := by decide +kernel
theorem dX7_rival_101 : decode cX7_rival 101 = .ok (.getfield 212, 3) := by decide +kernel
theorem dX7_rival_104 : decode cX7_rival 104 = .ok (.ireturn, 1) := by decide +kernel
theorem dX7_again_0 : decode cX7_again 0 = .ok (.aload_n 0, 1) := by decide +kernel
theorem dX7_again_1 : decode cX7_again 1 = .ok (.getfield 14, 3) := by decide +kernel
theorem dX7_again_4 : decode cX7_again 4 = .ok (.iload_n 1, 1) := by decide +kernel
theorem dX7_again_5 : decode cX7_again 5 = .ok (.invokevirtual 115, 3) := by decide +kernel
theorem dX7_again_8 : decode cX7_again 8 = .ok (.ifCond .eq 14, 3) := by decide +kernel
theorem dX7_again_11 : decode cX7_again 11 = .ok (.aload_n 0, 1) := by decide +kernel
theorem dX7_again_12 : decode cX7_again 12 = .ok (.getfield 14, 3) := by decide +kernel
theorem dX7_again_15 : decode cX7_again 15 = .ok (.iload_n 2, 1) := by decide +kernel
theorem dX7_again_16 : decode cX7_again 16 = .ok (.invokevirtual 95, 3) := by decide +kernel
theorem dX7_again_19 : decode cX7_again 19 = .ok (.ifCond .ne 5, 3) := by decide +kernel
theorem dX7_again_22 : decode cX7_again 22 = .ok (.iconst (-1), 1) := by decide +kernel
theorem dX7_again_23 : decode cX7_again 23 = .ok (.ireturn, 1) := by decide +kernel
theorem dX7_again_24 : decode cX7_again 24 = .ok (.iload_n 3, 1) := by decide +kernel
theorem dX7_again_25 : decode cX7_again 25 = .ok (.ifCond .lt 9, 3) := by decide +kernel
theorem dX7_again_28 : decode cX7_again 28 = .ok (.iload_n 3, 1) := by decide +kernel
theorem dX7_again_29 : decode cX7_again 29 = .ok (.bipush 60, 2) := by decide +kernel
theorem dX7_again_31 : decode cX7_again 31 = .ok (.if_icmp .le 6, 3) := by decide +kernel
theorem dX7_again_34 : decode cX7_again 34 = .ok (.bipush (-2), 2) := by decide +kernel
theorem dX7_again_36 : decode cX7_again 36 = .ok (.ireturn, 1) := by decide +kernel
theorem dX7_again_37 : decode cX7_again 37 = .ok (.aload_n 0, 1) := by decide +kernel
theorem dX7_again_38 : decode cX7_again 38 = .ok (.iload_n 1, 1) := by decide +kernel
theorem dX7_again_39 : decode cX7_again 39 = .ok (.invokevirtual 124, 3) := by decide +kernel
theorem dX7_again_42 : decode cX7_again 42 = .ok (.aload_n 0, 1) := by decide +kernel
theorem dX7_again_43 : decode cX7_again 43 = .ok (.getfield 35, 3) := by decide +kernel
theorem dX7_again_46 : decode cX7_again 46 = .ok (.aload_n 0, 1) := by decide +kernel
theorem dX7_again_47 : decode cX7_again 47 = .ok (.getfield 14, 3) := by decide +kernel
theorem dX7_again_50 : decode cX7_again 50 = .ok (.iload_n 2, 1) := by decide +kernel
theorem dX7_again_51 : decode cX7_again 51 = .ok (.invokevirtual 99, 3) := by decide +kernel
theorem dX7_again_54 : decode cX7_again 54 = .ok (.iload_n 3, 1) := by decide +kernel
theorem dX7_again_55 : decode cX7_again 55 = .ok (.invokevirtual 215, 3) := by decide +kernel
theorem dX7_again_58 : decode cX7_again 58 = .ok (.ireturn, 1) := by decide +kernel
theorem dX7_swing_0 : decode cX7_swing 0 = .ok (.aload_n 0, 1) := by decide +kernel
theorem dX7_swing_1 : decode cX7_swing 1 = .ok (.getfield 14, 3) := by decide +kernel
theorem dX7_swing_4 : decode cX7_swing 4 = .ok (.iload_n 1, 1) := by decide +kernel
theorem dX7_swing_5 : decode cX7_swing 5 = .ok (.invokevirtual 115, 3) := by decide +kernel
theorem dX7_swing_8 : decode cX7_swing 8 = .ok (.ifCond .eq 14, 3) := by decide +kernel
theorem dX7_swing_11 : decode cX7_swing 11 = .ok (.aload_n 0, 1) := by decide +kernel
theorem dX7_swing_12 : decode cX7_swing 12 = .ok (.getfield 14, 3) := by decide +kernel
theorem dX7_swing_15 : decode cX7_swing 15 = .ok (.iload_n 2, 1) := by decide +kernel
theorem dX7_swing_16 : decode cX7_swing 16 = .ok (.invokevirtual 95, 3) := by decide +kernel
theorem dX7_swing_19 : decode cX7_swing 19 = .ok (.ifCond .ne 5, 3) := by decide +kernel
theorem dX7_swing_22 : decode cX7_swing 22 = .ok (.iconst (-1), 1) := by decide +kernel
theorem dX7_swing_23 : decode cX7_swing 23 = .ok (.ireturn, 1) := by decide +kernel
theorem dX7_swing_24 : decode cX7_swing 24 = .ok (.aload_n 0, 1) := by decide +kernel
theorem dX7_swing_25 : decode cX7_swing 25 = .ok (.iload_n 1, 1) := by decide +kernel
theorem dX7_swing_26 : decode cX7_swing 26 = .ok (.invokevirtual 124, 3) := by decide +kernel
theorem dX7_swing_29 : decode cX7_swing 29 = .ok (.aload_n 0, 1) := by decide +kernel
theorem dX7_swing_30 : decode cX7_swing 30 = .ok (.getfield 35, 3) := by decide +kernel
theorem dX7_swing_33 : decode cX7_swing 33 = .ok (.aload_n 0, 1) := by decide +kernel
theorem dX7_swing_34 : decode cX7_swing 34 = .ok (.getfield 14, 3) := by decide +kernel
theorem dX7_swing_37 : decode cX7_swing 37 = .ok (.iload_n 2, 1) := by decide +kernel
theorem dX7_swing_38 : decode cX7_swing 38 = .ok (.invokevirtual 99, 3) := by decide +kernel
theorem dX7_swing_41 : decode cX7_swing 41 = .ok (.invokevirtual 218, 3) := by decide +kernel
theorem dX7_swing_44 : decode cX7_swing 44 = .ok (.ireturn, 1) := by decide +kernel
theorem dX7_unlawful_0 : decode cX7_unlawful 0 = .ok (.aload_n 0, 1) := by decide +kernel
theorem dX7_unlawful_1 : decode cX7_unlawful 1 = .ok (.getfield 14, 3) := by decide +kernel
theorem dX7_unlawful_4 : decode cX7_unlawful 4 = .ok (.iload_n 1, 1) := by decide +kernel
theorem dX7_unlawful_5 : decode cX7_unlawful 5 = .ok (.invokevirtual 115, 3) := by decide +kernel
theorem dX7_unlawful_8 : decode cX7_unlawful 8 = .ok (.ifCond .ne 5, 3) := by decide +kernel
theorem dX7_unlawful_11 : decode cX7_unlawful 11 = .ok (.iconst (-1), 1) := by decide +kernel
theorem dX7_unlawful_12 : decode cX7_unlawful 12 = .ok (.ireturn, 1) := by decide +kernel
theorem dX7_unlawful_13 : decode cX7_unlawful 13 = .ok (.aload_n 0, 1) := by decide +kernel
theorem dX7_unlawful_14 : decode cX7_unlawful 14 = .ok (.iload_n 1, 1) := by decide +kernel
theorem dX7_unlawful_15 : decode cX7_unlawful 15 = .ok (.invokevirtual 124, 3) := by decide +kernel
theorem dX7_unlawful_18 : decode cX7_unlawful 18 = .ok (.aload_n 0, 1) := by decide +kernel
theorem dX7_unlawful_19 : decode cX7_unlawful 19 = .ok (.getfield 35, 3) := by decide +kernel
theorem dX7_unlawful_22 : decode cX7_unlawful 22 = .ok (.invokevirtual 221, 3) := by decide +kernel
theorem dX7_unlawful_25 : decode cX7_unlawful 25 = .ok (.ireturn, 1) := by decide +kernel
theorem dX7_wrong_0 : decode cX7_wrong 0 = .ok (.aload_n 0, 1) := by decide +kernel
theorem dX7_wrong_1 : decode cX7_wrong 1 = .ok (.getfield 14, 3) := by decide +kernel
theorem dX7_wrong_4 : decode cX7_wrong 4 = .ok (.iload_n 1, 1) := by decide +kernel
theorem dX7_wrong_5 : decode cX7_wrong 5 = .ok (.invokevirtual 115, 3) := by decide +kernel
theorem dX7_wrong_8 : decode cX7_wrong 8 = .ok (.ifCond .ne 5, 3) := by decide +kernel
theorem dX7_wrong_11 : decode cX7_wrong 11 = .ok (.iconst (-1), 1) := by decide +kernel
theorem dX7_wrong_12 : decode cX7_wrong 12 = .ok (.ireturn, 1) := by decide +kernel
theorem dX7_wrong_13 : decode cX7_wrong 13 = .ok (.aload_n 0, 1) := by decide +kernel
theorem dX7_wrong_14 : decode cX7_wrong 14 = .ok (.iload_n 1, 1) := by decide +kernel
theorem dX7_wrong_15 : decode cX7_wrong 15 = .ok (.invokevirtual 124, 3) := by decide +kernel
theorem dX7_wrong_18 : decode cX7_wrong 18 = .ok (.iconst 0, 1) := by decide +kernel
theorem dX7_wrong_19 : decode cX7_wrong 19 = .ok (.istore_n 2, 1) := by decide +kernel
theorem dX7_wrong_20 : decode cX7_wrong 20 = .ok (.iconst 0, 1) := by decide +kernel
theorem dX7_wrong_21 : decode cX7_wrong 21 = .ok (.istore_n 3, 1) := by decide +kernel
theorem dX7_wrong_22 : decode cX7_wrong 22 = .ok (.iload_n 3, 1) := by decide +kernel
theorem dX7_wrong_23 : decode cX7_wrong 23 = .ok (.aload_n 0, 1) := by decide +kernel
theorem dX7_wrong_24 : decode cX7_wrong 24 = .ok (.getfield 14, 3) := by decide +kernel
theorem dX7_wrong_27 : decode cX7_wrong 27 = .ok (.getfield 173, 3) := by decide +kernel
theorem dX7_wrong_30 : decode cX7_wrong 30 = .ok (.if_icmp .ge 49, 3) := by decide +kernel
theorem dX7_wrong_33 : decode cX7_wrong 33 = .ok (.iload_n 3, 1) := by decide +kernel
theorem dX7_wrong_34 : decode cX7_wrong 34 = .ok (.bipush 24, 2) := by decide +kernel
theorem dX7_wrong_36 : decode cX7_wrong 36 = .ok (.if_icmp .ge 43, 3) := by decide +kernel
theorem dX7_wrong_39 : decode cX7_wrong 39 = .ok (.aload_n 0, 1) := by decide +kernel
theorem dX7_wrong_40 : decode cX7_wrong 40 = .ok (.getfield 35, 3) := by decide +kernel
theorem dX7_wrong_43 : decode cX7_wrong 43 = .ok (.iload_n 3, 1) := by decide +kernel
theorem dX7_wrong_44 : decode cX7_wrong 44 = .ok (.invokevirtual 224, 3) := by decide +kernel
theorem dX7_wrong_47 : decode cX7_wrong 47 = .ok (.aload_n 0, 1) := by decide +kernel
theorem dX7_wrong_48 : decode cX7_wrong 48 = .ok (.getfield 35, 3) := by decide +kernel
theorem dX7_wrong_51 : decode cX7_wrong 51 = .ok (.invokevirtual 221, 3) := by decide +kernel
theorem dX7_wrong_54 : decode cX7_wrong 54 = .ok (.bipush (-5), 2) := by decide +kernel
theorem dX7_wrong_56 : decode cX7_wrong 56 = .ok (.if_icmp .ne 9, 3) := by decide +kernel
theorem dX7_wrong_59 : decode cX7_wrong 59 = .ok (.iload_n 2, 1) := by decide +kernel
theorem dX7_wrong_60 : decode cX7_wrong 60 = .ok (.iconst 1, 1) := by decide +kernel
theorem dX7_wrong_61 : decode cX7_wrong 61 = .ok (.iload_n 3, 1) := by decide +kernel
theorem dX7_wrong_62 : decode cX7_wrong 62 = .ok (.ishl, 1) := by decide +kernel
theorem dX7_wrong_63 : decode cX7_wrong 63 = .ok (.ior, 1) := by decide +kernel
theorem dX7_wrong_64 : decode cX7_wrong 64 = .ok (.istore_n 2, 1) := by decide +kernel
theorem dX7_wrong_65 : decode cX7_wrong 65 = .ok (.aload_n 0, 1) := by decide +kernel
theorem dX7_wrong_66 : decode cX7_wrong 66 = .ok (.getfield 35, 3) := by decide +kernel
theorem dX7_wrong_69 : decode cX7_wrong 69 = .ok (.iload_n 3, 1) := by decide +kernel
theorem dX7_wrong_70 : decode cX7_wrong 70 = .ok (.invokevirtual 224, 3) := by decide +kernel
theorem dX7_wrong_73 : decode cX7_wrong 73 = .ok (.iinc 3 1, 3) := by decide +kernel
theorem dX7_wrong_76 : decode cX7_wrong 76 = .ok (.goto (-54), 3) := by decide +kernel
theorem dX7_wrong_79 : decode cX7_wrong 79 = .ok (.iload_n 2, 1) := by decide +kernel
theorem dX7_wrong_80 : decode cX7_wrong 80 = .ok (.ireturn, 1) := by decide +kernel
theorem dX7_bars_0 : decode cX7_bars 0 = .ok (.aload_n 0, 1) := by decide +kernel
theorem dX7_bars_1 : decode cX7_bars 1 = .ok (.getfield 14, 3) := by decide +kernel
theorem dX7_bars_4 : decode cX7_bars 4 = .ok (.iload_n 1, 1) := by decide +kernel
theorem dX7_bars_5 : decode cX7_bars 5 = .ok (.invokevirtual 115, 3) := by decide +kernel
theorem dX7_bars_8 : decode cX7_bars 8 = .ok (.ifCond .eq 12, 3) := by decide +kernel
theorem dX7_bars_11 : decode cX7_bars 11 = .ok (.iload_n 2, 1) := by decide +kernel
theorem dX7_bars_12 : decode cX7_bars 12 = .ok (.ifCond .lt 8, 3) := by decide +kernel
theorem dX7_bars_15 : decode cX7_bars 15 = .ok (.iload_n 2, 1) := by decide +kernel
theorem dX7_bars_16 : decode cX7_bars 16 = .ok (.iconst 2, 1) := by decide +kernel
theorem dX7_bars_17 : decode cX7_bars 17 = .ok (.if_icmp .le 5, 3) := by decide +kernel
theorem dX7_bars_20 : decode cX7_bars 20 = .ok (.iconst (-1), 1) := by decide +kernel
theorem dX7_bars_21 : decode cX7_bars 21 = .ok (.ireturn, 1) := by decide +kernel
theorem dX7_bars_22 : decode cX7_bars 22 = .ok (.aload_n 0, 1) := by decide +kernel
theorem dX7_bars_23 : decode cX7_bars 23 = .ok (.iload_n 1, 1) := by decide +kernel
theorem dX7_bars_24 : decode cX7_bars 24 = .ok (.invokevirtual 124, 3) := by decide +kernel
theorem dX7_bars_27 : decode cX7_bars 27 = .ok (.iconst 0, 1) := by decide +kernel
theorem dX7_bars_28 : decode cX7_bars 28 = .ok (.istore_n 3, 1) := by decide +kernel
theorem dX7_bars_29 : decode cX7_bars 29 = .ok (.bipush (-5), 2) := by decide +kernel
theorem dX7_bars_31 : decode cX7_bars 31 = .ok (.istore 4, 2) := by decide +kernel
theorem dX7_bars_33 : decode cX7_bars 33 = .ok (.bipush (-5), 2) := by decide +kernel
theorem dX7_bars_35 : decode cX7_bars 35 = .ok (.istore 5, 2) := by decide +kernel
theorem dX7_bars_37 : decode cX7_bars 37 = .ok (.iconst 0, 1) := by decide +kernel
theorem dX7_bars_38 : decode cX7_bars 38 = .ok (.istore 6, 2) := by decide +kernel
theorem dX7_bars_40 : decode cX7_bars 40 = .ok (.iload 6, 2) := by decide +kernel
theorem dX7_bars_42 : decode cX7_bars 42 = .ok (.bipush 40, 2) := by decide +kernel
theorem dX7_bars_44 : decode cX7_bars 44 = .ok (.if_icmp .gt 51, 3) := by decide +kernel
theorem dX7_bars_47 : decode cX7_bars 47 = .ok (.aload_n 0, 1) := by decide +kernel
theorem dX7_bars_48 : decode cX7_bars 48 = .ok (.getfield 35, 3) := by decide +kernel
theorem dX7_bars_51 : decode cX7_bars 51 = .ok (.iload 6, 2) := by decide +kernel
theorem dX7_bars_53 : decode cX7_bars 53 = .ok (.invokevirtual 227, 3) := by decide +kernel
theorem dX7_bars_56 : decode cX7_bars 56 = .ok (.aload_n 0, 1) := by decide +kernel
theorem dX7_bars_57 : decode cX7_bars 57 = .ok (.getfield 35, 3) := by decide +kernel
theorem dX7_bars_60 : decode cX7_bars 60 = .ok (.invokevirtual 221, 3) := by decide +kernel
theorem dX7_bars_63 : decode cX7_bars 63 = .ok (.bipush (-5), 2) := by decide +kernel
theorem dX7_bars_65 : decode cX7_bars 65 = .ok (.if_icmp .ne 24, 3) := by decide +kernel
theorem dX7_bars_68 : decode cX7_bars 68 = .ok (.iinc 3 1, 3) := by decide +kernel
theorem dX7_bars_71 : decode cX7_bars 71 = .ok (.iload_n 3, 1) := by decide +kernel
theorem dX7_bars_72 : decode cX7_bars 72 = .ok (.iconst 1, 1) := by decide +kernel
theorem dX7_bars_73 : decode cX7_bars 73 = .ok (.if_icmp .ne 8, 3) := by decide +kernel
theorem dX7_bars_76 : decode cX7_bars 76 = .ok (.iload 6, 2) := by decide +kernel
theorem dX7_bars_78 : decode cX7_bars 78 = .ok (.goto 5, 3) := by decide +kernel
theorem dX7_bars_81 : decode cX7_bars 81 = .ok (.iload 4, 2) := by decide +kernel
theorem dX7_bars_83 : decode cX7_bars 83 = .ok (.istore 4, 2) := by decide +kernel
theorem dX7_bars_85 : decode cX7_bars 85 = .ok (.iload 6, 2) := by decide +kernel
theorem dX7_bars_87 : decode cX7_bars 87 = .ok (.istore 5, 2) := by decide +kernel
theorem dX7_bars_89 : decode cX7_bars 89 = .ok (.iinc 6 1, 3) := by decide +kernel
theorem dX7_bars_92 : decode cX7_bars 92 = .ok (.goto (-52), 3) := by decide +kernel
theorem dX7_bars_95 : decode cX7_bars 95 = .ok (.iload_n 2, 1) := by decide +kernel
theorem dX7_bars_96 : decode cX7_bars 96 = .ok (.ifCond .ne 5, 3) := by decide +kernel
theorem dX7_bars_99 : decode cX7_bars 99 = .ok (.iload_n 3, 1) := by decide +kernel
theorem dX7_bars_100 : decode cX7_bars 100 = .ok (.ireturn, 1) := by decide +kernel
theorem dX7_bars_101 : decode cX7_bars 101 = .ok (.iload_n 2, 1) := by decide +kernel
theorem dX7_bars_102 : decode cX7_bars 102 = .ok (.iconst 1, 1) := by decide +kernel
theorem dX7_bars_103 : decode cX7_bars 103 = .ok (.if_icmp .ne 8, 3) := by decide +kernel
theorem dX7_bars_106 : decode cX7_bars 106 = .ok (.iload 4, 2) := by decide +kernel
theorem dX7_bars_108 : decode cX7_bars 108 = .ok (.goto 5, 3) := by decide +kernel
theorem dX7_bars_111 : decode cX7_bars 111 = .ok (.iload 5, 2) := by decide +kernel
theorem dX7_bars_113 : decode cX7_bars 113 = .ok (.ireturn, 1) := by decide +kernel
theorem dX7_queue_0 : decode cX7_queue 0 = .ok (.iload_n 1, 1) := by decide +kernel
theorem dX7_queue_1 : decode cX7_queue 1 = .ok (.iconst (-1), 1) := by decide +kernel
theorem dX7_queue_2 : decode cX7_queue 2 = .ok (.if_icmp .ne 13, 3) := by decide +kernel
theorem dX7_queue_5 : decode cX7_queue 5 = .ok (.aload_n 0, 1) := by decide +kernel
theorem dX7_queue_6 : decode cX7_queue 6 = .ok (.getfield 14, 3) := by decide +kernel
theorem dX7_queue_9 : decode cX7_queue 9 = .ok (.iconst 0, 1) := by decide +kernel
theorem dX7_queue_10 : decode cX7_queue 10 = .ok (.putfield 230, 3) := by decide +kernel
theorem dX7_queue_13 : decode cX7_queue 13 = .ok (.iconst 0, 1) := by decide +kernel
theorem dX7_queue_14 : decode cX7_queue 14 = .ok (.ireturn, 1) := by decide +kernel
theorem dX7_queue_15 : decode cX7_queue 15 = .ok (.aload_n 0, 1) := by decide +kernel
theorem dX7_queue_16 : decode cX7_queue 16 = .ok (.getfield 14, 3) := by decide +kernel
theorem dX7_queue_19 : decode cX7_queue 19 = .ok (.iload_n 1, 1) := by decide +kernel
theorem dX7_queue_20 : decode cX7_queue 20 = .ok (.invokevirtual 95, 3) := by decide +kernel
theorem dX7_queue_23 : decode cX7_queue 23 = .ok (.ifCond .ne 5, 3) := by decide +kernel
theorem dX7_queue_26 : decode cX7_queue 26 = .ok (.iconst (-1), 1) := by decide +kernel
theorem dX7_queue_27 : decode cX7_queue 27 = .ok (.ireturn, 1) := by decide +kernel
theorem dX7_queue_28 : decode cX7_queue 28 = .ok (.aload_n 0, 1) := by decide +kernel
theorem dX7_queue_29 : decode cX7_queue 29 = .ok (.getfield 14, 3) := by decide +kernel
theorem dX7_queue_32 : decode cX7_queue 32 = .ok (.getfield 230, 3) := by decide +kernel
theorem dX7_queue_35 : decode cX7_queue 35 = .ok (.ifCond .lt 15, 3) := by decide +kernel
theorem dX7_queue_38 : decode cX7_queue 38 = .ok (.aload_n 0, 1) := by decide +kernel
theorem dX7_queue_39 : decode cX7_queue 39 = .ok (.getfield 14, 3) := by decide +kernel
theorem dX7_queue_42 : decode cX7_queue 42 = .ok (.getfield 230, 3) := by decide +kernel
theorem dX7_queue_45 : decode cX7_queue 45 = .ok (.bipush 8, 2) := by decide +kernel
theorem dX7_queue_47 : decode cX7_queue 47 = .ok (.if_icmp .lt 6, 3) := by decide +kernel
theorem dX7_queue_50 : decode cX7_queue 50 = .ok (.bipush (-4), 2) := by decide +kernel
theorem dX7_queue_52 : decode cX7_queue 52 = .ok (.ireturn, 1) := by decide +kernel
theorem dX7_queue_53 : decode cX7_queue 53 = .ok (.aload_n 0, 1) := by decide +kernel
theorem dX7_queue_54 : decode cX7_queue 54 = .ok (.getfield 14, 3) := by decide +kernel
theorem dX7_queue_57 : decode cX7_queue 57 = .ok (.getfield 233, 3) := by decide +kernel
theorem dX7_queue_60 : decode cX7_queue 60 = .ok (.aload_n 0, 1) := by decide +kernel
theorem dX7_queue_61 : decode cX7_queue 61 = .ok (.getfield 14, 3) := by decide +kernel
theorem dX7_queue_64 : decode cX7_queue 64 = .ok (.getfield 230, 3) := by decide +kernel
theorem dX7_queue_67 : decode cX7_queue 67 = .ok (.iload_n 1, 1) := by decide +kernel
theorem dX7_queue_68 : decode cX7_queue 68 = .ok (.iastore, 1) := by decide +kernel
theorem dX7_queue_69 : decode cX7_queue 69 = .ok (.aload_n 0, 1) := by decide +kernel
theorem dX7_queue_70 : decode cX7_queue 70 = .ok (.getfield 14, 3) := by decide +kernel
theorem dX7_queue_73 : decode cX7_queue 73 = .ok (.dup, 1) := by decide +kernel
theorem dX7_queue_74 : decode cX7_queue 74 = .ok (.getfield 230, 3) := by decide +kernel
theorem dX7_queue_77 : decode cX7_queue 77 = .ok (.iconst 1, 1) := by decide +kernel
theorem dX7_queue_78 : decode cX7_queue 78 = .ok (.iadd, 1) := by decide +kernel
theorem dX7_queue_79 : decode cX7_queue 79 = .ok (.putfield 230, 3) := by decide +kernel
theorem dX7_queue_82 : decode cX7_queue 82 = .ok (.aload_n 0, 1) := by decide +kernel
theorem dX7_queue_83 : decode cX7_queue 83 = .ok (.getfield 14, 3) := by decide +kernel
theorem dX7_queue_86 : decode cX7_queue 86 = .ok (.getfield 230, 3) := by decide +kernel
theorem dX7_queue_89 : decode cX7_queue 89 = .ok (.ireturn, 1) := by decide +kernel
theorem dX7_odds_0 : decode cX7_odds 0 = .ok (.aload_n 0, 1) := by decide +kernel
theorem dX7_odds_1 : decode cX7_odds 1 = .ok (.getfield 14, 3) := by decide +kernel
theorem dX7_odds_4 : decode cX7_odds 4 = .ok (.iload_n 1, 1) := by decide +kernel
theorem dX7_odds_5 : decode cX7_odds 5 = .ok (.invokevirtual 115, 3) := by decide +kernel
theorem dX7_odds_8 : decode cX7_odds 8 = .ok (.ifCond .eq 33, 3) := by decide +kernel
theorem dX7_odds_11 : decode cX7_odds 11 = .ok (.iload_n 2, 1) := by decide +kernel
theorem dX7_odds_12 : decode cX7_odds 12 = .ok (.ifCond .lt 29, 3) := by decide +kernel
theorem dX7_odds_15 : decode cX7_odds 15 = .ok (.iload_n 2, 1) := by decide +kernel
theorem dX7_odds_16 : decode cX7_odds 16 = .ok (.aload_n 0, 1) := by decide +kernel
theorem dX7_odds_17 : decode cX7_odds 17 = .ok (.getfield 14, 3) := by decide +kernel
theorem dX7_odds_20 : decode cX7_odds 20 = .ok (.getfield 230, 3) := by decide +kernel
theorem dX7_odds_23 : decode cX7_odds 23 = .ok (.if_icmp .ge 18, 3) := by decide +kernel
theorem dX7_odds_26 : decode cX7_odds 26 = .ok (.iload_n 2, 1) := by decide +kernel
theorem dX7_odds_27 : decode cX7_odds 27 = .ok (.bipush 8, 2) := by decide +kernel
theorem dX7_odds_29 : decode cX7_odds 29 = .ok (.if_icmp .ge 12, 3) := by decide +kernel
theorem dX7_odds_32 : decode cX7_odds 32 = .ok (.iload_n 3, 1) := by decide +kernel
theorem dX7_odds_33 : decode cX7_odds 33 = .ok (.ifCond .lt 8, 3) := by decide +kernel
theorem dX7_odds_36 : decode cX7_odds 36 = .ok (.iload_n 3, 1) := by decide +kernel
theorem dX7_odds_37 : decode cX7_odds 37 = .ok (.iconst 1, 1) := by decide +kernel
theorem dX7_odds_38 : decode cX7_odds 38 = .ok (.if_icmp .le 7, 3) := by decide +kernel
theorem dX7_odds_41 : decode cX7_odds 41 = .ok (.ldc2_w 236, 3) := by decide +kernel
theorem dX7_odds_44 : decode cX7_odds 44 = .ok (.lreturn, 1) := by decide +kernel
theorem dX7_odds_45 : decode cX7_odds 45 = .ok (.aload_n 0, 1) := by decide +kernel
theorem dX7_odds_46 : decode cX7_odds 46 = .ok (.iload_n 1, 1) := by decide +kernel
theorem dX7_odds_47 : decode cX7_odds 47 = .ok (.invokevirtual 124, 3) := by decide +kernel
theorem dX7_odds_50 : decode cX7_odds 50 = .ok (.aload_n 0, 1) := by decide +kernel
theorem dX7_odds_51 : decode cX7_odds 51 = .ok (.getfield 51, 3) := by decide +kernel
theorem dX7_odds_54 : decode cX7_odds 54 = .ok (.aload_n 0, 1) := by decide +kernel
theorem dX7_odds_55 : decode cX7_odds 55 = .ok (.getfield 14, 3) := by decide +kernel
theorem dX7_odds_58 : decode cX7_odds 58 = .ok (.invokevirtual 238, 3) := by decide +kernel
theorem dX7_odds_61 : decode cX7_odds 61 = .ok (.aload_n 0, 1) := by decide +kernel
theorem dX7_odds_62 : decode cX7_odds 62 = .ok (.getfield 51, 3) := by decide +kernel
theorem dX7_odds_65 : decode cX7_odds 65 = .ok (.getfield 242, 3) := by decide +kernel
theorem dX7_odds_68 : decode cX7_odds 68 = .ok (.iload_n 2, 1) := by decide +kernel
theorem dX7_odds_69 : decode cX7_odds 69 = .ok (.iaload, 1) := by decide +kernel
theorem dX7_odds_70 : decode cX7_odds 70 = .ok (.iload_n 3, 1) := by decide +kernel
theorem dX7_odds_71 : decode cX7_odds 71 = .ok (.invokestatic 245, 3) := by decide +kernel
theorem dX7_odds_74 : decode cX7_odds 74 = .ok (.lreturn, 1) := by decide +kernel
theorem dX7_expects_0 : decode cX7_expects 0 = .ok (.aload_n 0, 1) := by decide +kernel
theorem dX7_expects_1 : decode cX7_expects 1 = .ok (.getfield 14, 3) := by decide +kernel
theorem dX7_expects_4 : decode cX7_expects 4 = .ok (.iload_n 1, 1) := by decide +kernel
theorem dX7_expects_5 : decode cX7_expects 5 = .ok (.invokevirtual 115, 3) := by decide +kernel
theorem dX7_expects_8 : decode cX7_expects 8 = .ok (.ifCond .eq 12, 3) := by decide +kernel
theorem dX7_expects_11 : decode cX7_expects 11 = .ok (.iload_n 2, 1) := by decide +kernel
theorem dX7_expects_12 : decode cX7_expects 12 = .ok (.ifCond .lt 8, 3) := by decide +kernel
theorem dX7_expects_15 : decode cX7_expects 15 = .ok (.iload_n 2, 1) := by decide +kernel
theorem dX7_expects_16 : decode cX7_expects 16 = .ok (.iconst 1, 1) := by decide +kernel
theorem dX7_expects_17 : decode cX7_expects 17 = .ok (.if_icmp .le 7, 3) := by decide +kernel
theorem dX7_expects_20 : decode cX7_expects 20 = .ok (.ldc2_w 236, 3) := by decide +kernel
theorem dX7_expects_23 : decode cX7_expects 23 = .ok (.lreturn, 1) := by decide +kernel
theorem dX7_expects_24 : decode cX7_expects 24 = .ok (.aload_n 0, 1) := by decide +kernel
theorem dX7_expects_25 : decode cX7_expects 25 = .ok (.iload_n 1, 1) := by decide +kernel
theorem dX7_expects_26 : decode cX7_expects 26 = .ok (.invokevirtual 124, 3) := by decide +kernel
theorem dX7_expects_29 : decode cX7_expects 29 = .ok (.aload_n 0, 1) := by decide +kernel
theorem dX7_expects_30 : decode cX7_expects 30 = .ok (.getfield 51, 3) := by decide +kernel
theorem dX7_expects_33 : decode cX7_expects 33 = .ok (.aload_n 0, 1) := by decide +kernel
theorem dX7_expects_34 : decode cX7_expects 34 = .ok (.getfield 14, 3) := by decide +kernel
theorem dX7_expects_37 : decode cX7_expects 37 = .ok (.invokevirtual 238, 3) := by decide +kernel
theorem dX7_expects_40 : decode cX7_expects 40 = .ok (.iconst 0, 1) := by decide +kernel
theorem dX7_expects_41 : decode cX7_expects 41 = .ok (.istore_n 3, 1) := by decide +kernel
theorem dX7_expects_42 : decode cX7_expects 42 = .ok (.iconst 0, 1) := by decide +kernel
theorem dX7_expects_43 : decode cX7_expects 43 = .ok (.istore 4, 2) := by decide +kernel
theorem dX7_expects_45 : decode cX7_expects 45 = .ok (.iload 4, 2) := by decide +kernel
theorem dX7_expects_47 : decode cX7_expects 47 = .ok (.aload_n 0, 1) := by decide +kernel
theorem dX7_expects_48 : decode cX7_expects 48 = .ok (.getfield 14, 3) := by decide +kernel
theorem dX7_expects_51 : decode cX7_expects 51 = .ok (.getfield 230, 3) := by decide +kernel
theorem dX7_expects_54 : decode cX7_expects 54 = .ok (.if_icmp .ge 47, 3) := by decide +kernel
theorem dX7_expects_57 : decode cX7_expects 57 = .ok (.iload 4, 2) := by decide +kernel
theorem dX7_expects_59 : decode cX7_expects 59 = .ok (.bipush 8, 2) := by decide +kernel
theorem dX7_expects_61 : decode cX7_expects 61 = .ok (.if_icmp .ge 40, 3) := by decide +kernel
theorem dX7_expects_64 : decode cX7_expects 64 = .ok (.iload_n 3, 1) := by decide +kernel
theorem dX7_expects_65 : decode cX7_expects 65 = .ok (.aload_n 0, 1) := by decide +kernel
theorem dX7_expects_66 : decode cX7_expects 66 = .ok (.getfield 51, 3) := by decide +kernel
theorem dX7_expects_69 : decode cX7_expects 69 = .ok (.getfield 242, 3) := by decide +kernel
theorem dX7_expects_72 : decode cX7_expects 72 = .ok (.iload 4, 2) := by decide +kernel
theorem dX7_expects_74 : decode cX7_expects 74 = .ok (.iaload, 1) := by decide +kernel
theorem dX7_expects_75 : decode cX7_expects 75 = .ok (.aload_n 0, 1) := by decide +kernel
theorem dX7_expects_76 : decode cX7_expects 76 = .ok (.getfield 14, 3) := by decide +kernel
theorem dX7_expects_79 : decode cX7_expects 79 = .ok (.aload_n 0, 1) := by decide +kernel
theorem dX7_expects_80 : decode cX7_expects 80 = .ok (.getfield 14, 3) := by decide +kernel
theorem dX7_expects_83 : decode cX7_expects 83 = .ok (.getfield 233, 3) := by decide +kernel
theorem dX7_expects_86 : decode cX7_expects 86 = .ok (.iload 4, 2) := by decide +kernel
theorem dX7_expects_88 : decode cX7_expects 88 = .ok (.iaload, 1) := by decide +kernel
theorem dX7_expects_89 : decode cX7_expects 89 = .ok (.invokevirtual 103, 3) := by decide +kernel
theorem dX7_expects_92 : decode cX7_expects 92 = .ok (.imul, 1) := by decide +kernel
theorem dX7_expects_93 : decode cX7_expects 93 = .ok (.iadd, 1) := by decide +kernel
theorem dX7_expects_94 : decode cX7_expects 94 = .ok (.istore_n 3, 1) := by decide +kernel
theorem dX7_expects_95 : decode cX7_expects 95 = .ok (.iinc 4 1, 3) := by decide +kernel
theorem dX7_expects_98 : decode cX7_expects 98 = .ok (.goto (-53), 3) := by decide +kernel
theorem dX7_expects_101 : decode cX7_expects 101 = .ok (.iload_n 3, 1) := by decide +kernel
theorem dX7_expects_102 : decode cX7_expects 102 = .ok (.iload_n 2, 1) := by decide +kernel
theorem dX7_expects_103 : decode cX7_expects 103 = .ok (.invokestatic 245, 3) := by decide +kernel
theorem dX7_expects_106 : decode cX7_expects 106 = .ok (.lreturn, 1) := by decide +kernel
theorem dX7_act_0 : decode cX7_act 0 = .ok (.aload_n 0, 1) := by decide +kernel
theorem dX7_act_1 : decode cX7_act 1 = .ok (.getfield 14, 3) := by decide +kernel
theorem dX7_act_4 : decode cX7_act 4 = .ok (.iload_n 1, 1) := by decide +kernel
theorem dX7_act_5 : decode cX7_act 5 = .ok (.invokevirtual 115, 3) := by decide +kernel
theorem dX7_act_8 : decode cX7_act 8 = .ok (.ifCond .eq 12, 3) := by decide +kernel
theorem dX7_act_11 : decode cX7_act 11 = .ok (.iload_n 2, 1) := by decide +kernel
theorem dX7_act_12 : decode cX7_act 12 = .ok (.ifCond .lt 8, 3) := by decide +kernel
theorem dX7_act_15 : decode cX7_act 15 = .ok (.iload_n 2, 1) := by decide +kernel
theorem dX7_act_16 : decode cX7_act 16 = .ok (.iconst 3, 1) := by decide +kernel
theorem dX7_act_17 : decode cX7_act 17 = .ok (.if_icmp .lt 13, 3) := by decide +kernel
theorem dX7_act_20 : decode cX7_act 20 = .ok (.aload_n 0, 1) := by decide +kernel
theorem dX7_act_21 : decode cX7_act 21 = .ok (.getfield 58, 3) := by decide +kernel
theorem dX7_act_24 : decode cX7_act 24 = .ok (.iconst 0, 1) := by decide +kernel
theorem dX7_act_25 : decode cX7_act 25 = .ok (.putfield 249, 3) := by decide +kernel
theorem dX7_act_28 : decode cX7_act 28 = .ok (.iconst 0, 1) := by decide +kernel
theorem dX7_act_29 : decode cX7_act 29 = .ok (.ireturn, 1) := by decide +kernel
theorem dX7_act_30 : decode cX7_act 30 = .ok (.aload_n 0, 1) := by decide +kernel
theorem dX7_act_31 : decode cX7_act 31 = .ok (.getfield 58, 3) := by decide +kernel
theorem dX7_act_34 : decode cX7_act 34 = .ok (.iload_n 1, 1) := by decide +kernel
theorem dX7_act_35 : decode cX7_act 35 = .ok (.aload_n 0, 1) := by decide +kernel
theorem dX7_act_36 : decode cX7_act 36 = .ok (.getfield 14, 3) := by decide +kernel
theorem dX7_act_39 : decode cX7_act 39 = .ok (.iload_n 1, 1) := by decide +kernel
theorem dX7_act_40 : decode cX7_act 40 = .ok (.invokevirtual 118, 3) := by decide +kernel
theorem dX7_act_43 : decode cX7_act 43 = .ok (.aload_n 0, 1) := by decide +kernel
theorem dX7_act_44 : decode cX7_act 44 = .ok (.getfield 14, 3) := by decide +kernel
theorem dX7_act_47 : decode cX7_act 47 = .ok (.iload_n 1, 1) := by decide +kernel
theorem dX7_act_48 : decode cX7_act 48 = .ok (.invokevirtual 121, 3) := by decide +kernel
theorem dX7_act_51 : decode cX7_act 51 = .ok (.iload_n 2, 1) := by decide +kernel
theorem dX7_act_52 : decode cX7_act 52 = .ok (.iload_n 3, 1) := by decide +kernel
theorem dX7_act_53 : decode cX7_act 53 = .ok (.invokevirtual 252, 3) := by decide +kernel
theorem dX7_act_56 : decode cX7_act 56 = .ok (.ireturn, 1) := by decide +kernel
theorem dX7_trace_0 : decode cX7_trace 0 = .ok (.iload_n 1, 1) := by decide +kernel
theorem dX7_trace_1 : decode cX7_trace 1 = .ok (.ifCond .lt 20, 3) := by decide +kernel
theorem dX7_trace_4 : decode cX7_trace 4 = .ok (.iload_n 1, 1) := by decide +kernel
theorem dX7_trace_5 : decode cX7_trace 5 = .ok (.aload_n 0, 1) := by decide +kernel
theorem dX7_trace_6 : decode cX7_trace 6 = .ok (.getfield 58, 3) := by decide +kernel
theorem dX7_trace_9 : decode cX7_trace 9 = .ok (.getfield 249, 3) := by decide +kernel
theorem dX7_trace_12 : decode cX7_trace 12 = .ok (.if_icmp .ge 9, 3) := by decide +kernel
theorem dX7_trace_15 : decode cX7_trace 15 = .ok (.iload_n 1, 1) := by decide +kernel
theorem dX7_trace_16 : decode cX7_trace 16 = .ok (.bipush 20, 2) := by decide +kernel
theorem dX7_trace_18 : decode cX7_trace 18 = .ok (.if_icmp .lt 5, 3) := by decide +kernel
theorem dX7_trace_21 : decode cX7_trace 21 = .ok (.iconst (-1), 1) := by decide +kernel
theorem dX7_trace_22 : decode cX7_trace 22 = .ok (.ireturn, 1) := by decide +kernel
theorem dX7_trace_23 : decode cX7_trace 23 = .ok (.aload_n 0, 1) := by decide +kernel
theorem dX7_trace_24 : decode cX7_trace 24 = .ok (.getfield 58, 3) := by decide +kernel
theorem dX7_trace_27 : decode cX7_trace 27 = .ok (.getfield 256, 3) := by decide +kernel
theorem dX7_trace_30 : decode cX7_trace 30 = .ok (.iload_n 1, 1) := by decide +kernel
theorem dX7_trace_31 : decode cX7_trace 31 = .ok (.iaload, 1) := by decide +kernel
theorem dX7_trace_32 : decode cX7_trace 32 = .ok (.ireturn, 1) := by decide +kernel
theorem dX7_as_0 : decode cX7_as 0 = .ok (.aload_n 0, 1) := by decide +kernel
theorem dX7_as_1 : decode cX7_as 1 = .ok (.getfield 14, 3) := by decide +kernel
theorem dX7_as_4 : decode cX7_as 4 = .ok (.iload_n 1, 1) := by decide +kernel
theorem dX7_as_5 : decode cX7_as 5 = .ok (.invokevirtual 115, 3) := by decide +kernel
theorem dX7_as_8 : decode cX7_as 8 = .ok (.ifCond .eq 13, 3) := by decide +kernel
theorem dX7_as_11 : decode cX7_as 11 = .ok (.iload_n 2, 1) := by decide +kernel
theorem dX7_as_12 : decode cX7_as 12 = .ok (.ifCond .lt 9, 3) := by decide +kernel
theorem dX7_as_15 : decode cX7_as 15 = .ok (.iload_n 2, 1) := by decide +kernel
theorem dX7_as_16 : decode cX7_as 16 = .ok (.bipush 7, 2) := by decide +kernel
theorem dX7_as_18 : decode cX7_as 18 = .ok (.if_icmp .lt 5, 3) := by decide +kernel
theorem dX7_as_21 : decode cX7_as 21 = .ok (.iconst (-1), 1) := by decide +kernel
theorem dX7_as_22 : decode cX7_as 22 = .ok (.ireturn, 1) := by decide +kernel
theorem dX7_as_23 : decode cX7_as 23 = .ok (.aload_n 0, 1) := by decide +kernel
theorem dX7_as_24 : decode cX7_as 24 = .ok (.getfield 14, 3) := by decide +kernel
theorem dX7_as_27 : decode cX7_as 27 = .ok (.iload_n 1, 1) := by decide +kernel
theorem dX7_as_28 : decode cX7_as 28 = .ok (.invokevirtual 118, 3) := by decide +kernel
theorem dX7_as_31 : decode cX7_as 31 = .ok (.istore_n 3, 1) := by decide +kernel
theorem dX7_as_32 : decode cX7_as 32 = .ok (.iconst 0, 1) := by decide +kernel
theorem dX7_as_33 : decode cX7_as 33 = .ok (.istore 4, 2) := by decide +kernel
theorem dX7_as_35 : decode cX7_as 35 = .ok (.iload 4, 2) := by decide +kernel
theorem dX7_as_37 : decode cX7_as 37 = .ok (.bipush 7, 2) := by decide +kernel
theorem dX7_as_39 : decode cX7_as 39 = .ok (.if_icmp .ge 39, 3) := by decide +kernel
theorem dX7_as_42 : decode cX7_as 42 = .ok (.iload_n 3, 1) := by decide +kernel
theorem dX7_as_43 : decode cX7_as 43 = .ok (.ifCond .lt 35, 3) := by decide +kernel
theorem dX7_as_46 : decode cX7_as 46 = .ok (.iload_n 3, 1) := by decide +kernel
theorem dX7_as_47 : decode cX7_as 47 = .ok (.bipush 7, 2) := by decide +kernel
theorem dX7_as_49 : decode cX7_as 49 = .ok (.if_icmp .ge 29, 3) := by decide +kernel
theorem dX7_as_52 : decode cX7_as 52 = .ok (.iload_n 3, 1) := by decide +kernel
theorem dX7_as_53 : decode cX7_as 53 = .ok (.iload_n 2, 1) := by decide +kernel
theorem dX7_as_54 : decode cX7_as 54 = .ok (.if_icmp .ne 12, 3) := by decide +kernel
theorem dX7_as_57 : decode cX7_as 57 = .ok (.aload_n 0, 1) := by decide +kernel
theorem dX7_as_58 : decode cX7_as 58 = .ok (.getfield 14, 3) := by decide +kernel
theorem dX7_as_61 : decode cX7_as 61 = .ok (.iload_n 1, 1) := by decide +kernel
theorem dX7_as_62 : decode cX7_as 62 = .ok (.invokevirtual 121, 3) := by decide +kernel
theorem dX7_as_65 : decode cX7_as 65 = .ok (.ireturn, 1) := by decide +kernel
theorem dX7_as_66 : decode cX7_as 66 = .ok (.getstatic 259, 3) := by decide +kernel
theorem dX7_as_69 : decode cX7_as 69 = .ok (.iload_n 3, 1) := by decide +kernel
theorem dX7_as_70 : decode cX7_as 70 = .ok (.iaload, 1) := by decide +kernel
theorem dX7_as_71 : decode cX7_as 71 = .ok (.istore_n 3, 1) := by decide +kernel
theorem dX7_as_72 : decode cX7_as 72 = .ok (.iinc 4 1, 3) := by decide +kernel
theorem dX7_as_75 : decode cX7_as 75 = .ok (.goto (-40), 3) := by decide +kernel
theorem dX7_as_78 : decode cX7_as 78 = .ok (.bipush (-6), 2) := by decide +kernel
theorem dX7_as_80 : decode cX7_as 80 = .ok (.ireturn, 1) := by decide +kernel
theorem dX7_image_0 : decode cX7_image 0 = .ok (.aload_n 0, 1) := by decide +kernel
theorem dX7_image_1 : decode cX7_image 1 = .ok (.getfield 18, 3) := by decide +kernel
theorem dX7_image_4 : decode cX7_image 4 = .ok (.aload_n 0, 1) := by decide +kernel
theorem dX7_image_5 : decode cX7_image 5 = .ok (.getfield 14, 3) := by decide +kernel
theorem dX7_image_8 : decode cX7_image 8 = .ok (.invokevirtual 262, 3) := by decide +kernel
theorem dX7_image_11 : decode cX7_image 11 = .ok (.aload_n 0, 1) := by decide +kernel
theorem dX7_image_12 : decode cX7_image 12 = .ok (.iconst 1, 1) := by decide +kernel
theorem dX7_image_13 : decode cX7_image 13 = .ok (.putfield 21, 3) := by decide +kernel
theorem dX7_image_16 : decode cX7_image 16 = .ok (.aload_n 0, 1) := by decide +kernel
theorem dX7_image_17 : decode cX7_image 17 = .ok (.getfield 14, 3) := by decide +kernel
theorem dX7_image_20 : decode cX7_image 20 = .ok (.getfield 85, 3) := by decide +kernel
theorem dX7_image_23 : decode cX7_image 23 = .ok (.ireturn, 1) := by decide +kernel
theorem dX7_undo_0 : decode cX7_undo 0 = .ok (.aload_n 0, 1) := by decide +kernel
theorem dX7_undo_1 : decode cX7_undo 1 = .ok (.getfield 21, 3) := by decide +kernel
theorem dX7_undo_4 : decode cX7_undo 4 = .ok (.ifCond .ne 6, 3) := by decide +kernel
theorem dX7_undo_7 : decode cX7_undo 7 = .ok (.bipush (-3), 2) := by decide +kernel
theorem dX7_undo_9 : decode cX7_undo 9 = .ok (.ireturn, 1) := by decide +kernel
theorem dX7_undo_10 : decode cX7_undo 10 = .ok (.aload_n 0, 1) := by decide +kernel
theorem dX7_undo_11 : decode cX7_undo 11 = .ok (.getfield 14, 3) := by decide +kernel
theorem dX7_undo_14 : decode cX7_undo 14 = .ok (.aload_n 0, 1) := by decide +kernel
theorem dX7_undo_15 : decode cX7_undo 15 = .ok (.getfield 18, 3) := by decide +kernel
theorem dX7_undo_18 : decode cX7_undo 18 = .ok (.invokevirtual 262, 3) := by decide +kernel
theorem dX7_undo_21 : decode cX7_undo 21 = .ok (.aload_n 0, 1) := by decide +kernel
theorem dX7_undo_22 : decode cX7_undo 22 = .ok (.getfield 14, 3) := by decide +kernel
theorem dX7_undo_25 : decode cX7_undo 25 = .ok (.getfield 85, 3) := by decide +kernel
theorem dX7_undo_28 : decode cX7_undo 28 = .ok (.ireturn, 1) := by decide +kernel
theorem dX7_count_0 : decode cX7_count 0 = .ok (.iload_n 1, 1) := by decide +kernel
theorem dX7_count_1 : decode cX7_count 1 = .ok (.tableswitch 99 0 6 #[43, 51, 59, 67, 75, 83, 91], 43) := by decide +kernel
theorem dX7_count_44 : decode cX7_count 44 = .ok (.aload_n 0, 1) := by decide +kernel
theorem dX7_count_45 : decode cX7_count 45 = .ok (.getfield 14, 3) := by decide +kernel
theorem dX7_count_48 : decode cX7_count 48 = .ok (.getfield 85, 3) := by decide +kernel
theorem dX7_count_51 : decode cX7_count 51 = .ok (.ireturn, 1) := by decide +kernel
theorem dX7_count_52 : decode cX7_count 52 = .ok (.aload_n 0, 1) := by decide +kernel
theorem dX7_count_53 : decode cX7_count 53 = .ok (.getfield 14, 3) := by decide +kernel
theorem dX7_count_56 : decode cX7_count 56 = .ok (.getfield 106, 3) := by decide +kernel
theorem dX7_count_59 : decode cX7_count 59 = .ok (.ireturn, 1) := by decide +kernel
theorem dX7_count_60 : decode cX7_count 60 = .ok (.aload_n 0, 1) := by decide +kernel
theorem dX7_count_61 : decode cX7_count 61 = .ok (.getfield 14, 3) := by decide +kernel
theorem dX7_count_64 : decode cX7_count 64 = .ok (.getfield 70, 3) := by decide +kernel
theorem dX7_count_67 : decode cX7_count 67 = .ok (.ireturn, 1) := by decide +kernel
theorem dX7_count_68 : decode cX7_count 68 = .ok (.aload_n 0, 1) := by decide +kernel
theorem dX7_count_69 : decode cX7_count 69 = .ok (.getfield 14, 3) := by decide +kernel
theorem dX7_count_72 : decode cX7_count 72 = .ok (.getfield 173, 3) := by decide +kernel
theorem dX7_count_75 : decode cX7_count 75 = .ok (.ireturn, 1) := by decide +kernel
theorem dX7_count_76 : decode cX7_count 76 = .ok (.aload_n 0, 1) := by decide +kernel
theorem dX7_count_77 : decode cX7_count 77 = .ok (.getfield 14, 3) := by decide +kernel
theorem dX7_count_80 : decode cX7_count 80 = .ok (.getfield 230, 3) := by decide +kernel
theorem dX7_count_83 : decode cX7_count 83 = .ok (.ireturn, 1) := by decide +kernel
theorem dX7_count_84 : decode cX7_count 84 = .ok (.aload_n 0, 1) := by decide +kernel
theorem dX7_count_85 : decode cX7_count 85 = .ok (.getfield 14, 3) := by decide +kernel
theorem dX7_count_88 : decode cX7_count 88 = .ok (.getfield 62, 3) := by decide +kernel
theorem dX7_count_91 : decode cX7_count 91 = .ok (.ireturn, 1) := by decide +kernel
theorem dX7_count_92 : decode cX7_count 92 = .ok (.aload_n 0, 1) := by decide +kernel
theorem dX7_count_93 : decode cX7_count 93 = .ok (.getfield 58, 3) := by decide +kernel
theorem dX7_count_96 : decode cX7_count 96 = .ok (.getfield 249, 3) := by decide +kernel
theorem dX7_count_99 : decode cX7_count 99 = .ok (.ireturn, 1) := by decide +kernel
theorem dX7_count_100 : decode cX7_count 100 = .ok (.iconst (-1), 1) := by decide +kernel
theorem dX7_count_101 : decode cX7_count 101 = .ok (.ireturn, 1) := by decide +kernel
theorem dX7_openFor_0 : decode cX7_openFor 0 = .ok (.aload_n 0, 1) := by decide +kernel
theorem dX7_openFor_1 : decode cX7_openFor 1 = .ok (.getfield 28, 3) := by decide +kernel
theorem dX7_openFor_4 : decode cX7_openFor 4 = .ok (.aload_n 0, 1) := by decide +kernel
theorem dX7_openFor_5 : decode cX7_openFor 5 = .ok (.getfield 14, 3) := by decide +kernel
theorem dX7_openFor_8 : decode cX7_openFor 8 = .ok (.getfield 77, 3) := by decide +kernel
theorem dX7_openFor_11 : decode cX7_openFor 11 = .ok (.aload_n 0, 1) := by decide +kernel
theorem dX7_openFor_12 : decode cX7_openFor 12 = .ok (.getfield 14, 3) := by decide +kernel
theorem dX7_openFor_15 : decode cX7_openFor 15 = .ok (.getfield 79, 3) := by decide +kernel
theorem dX7_openFor_18 : decode cX7_openFor 18 = .ok (.aload_n 0, 1) := by decide +kernel
theorem dX7_openFor_19 : decode cX7_openFor 19 = .ok (.getfield 14, 3) := by decide +kernel
theorem dX7_openFor_22 : decode cX7_openFor 22 = .ok (.iload_n 1, 1) := by decide +kernel
theorem dX7_openFor_23 : decode cX7_openFor 23 = .ok (.invokevirtual 118, 3) := by decide +kernel
theorem dX7_openFor_26 : decode cX7_openFor 26 = .ok (.aload_n 0, 1) := by decide +kernel
theorem dX7_openFor_27 : decode cX7_openFor 27 = .ok (.getfield 14, 3) := by decide +kernel
theorem dX7_openFor_30 : decode cX7_openFor 30 = .ok (.iload_n 1, 1) := by decide +kernel
theorem dX7_openFor_31 : decode cX7_openFor 31 = .ok (.invokevirtual 121, 3) := by decide +kernel
theorem dX7_openFor_34 : decode cX7_openFor 34 = .ok (.aload_n 0, 1) := by decide +kernel
theorem dX7_openFor_35 : decode cX7_openFor 35 = .ok (.getfield 14, 3) := by decide +kernel
theorem dX7_openFor_38 : decode cX7_openFor 38 = .ok (.getfield 82, 3) := by decide +kernel
theorem dX7_openFor_41 : decode cX7_openFor 41 = .ok (.invokevirtual 73, 3) := by decide +kernel
theorem dX7_openFor_44 : decode cX7_openFor 44 = .ok (.pop, 1) := by decide +kernel
theorem dX7_openFor_45 : decode cX7_openFor 45 = .ok (.aload_n 0, 1) := by decide +kernel
theorem dX7_openFor_46 : decode cX7_openFor 46 = .ok (.getfield 35, 3) := by decide +kernel
theorem dX7_openFor_49 : decode cX7_openFor 49 = .ok (.aload_n 0, 1) := by decide +kernel
theorem dX7_openFor_50 : decode cX7_openFor 50 = .ok (.getfield 14, 3) := by decide +kernel
theorem dX7_openFor_53 : decode cX7_openFor 53 = .ok (.aload_n 0, 1) := by decide +kernel
theorem dX7_openFor_54 : decode cX7_openFor 54 = .ok (.getfield 28, 3) := by decide +kernel
theorem dX7_openFor_57 : decode cX7_openFor 57 = .ok (.iload_n 1, 1) := by decide +kernel
theorem dX7_openFor_58 : decode cX7_openFor 58 = .ok (.invokevirtual 265, 3) := by decide +kernel
theorem dX7_openFor_61 : decode cX7_openFor 61 = .ok (.return_, 1) := by decide +kernel
theorem dX8_init_0 : decode cX8_init 0 = .ok (.aload_n 0, 1) := by decide +kernel
theorem dX8_init_1 : decode cX8_init 1 = .ok (.invokespecial 3, 3) := by decide +kernel
theorem dX8_init_4 : decode cX8_init 4 = .ok (.aload_n 0, 1) := by decide +kernel
theorem dX8_init_5 : decode cX8_init 5 = .ok (.sipush 916, 3) := by decide +kernel
theorem dX8_init_8 : decode cX8_init 8 = .ok (.newarray .int, 2) := by decide +kernel
theorem dX8_init_10 : decode cX8_init 10 = .ok (.putfield 9, 3) := by decide +kernel
theorem dX8_init_13 : decode cX8_init 13 = .ok (.aload_n 0, 1) := by decide +kernel
theorem dX8_init_14 : decode cX8_init 14 = .ok (.sipush 916, 3) := by decide +kernel
theorem dX8_init_17 : decode cX8_init 17 = .ok (.newarray .int, 2) := by decide +kernel
theorem dX8_init_19 : decode cX8_init 19 = .ok (.putfield 15, 3) := by decide +kernel
theorem dX8_init_22 : decode cX8_init 22 = .ok (.aload_n 0, 1) := by decide +kernel
theorem dX8_init_23 : decode cX8_init 23 = .ok (.iconst 4, 1) := by decide +kernel
theorem dX8_init_24 : decode cX8_init 24 = .ok (.newarray .int, 2) := by decide +kernel
theorem dX8_init_26 : decode cX8_init 26 = .ok (.putfield 18, 3) := by decide +kernel
theorem dX8_init_29 : decode cX8_init 29 = .ok (.aload_n 0, 1) := by decide +kernel
theorem dX8_init_30 : decode cX8_init 30 = .ok (.bipush 64, 2) := by decide +kernel
theorem dX8_init_32 : decode cX8_init 32 = .ok (.newarray .boolean, 2) := by decide +kernel
theorem dX8_init_34 : decode cX8_init 34 = .ok (.putfield 21, 3) := by decide +kernel
theorem dX8_init_37 : decode cX8_init 37 = .ok (.aload_n 0, 1) := by decide +kernel
theorem dX8_init_38 : decode cX8_init 38 = .ok (.sipush 256, 3) := by decide +kernel
theorem dX8_init_41 : decode cX8_init 41 = .ok (.newarray .int, 2) := by decide +kernel
theorem dX8_init_43 : decode cX8_init 43 = .ok (.putfield 25, 3) := by decide +kernel
theorem dX8_init_46 : decode cX8_init 46 = .ok (.aload_n 0, 1) := by decide +kernel
theorem dX8_init_47 : decode cX8_init 47 = .ok (.sipush 256, 3) := by decide +kernel
theorem dX8_init_50 : decode cX8_init 50 = .ok (.newarray .int, 2) := by decide +kernel
theorem dX8_init_52 : decode cX8_init 52 = .ok (.putfield 28, 3) := by decide +kernel
theorem dX8_init_55 : decode cX8_init 55 = .ok (.aload_n 0, 1) := by decide +kernel
theorem dX8_init_56 : decode cX8_init 56 = .ok (.bipush 100, 2) := by decide +kernel
theorem dX8_init_58 : decode cX8_init 58 = .ok (.newarray .int, 2) := by decide +kernel
theorem dX8_init_60 : decode cX8_init 60 = .ok (.putfield 31, 3) := by decide +kernel
theorem dX8_init_63 : decode cX8_init 63 = .ok (.aload_n 0, 1) := by decide +kernel
theorem dX8_init_64 : decode cX8_init 64 = .ok (.bipush 100, 2) := by decide +kernel
theorem dX8_init_66 : decode cX8_init 66 = .ok (.newarray .boolean, 2) := by decide +kernel
theorem dX8_init_68 : decode cX8_init 68 = .ok (.putfield 34, 3) := by decide +kernel
theorem dX8_init_71 : decode cX8_init 71 = .ok (.aload_n 0, 1) := by decide +kernel
theorem dX8_init_72 : decode cX8_init 72 = .ok (.bipush 6, 2) := by decide +kernel
theorem dX8_init_74 : decode cX8_init 74 = .ok (.newarray .int, 2) := by decide +kernel
theorem dX8_init_76 : decode cX8_init 76 = .ok (.putfield 37, 3) := by decide +kernel
theorem dX8_init_79 : decode cX8_init 79 = .ok (.aload_n 0, 1) := by decide +kernel
theorem dX8_init_80 : decode cX8_init 80 = .ok (.bipush 6, 2) := by decide +kernel
theorem dX8_init_82 : decode cX8_init 82 = .ok (.newarray .int, 2) := by decide +kernel
theorem dX8_init_84 : decode cX8_init 84 = .ok (.putfield 40, 3) := by decide +kernel
theorem dX8_init_87 : decode cX8_init 87 = .ok (.aload_n 0, 1) := by decide +kernel
theorem dX8_init_88 : decode cX8_init 88 = .ok (.iconst 2, 1) := by decide +kernel
theorem dX8_init_89 : decode cX8_init 89 = .ok (.newarray .int, 2) := by decide +kernel
theorem dX8_init_91 : decode cX8_init 91 = .ok (.putfield 43, 3) := by decide +kernel
theorem dX8_init_94 : decode cX8_init 94 = .ok (.aload_n 0, 1) := by decide +kernel
theorem dX8_init_95 : decode cX8_init 95 = .ok (.bipush 20, 2) := by decide +kernel
theorem dX8_init_97 : decode cX8_init 97 = .ok (.newarray .int, 2) := by decide +kernel
theorem dX8_init_99 : decode cX8_init 99 = .ok (.putfield 46, 3) := by decide +kernel
theorem dX8_init_102 : decode cX8_init 102 = .ok (.aload_n 0, 1) := by decide +kernel
theorem dX8_init_103 : decode cX8_init 103 = .ok (.getfield 9, 3) := by decide +kernel
theorem dX8_init_106 : decode cX8_init 106 = .ok (.bipush 6, 2) := by decide +kernel
theorem dX8_init_108 : decode cX8_init 108 = .ok (.iconst (-1), 1) := by decide +kernel
theorem dX8_init_109 : decode cX8_init 109 = .ok (.iastore, 1) := by decide +kernel
theorem dX8_init_110 : decode cX8_init 110 = .ok (.return_, 1) := by decide +kernel
theorem dX8_in_0 : decode cX8_in 0 = .ok (.iload_n 0, 1) := by decide +kernel
theorem dX8_in_1 : decode cX8_in 1 = .ok (.iload_n 1, 1) := by decide +kernel
theorem dX8_in_2 : decode cX8_in 2 = .ok (.if_icmp .lt 12, 3) := by decide +kernel
theorem dX8_in_5 : decode cX8_in 5 = .ok (.iload_n 0, 1) := by decide +kernel
theorem dX8_in_6 : decode cX8_in 6 = .ok (.iload_n 2, 1) := by decide +kernel
theorem dX8_in_7 : decode cX8_in 7 = .ok (.if_icmp .gt 7, 3) := by decide +kernel
theorem dX8_in_10 : decode cX8_in 10 = .ok (.iconst 1, 1) := by decide +kernel
theorem dX8_in_11 : decode cX8_in 11 = .ok (.goto 4, 3) := by decide +kernel
theorem dX8_in_14 : decode cX8_in 14 = .ok (.iconst 0, 1) := by decide +kernel
theorem dX8_in_15 : decode cX8_in 15 = .ok (.ireturn, 1) := by decide +kernel
theorem dX8_isSuit_0 : decode cX8_isSuit 0 = .ok (.iload_n 1, 1) := by decide +kernel
theorem dX8_isSuit_1 : decode cX8_isSuit 1 = .ok (.iconst 0, 1) := by decide +kernel
theorem dX8_isSuit_2 : decode cX8_isSuit 2 = .ok (.aload_n 0, 1) := by decide +kernel
theorem dX8_isSuit_3 : decode cX8_isSuit 3 = .ok (.getfield 9, 3) := by decide +kernel
theorem dX8_isSuit_6 : decode cX8_isSuit 6 = .ok (.iconst 0, 1) := by decide +kernel
theorem dX8_isSuit_7 : decode cX8_isSuit 7 = .ok (.iaload, 1) := by decide +kernel
theorem dX8_isSuit_8 : decode cX8_isSuit 8 = .ok (.iconst 1, 1) := by decide +kernel
theorem dX8_isSuit_9 : decode cX8_isSuit 9 = .ok (.isub, 1) := by decide +kernel
theorem dX8_isSuit_10 : decode cX8_isSuit 10 = .ok (.invokestatic 53, 3) := by decide +kernel
theorem dX8_isSuit_13 : decode cX8_isSuit 13 = .ok (.ireturn, 1) := by decide +kernel
theorem dX8_isJudge_0 : decode cX8_isJudge 0 = .ok (.iload_n 1, 1) := by decide +kernel
theorem dX8_isJudge_1 : decode cX8_isJudge 1 = .ok (.iconst 0, 1) := by decide +kernel
theorem dX8_isJudge_2 : decode cX8_isJudge 2 = .ok (.aload_n 0, 1) := by decide +kernel
theorem dX8_isJudge_3 : decode cX8_isJudge 3 = .ok (.getfield 9, 3) := by decide +kernel
theorem dX8_isJudge_6 : decode cX8_isJudge 6 = .ok (.iconst 1, 1) := by decide +kernel
theorem dX8_isJudge_7 : decode cX8_isJudge 7 = .ok (.iaload, 1) := by decide +kernel
theorem dX8_isJudge_8 : decode cX8_isJudge 8 = .ok (.iconst 1, 1) := by decide +kernel
theorem dX8_isJudge_9 : decode cX8_isJudge 9 = .ok (.isub, 1) := by decide +kernel
theorem dX8_isJudge_10 : decode cX8_isJudge 10 = .ok (.invokestatic 53, 3) := by decide +kernel
theorem dX8_isJudge_13 : decode cX8_isJudge 13 = .ok (.ireturn, 1) := by decide +kernel
theorem dX8_count1_0 : decode cX8_count1 0 = .ok (.iconst 0, 1) := by decide +kernel
theorem dX8_count1_1 : decode cX8_count1 1 = .ok (.istore_n 1, 1) := by decide +kernel
theorem dX8_count1_2 : decode cX8_count1 2 = .ok (.iconst 0, 1) := by decide +kernel
theorem dX8_count1_3 : decode cX8_count1 3 = .ok (.istore_n 2, 1) := by decide +kernel
theorem dX8_count1_4 : decode cX8_count1 4 = .ok (.iload_n 2, 1) := by decide +kernel
theorem dX8_count1_5 : decode cX8_count1 5 = .ok (.bipush 8, 2) := by decide +kernel
theorem dX8_count1_7 : decode cX8_count1 7 = .ok (.if_icmp .ge 17, 3) := by decide +kernel
theorem dX8_count1_10 : decode cX8_count1 10 = .ok (.iload_n 1, 1) := by decide +kernel
theorem dX8_count1_11 : decode cX8_count1 11 = .ok (.iload_n 0, 1) := by decide +kernel
theorem dX8_count1_12 : decode cX8_count1 12 = .ok (.iload_n 2, 1) := by decide +kernel
theorem dX8_count1_13 : decode cX8_count1 13 = .ok (.ishr, 1) := by decide +kernel
theorem dX8_count1_14 : decode cX8_count1 14 = .ok (.iconst 1, 1) := by decide +kernel
theorem dX8_count1_15 : decode cX8_count1 15 = .ok (.iand, 1) := by decide +kernel
theorem dX8_count1_16 : decode cX8_count1 16 = .ok (.iadd, 1) := by decide +kernel
theorem dX8_count1_17 : decode cX8_count1 17 = .ok (.istore_n 1, 1) := by decide +kernel
theorem dX8_count1_18 : decode cX8_count1 18 = .ok (.iinc 2 1, 3) := by decide +kernel
theorem dX8_count1_21 : decode cX8_count1 21 = .ok (.goto (-17), 3) := by decide +kernel
theorem dX8_count1_24 : decode cX8_count1 24 = .ok (.iload_n 1, 1) := by decide +kernel
theorem dX8_count1_25 : decode cX8_count1 25 = .ok (.ireturn, 1) := by decide +kernel
theorem dX8_feed_0 : decode cX8_feed 0 = .ok (.iload_n 1, 1) := by decide +kernel
theorem dX8_feed_1 : decode cX8_feed 1 = .ok (.iconst 0, 1) := by decide +kernel
theorem dX8_feed_2 : decode cX8_feed 2 = .ok (.bipush 127, 2) := by decide +kernel
theorem dX8_feed_4 : decode cX8_feed 4 = .ok (.invokestatic 53, 3) := by decide +kernel
theorem dX8_feed_7 : decode cX8_feed 7 = .ok (.ifCond .ne 6, 3) := by decide +kernel
theorem dX8_feed_10 : decode cX8_feed 10 = .ok (.bipush (-2), 2) := by decide +kernel
theorem dX8_feed_12 : decode cX8_feed 12 = .ok (.ireturn, 1) := by decide +kernel
theorem dX8_feed_13 : decode cX8_feed 13 = .ok (.aload_n 0, 1) := by decide +kernel
theorem dX8_feed_14 : decode cX8_feed 14 = .ok (.getfield 9, 3) := by decide +kernel
theorem dX8_feed_17 : decode cX8_feed 17 = .ok (.iconst 5, 1) := by decide +kernel
theorem dX8_feed_18 : decode cX8_feed 18 = .ok (.iaload, 1) := by decide +kernel
theorem dX8_feed_19 : decode cX8_feed 19 = .ok (.bipush 100, 2) := by decide +kernel
theorem dX8_feed_21 : decode cX8_feed 21 = .ok (.if_icmp .ne 6, 3) := by decide +kernel
theorem dX8_feed_24 : decode cX8_feed 24 = .ok (.bipush (-4), 2) := by decide +kernel
theorem dX8_feed_26 : decode cX8_feed 26 = .ok (.ireturn, 1) := by decide +kernel
theorem dX8_feed_27 : decode cX8_feed 27 = .ok (.aload_n 0, 1) := by decide +kernel
theorem dX8_feed_28 : decode cX8_feed 28 = .ok (.getfield 9, 3) := by decide +kernel
theorem dX8_feed_31 : decode cX8_feed 31 = .ok (.bipush 106, 2) := by decide +kernel
theorem dX8_feed_33 : decode cX8_feed 33 = .ok (.aload_n 0, 1) := by decide +kernel
theorem dX8_feed_34 : decode cX8_feed 34 = .ok (.getfield 9, 3) := by decide +kernel
theorem dX8_feed_37 : decode cX8_feed 37 = .ok (.iconst 5, 1) := by decide +kernel
theorem dX8_feed_38 : decode cX8_feed 38 = .ok (.iaload, 1) := by decide +kernel
theorem dX8_feed_39 : decode cX8_feed 39 = .ok (.iadd, 1) := by decide +kernel
theorem dX8_feed_40 : decode cX8_feed 40 = .ok (.iload_n 1, 1) := by decide +kernel
theorem dX8_feed_41 : decode cX8_feed 41 = .ok (.iastore, 1) := by decide +kernel
theorem dX8_feed_42 : decode cX8_feed 42 = .ok (.aload_n 0, 1) := by decide +kernel
theorem dX8_feed_43 : decode cX8_feed 43 = .ok (.getfield 9, 3) := by decide +kernel
theorem dX8_feed_46 : decode cX8_feed 46 = .ok (.iconst 5, 1) := by decide +kernel
theorem dX8_feed_47 : decode cX8_feed 47 = .ok (.dup2, 1) := by decide +kernel
theorem dX8_feed_48 : decode cX8_feed 48 = .ok (.iaload, 1) := by decide +kernel
theorem dX8_feed_49 : decode cX8_feed 49 = .ok (.iconst 1, 1) := by decide +kernel
theorem dX8_feed_50 : decode cX8_feed 50 = .ok (.iadd, 1) := by decide +kernel
theorem dX8_feed_51 : decode cX8_feed 51 = .ok (.iastore, 1) := by decide +kernel
theorem dX8_feed_52 : decode cX8_feed 52 = .ok (.aload_n 0, 1) := by decide +kernel
theorem dX8_feed_53 : decode cX8_feed 53 = .ok (.getfield 9, 3) := by decide +kernel
theorem dX8_feed_56 : decode cX8_feed 56 = .ok (.iconst 5, 1) := by decide +kernel
theorem dX8_feed_57 : decode cX8_feed 57 = .ok (.iaload, 1) := by decide +kernel
theorem dX8_feed_58 : decode cX8_feed 58 = .ok (.ireturn, 1) := by decide +kernel
theorem dX8_here_0 : decode cX8_here 0 = .ok (.aload_n 0, 1) := by decide +kernel
theorem dX8_here_1 : decode cX8_here 1 = .ok (.getfield 57, 3) := by decide +kernel
theorem dX8_here_4 : decode cX8_here 4 = .ok (.aload_n 0, 1) := by decide +kernel
theorem dX8_here_5 : decode cX8_here 5 = .ok (.getfield 60, 3) := by decide +kernel
theorem dX8_here_8 : decode cX8_here 8 = .ok (.if_icmp .ge 18, 3) := by decide +kernel
theorem dX8_here_11 : decode cX8_here 11 = .ok (.aload_n 0, 1) := by decide +kernel
theorem dX8_here_12 : decode cX8_here 12 = .ok (.getfield 9, 3) := by decide +kernel
theorem dX8_here_15 : decode cX8_here 15 = .ok (.bipush 106, 2) := by decide +kernel
theorem dX8_here_17 : decode cX8_here 17 = .ok (.aload_n 0, 1) := by decide +kernel
theorem dX8_here_18 : decode cX8_here 18 = .ok (.getfield 57, 3) := by decide +kernel
theorem dX8_here_21 : decode cX8_here 21 = .ok (.iadd, 1) := by decide +kernel
theorem dX8_here_22 : decode cX8_here 22 = .ok (.iaload, 1) := by decide +kernel
theorem dX8_here_23 : decode cX8_here 23 = .ok (.goto 4, 3) := by decide +kernel
theorem dX8_here_26 : decode cX8_here 26 = .ok (.iconst (-1), 1) := by decide +kernel
theorem dX8_here_27 : decode cX8_here 27 = .ok (.ireturn, 1) := by decide +kernel
theorem dX8_must_0 : decode cX8_must 0 = .ok (.aload_n 0, 1) := by decide +kernel
theorem dX8_must_1 : decode cX8_must 1 = .ok (.aload_n 0, 1) := by decide +kernel
theorem dX8_must_2 : decode cX8_must 2 = .ok (.getfield 63, 3) := by decide +kernel
theorem dX8_must_5 : decode cX8_must 5 = .ok (.ifCond .ne 11, 3) := by decide +kernel
theorem dX8_must_8 : decode cX8_must 8 = .ok (.aload_n 0, 1) := by decide +kernel
theorem dX8_must_9 : decode cX8_must 9 = .ok (.invokevirtual 67, 3) := by decide +kernel
theorem dX8_must_12 : decode cX8_must 12 = .ok (.iload_n 1, 1) := by decide +kernel
theorem dX8_must_13 : decode cX8_must 13 = .ok (.if_icmp .eq 7, 3) := by decide +kernel
theorem dX8_must_16 : decode cX8_must 16 = .ok (.iconst 1, 1) := by decide +kernel
theorem dX8_must_17 : decode cX8_must 17 = .ok (.goto 4, 3) := by decide +kernel
theorem dX8_must_20 : decode cX8_must 20 = .ok (.iconst 0, 1) := by decide +kernel
theorem dX8_must_21 : decode cX8_must 21 = .ok (.putfield 63, 3) := by decide +kernel
theorem dX8_must_24 : decode cX8_must 24 = .ok (.aload_n 0, 1) := by decide +kernel
theorem dX8_must_25 : decode cX8_must 25 = .ok (.dup, 1) := by decide +kernel
theorem dX8_must_26 : decode cX8_must 26 = .ok (.getfield 57, 3) := by decide +kernel
theorem dX8_must_29 : decode cX8_must 29 = .ok (.aload_n 0, 1) := by decide +kernel
theorem dX8_must_30 : decode cX8_must 30 = .ok (.getfield 63, 3) := by decide +kernel
theorem dX8_must_33 : decode cX8_must 33 = .ok (.ifCond .eq 7, 3) := by decide +kernel
theorem dX8_must_36 : decode cX8_must 36 = .ok (.iconst 0, 1) := by decide +kernel
theorem dX8_must_37 : decode cX8_must 37 = .ok (.goto 4, 3) := by decide +kernel
theorem dX8_must_40 : decode cX8_must 40 = .ok (.iconst 1, 1) := by decide +kernel
theorem dX8_must_41 : decode cX8_must 41 = .ok (.iadd, 1) := by decide +kernel
theorem dX8_must_42 : decode cX8_must 42 = .ok (.putfield 57, 3) := by decide +kernel
theorem dX8_must_45 : decode cX8_must 45 = .ok (.return_, 1) := by decide +kernel
theorem dX8_spells_0 : decode cX8_spells 0 = .ok (.iconst 0, 1) := by decide +kernel
theorem dX8_spells_1 : decode cX8_spells 1 = .ok (.istore_n 2, 1) := by decide +kernel
theorem dX8_spells_2 : decode cX8_spells 2 = .ok (.iload_n 2, 1) := by decide +kernel
theorem dX8_spells_3 : decode cX8_spells 3 = .ok (.aload_n 1, 1) := by decide +kernel
theorem dX8_spells_4 : decode cX8_spells 4 = .ok (.invokevirtual 71, 3) := by decide +kernel
theorem dX8_spells_7 : decode cX8_spells 7 = .ok (.if_icmp .ge 18, 3) := by decide +kernel
theorem dX8_spells_10 : decode cX8_spells 10 = .ok (.aload_n 0, 1) := by decide +kernel
theorem dX8_spells_11 : decode cX8_spells 11 = .ok (.aload_n 1, 1) := by decide +kernel
theorem dX8_spells_12 : decode cX8_spells 12 = .ok (.iload_n 2, 1) := by decide +kernel
theorem dX8_spells_13 : decode cX8_spells 13 = .ok (.invokevirtual 76, 3) := by decide +kernel
theorem dX8_spells_16 : decode cX8_spells 16 = .ok (.invokevirtual 80, 3) := by decide +kernel
theorem dX8_spells_19 : decode cX8_spells 19 = .ok (.iinc 2 1, 3) := by decide +kernel
theorem dX8_spells_22 : decode cX8_spells 22 = .ok (.goto (-20), 3) := by decide +kernel
theorem dX8_spells_25 : decode cX8_spells 25 = .ok (.return_, 1) := by decide +kernel
theorem dX8_figures_0 : decode cX8_figures 0 = .ok (.aload_n 0, 1) := by decide +kernel
theorem dX8_figures_1 : decode cX8_figures 1 = .ok (.aload_n 0, 1) := by decide +kernel
theorem dX8_figures_2 : decode cX8_figures 2 = .ok (.getfield 63, 3) := by decide +kernel
theorem dX8_figures_5 : decode cX8_figures 5 = .ok (.ifCond .ne 17, 3) := by decide +kernel
theorem dX8_figures_8 : decode cX8_figures 8 = .ok (.aload_n 0, 1) := by decide +kernel
theorem dX8_figures_9 : decode cX8_figures 9 = .ok (.invokevirtual 67, 3) := by decide +kernel
theorem dX8_figures_12 : decode cX8_figures 12 = .ok (.bipush 48, 2) := by decide +kernel
theorem dX8_figures_14 : decode cX8_figures 14 = .ok (.bipush 57, 2) := by decide +kernel
theorem dX8_figures_16 : decode cX8_figures 16 = .ok (.invokestatic 53, 3) := by decide +kernel
theorem dX8_figures_19 : decode cX8_figures 19 = .ok (.ifCond .ne 7, 3) := by decide +kernel
theorem dX8_figures_22 : decode cX8_figures 22 = .ok (.iconst 1, 1) := by decide +kernel
theorem dX8_figures_23 : decode cX8_figures 23 = .ok (.goto 4, 3) := by decide +kernel
theorem dX8_figures_26 : decode cX8_figures 26 = .ok (.iconst 0, 1) := by decide +kernel
theorem dX8_figures_27 : decode cX8_figures 27 = .ok (.putfield 63, 3) := by decide +kernel
theorem dX8_figures_30 : decode cX8_figures 30 = .ok (.iconst 0, 1) := by decide +kernel
theorem dX8_figures_31 : decode cX8_figures 31 = .ok (.istore_n 1, 1) := by decide +kernel
theorem dX8_figures_32 : decode cX8_figures 32 = .ok (.iconst 0, 1) := by decide +kernel
theorem dX8_figures_33 : decode cX8_figures 33 = .ok (.istore_n 2, 1) := by decide +kernel
theorem dX8_figures_34 : decode cX8_figures 34 = .ok (.iload_n 2, 1) := by decide +kernel
theorem dX8_figures_35 : decode cX8_figures 35 = .ok (.iconst 2, 1) := by decide +kernel
theorem dX8_figures_36 : decode cX8_figures 36 = .ok (.if_icmp .ge 61, 3) := by decide +kernel
theorem dX8_figures_39 : decode cX8_figures 39 = .ok (.aload_n 0, 1) := by decide +kernel
theorem dX8_figures_40 : decode cX8_figures 40 = .ok (.getfield 63, 3) := by decide +kernel
theorem dX8_figures_43 : decode cX8_figures 43 = .ok (.ifCond .ne 54, 3) := by decide +kernel
theorem dX8_figures_46 : decode cX8_figures 46 = .ok (.aload_n 0, 1) := by decide +kernel
theorem dX8_figures_47 : decode cX8_figures 47 = .ok (.invokevirtual 67, 3) := by decide +kernel
theorem dX8_figures_50 : decode cX8_figures 50 = .ok (.bipush 48, 2) := by decide +kernel
theorem dX8_figures_52 : decode cX8_figures 52 = .ok (.bipush 57, 2) := by decide +kernel
theorem dX8_figures_54 : decode cX8_figures 54 = .ok (.invokestatic 53, 3) := by decide +kernel
theorem dX8_figures_57 : decode cX8_figures 57 = .ok (.ifCond .eq 40, 3) := by decide +kernel
theorem dX8_figures_60 : decode cX8_figures 60 = .ok (.iload_n 2, 1) := by decide +kernel
theorem dX8_figures_61 : decode cX8_figures 61 = .ok (.ifCond .eq 7, 3) := by decide +kernel
theorem dX8_figures_64 : decode cX8_figures 64 = .ok (.iload_n 1, 1) := by decide +kernel
theorem dX8_figures_65 : decode cX8_figures 65 = .ok (.ifCond .le 32, 3) := by decide +kernel
theorem dX8_figures_68 : decode cX8_figures 68 = .ok (.bipush 10, 2) := by decide +kernel
theorem dX8_figures_70 : decode cX8_figures 70 = .ok (.iload_n 1, 1) := by decide +kernel
theorem dX8_figures_71 : decode cX8_figures 71 = .ok (.imul, 1) := by decide +kernel
theorem dX8_figures_72 : decode cX8_figures 72 = .ok (.aload_n 0, 1) := by decide +kernel
theorem dX8_figures_73 : decode cX8_figures 73 = .ok (.invokevirtual 67, 3) := by decide +kernel
theorem dX8_figures_76 : decode cX8_figures 76 = .ok (.iadd, 1) := by decide +kernel
theorem dX8_figures_77 : decode cX8_figures 77 = .ok (.bipush 48, 2) := by decide +kernel
theorem dX8_figures_79 : decode cX8_figures 79 = .ok (.isub, 1) := by decide +kernel
theorem dX8_figures_80 : decode cX8_figures 80 = .ok (.istore_n 1, 1) := by decide +kernel
theorem dX8_figures_81 : decode cX8_figures 81 = .ok (.aload_n 0, 1) := by decide +kernel
theorem dX8_figures_82 : decode cX8_figures 82 = .ok (.dup, 1) := by decide +kernel
theorem dX8_figures_83 : decode cX8_figures 83 = .ok (.getfield 57, 3) := by decide +kernel
theorem dX8_figures_86 : decode cX8_figures 86 = .ok (.iconst 1, 1) := by decide +kernel
theorem dX8_figures_87 : decode cX8_figures 87 = .ok (.iadd, 1) := by decide +kernel
theorem dX8_figures_88 : decode cX8_figures 88 = .ok (.putfield 57, 3) := by decide +kernel
theorem dX8_figures_91 : decode cX8_figures 91 = .ok (.iinc 2 1, 3) := by decide +kernel
theorem dX8_figures_94 : decode cX8_figures 94 = .ok (.goto (-60), 3) := by decide +kernel
theorem dX8_figures_97 : decode cX8_figures 97 = .ok (.iload_n 1, 1) := by decide +kernel
theorem dX8_figures_98 : decode cX8_figures 98 = .ok (.ireturn, 1) := by decide +kernel
theorem dX8_among_0 : decode cX8_among 0 = .ok (.iconst 0, 1) := by decide +kernel
theorem dX8_among_1 : decode cX8_among 1 = .ok (.istore_n 2, 1) := by decide +kernel
theorem dX8_among_2 : decode cX8_among 2 = .ok (.iload_n 2, 1) := by decide +kernel
theorem dX8_among_3 : decode cX8_among 3 = .ok (.aload_n 1, 1) := by decide +kernel
theorem dX8_among_4 : decode cX8_among 4 = .ok (.invokevirtual 71, 3) := by decide +kernel
theorem dX8_among_7 : decode cX8_among 7 = .ok (.if_icmp .ge 33, 3) := by decide +kernel
theorem dX8_among_10 : decode cX8_among 10 = .ok (.aload_n 0, 1) := by decide +kernel
theorem dX8_among_11 : decode cX8_among 11 = .ok (.invokevirtual 67, 3) := by decide +kernel
theorem dX8_among_14 : decode cX8_among 14 = .ok (.aload_n 1, 1) := by decide +kernel
theorem dX8_among_15 : decode cX8_among 15 = .ok (.iload_n 2, 1) := by decide +kernel
theorem dX8_among_16 : decode cX8_among 16 = .ok (.invokevirtual 76, 3) := by decide +kernel
theorem dX8_among_19 : decode cX8_among 19 = .ok (.if_icmp .ne 15, 3) := by decide +kernel
theorem dX8_among_22 : decode cX8_among 22 = .ok (.aload_n 0, 1) := by decide +kernel
theorem dX8_among_23 : decode cX8_among 23 = .ok (.dup, 1) := by decide +kernel
theorem dX8_among_24 : decode cX8_among 24 = .ok (.getfield 57, 3) := by decide +kernel
theorem dX8_among_27 : decode cX8_among 27 = .ok (.iconst 1, 1) := by decide +kernel
theorem dX8_among_28 : decode cX8_among 28 = .ok (.iadd, 1) := by decide +kernel
theorem dX8_among_29 : decode cX8_among 29 = .ok (.putfield 57, 3) := by decide +kernel
theorem dX8_among_32 : decode cX8_among 32 = .ok (.iload_n 2, 1) := by decide +kernel
theorem dX8_among_33 : decode cX8_among 33 = .ok (.ireturn, 1) := by decide +kernel
theorem dX8_among_34 : decode cX8_among 34 = .ok (.iinc 2 1, 3) := by decide +kernel
theorem dX8_among_37 : decode cX8_among 37 = .ok (.goto (-35), 3) := by decide +kernel
theorem dX8_among_40 : decode cX8_among 40 = .ok (.iconst (-1), 1) := by decide +kernel
theorem dX8_among_41 : decode cX8_among 41 = .ok (.ireturn, 1) := by decide +kernel
theorem dX8_emits_0 : decode cX8_emits 0 = .ok (.aload_n 0, 1) := by decide +kernel
theorem dX8_emits_1 : decode cX8_emits 1 = .ok (.getfield 63, 3) := by decide +kernel
theorem dX8_emits_4 : decode cX8_emits 4 = .ok (.ifCond .ne 52, 3) := by decide +kernel
theorem dX8_emits_7 : decode cX8_emits 7 = .ok (.aload_n 0, 1) := by decide +kernel
theorem dX8_emits_8 : decode cX8_emits 8 = .ok (.getfield 9, 3) := by decide +kernel
theorem dX8_emits_11 : decode cX8_emits 11 = .ok (.sipush 216, 3) := by decide +kernel
theorem dX8_emits_14 : decode cX8_emits 14 = .ok (.sipush 140, 3) := by decide +kernel
theorem dX8_emits_17 : decode cX8_emits 17 = .ok (.aload_n 0, 1) := by decide +kernel
theorem dX8_emits_18 : decode cX8_emits 18 = .ok (.getfield 84, 3) := by decide +kernel
theorem dX8_emits_21 : decode cX8_emits 21 = .ok (.imul, 1) := by decide +kernel
theorem dX8_emits_22 : decode cX8_emits 22 = .ok (.iadd, 1) := by decide +kernel
theorem dX8_emits_23 : decode cX8_emits 23 = .ok (.aload_n 0, 1) := by decide +kernel
theorem dX8_emits_24 : decode cX8_emits 24 = .ok (.getfield 9, 3) := by decide +kernel
theorem dX8_emits_27 : decode cX8_emits 27 = .ok (.sipush 211, 3) := by decide +kernel
theorem dX8_emits_30 : decode cX8_emits 30 = .ok (.aload_n 0, 1) := by decide +kernel
theorem dX8_emits_31 : decode cX8_emits 31 = .ok (.getfield 84, 3) := by decide +kernel
theorem dX8_emits_34 : decode cX8_emits 34 = .ok (.iadd, 1) := by decide +kernel
theorem dX8_emits_35 : decode cX8_emits 35 = .ok (.iaload, 1) := by decide +kernel
theorem dX8_emits_36 : decode cX8_emits 36 = .ok (.iadd, 1) := by decide +kernel
theorem dX8_emits_37 : decode cX8_emits 37 = .ok (.iload_n 1, 1) := by decide +kernel
theorem dX8_emits_38 : decode cX8_emits 38 = .ok (.iastore, 1) := by decide +kernel
theorem dX8_emits_39 : decode cX8_emits 39 = .ok (.aload_n 0, 1) := by decide +kernel
theorem dX8_emits_40 : decode cX8_emits 40 = .ok (.getfield 9, 3) := by decide +kernel
theorem dX8_emits_43 : decode cX8_emits 43 = .ok (.sipush 211, 3) := by decide +kernel
theorem dX8_emits_46 : decode cX8_emits 46 = .ok (.aload_n 0, 1) := by decide +kernel
theorem dX8_emits_47 : decode cX8_emits 47 = .ok (.getfield 84, 3) := by decide +kernel
theorem dX8_emits_50 : decode cX8_emits 50 = .ok (.iadd, 1) := by decide +kernel
theorem dX8_emits_51 : decode cX8_emits 51 = .ok (.dup2, 1) := by decide +kernel
theorem dX8_emits_52 : decode cX8_emits 52 = .ok (.iaload, 1) := by decide +kernel
theorem dX8_emits_53 : decode cX8_emits 53 = .ok (.iconst 1, 1) := by decide +kernel
theorem dX8_emits_54 : decode cX8_emits 54 = .ok (.iadd, 1) := by decide +kernel
theorem dX8_emits_55 : decode cX8_emits 55 = .ok (.iastore, 1) := by decide +kernel
theorem dX8_emits_56 : decode cX8_emits 56 = .ok (.return_, 1) := by decide +kernel
theorem dX8_factor_0 : decode cX8_factor 0 = .ok (.aload_n 0, 1) := by decide +kernel
theorem dX8_factor_1 : decode cX8_factor 1 = .ok (.getfield 63, 3) := by decide +kernel
theorem dX8_factor_4 : decode cX8_factor 4 = .ok (.ifCond .eq 4, 3) := by decide +kernel
theorem dX8_factor_7 : decode cX8_factor 7 = .ok (.return_, 1) := by decide +kernel
theorem dX8_factor_8 : decode cX8_factor 8 = .ok (.aload_n 0, 1) := by decide +kernel
theorem dX8_factor_9 : decode cX8_factor 9 = .ok (.invokevirtual 67, 3) := by decide +kernel
theorem dX8_factor_12 : decode cX8_factor 12 = .ok (.istore_n 1, 1) := by decide +kernel
theorem dX8_factor_13 : decode cX8_factor 13 = .ok (.iload_n 1, 1) := by decide +kernel
theorem dX8_factor_14 : decode cX8_factor 14 = .ok (.bipush 33, 2) := by decide +kernel
theorem dX8_factor_16 : decode cX8_factor 16 = .ok (.if_icmp .eq 9, 3) := by decide +kernel
theorem dX8_factor_19 : decode cX8_factor 19 = .ok (.iload_n 1, 1) := by decide +kernel
theorem dX8_factor_20 : decode cX8_factor 20 = .ok (.bipush 40, 2) := by decide +kernel
theorem dX8_factor_22 : decode cX8_factor 22 = .ok (.if_icmp .ne 90, 3) := by decide +kernel
theorem dX8_factor_25 : decode cX8_factor 25 = .ok (.aload_n 0, 1) := by decide +kernel
theorem dX8_factor_26 : decode cX8_factor 26 = .ok (.aload_n 0, 1) := by decide +kernel
theorem dX8_factor_27 : decode cX8_factor 27 = .ok (.getfield 87, 3) := by decide +kernel
theorem dX8_factor_30 : decode cX8_factor 30 = .ok (.iconst 5, 1) := by decide +kernel
theorem dX8_factor_31 : decode cX8_factor 31 = .ok (.if_icmp .ne 7, 3) := by decide +kernel
theorem dX8_factor_34 : decode cX8_factor 34 = .ok (.iconst 1, 1) := by decide +kernel
theorem dX8_factor_35 : decode cX8_factor 35 = .ok (.goto 4, 3) := by decide +kernel
theorem dX8_factor_38 : decode cX8_factor 38 = .ok (.iconst 0, 1) := by decide +kernel
theorem dX8_factor_39 : decode cX8_factor 39 = .ok (.putfield 63, 3) := by decide +kernel
theorem dX8_factor_42 : decode cX8_factor 42 = .ok (.aload_n 0, 1) := by decide +kernel
theorem dX8_factor_43 : decode cX8_factor 43 = .ok (.dup, 1) := by decide +kernel
theorem dX8_factor_44 : decode cX8_factor 44 = .ok (.getfield 87, 3) := by decide +kernel
theorem dX8_factor_47 : decode cX8_factor 47 = .ok (.iconst 1, 1) := by decide +kernel
theorem dX8_factor_48 : decode cX8_factor 48 = .ok (.iadd, 1) := by decide +kernel
theorem dX8_factor_49 : decode cX8_factor 49 = .ok (.putfield 87, 3) := by decide +kernel
theorem dX8_factor_52 : decode cX8_factor 52 = .ok (.aload_n 0, 1) := by decide +kernel
theorem dX8_factor_53 : decode cX8_factor 53 = .ok (.dup, 1) := by decide +kernel
theorem dX8_factor_54 : decode cX8_factor 54 = .ok (.getfield 57, 3) := by decide +kernel
theorem dX8_factor_57 : decode cX8_factor 57 = .ok (.aload_n 0, 1) := by decide +kernel
theorem dX8_factor_58 : decode cX8_factor 58 = .ok (.getfield 63, 3) := by decide +kernel
theorem dX8_factor_61 : decode cX8_factor 61 = .ok (.ifCond .eq 7, 3) := by decide +kernel
theorem dX8_factor_64 : decode cX8_factor 64 = .ok (.iconst 0, 1) := by decide +kernel
theorem dX8_factor_65 : decode cX8_factor 65 = .ok (.goto 4, 3) := by decide +kernel
theorem dX8_factor_68 : decode cX8_factor 68 = .ok (.iconst 1, 1) := by decide +kernel
theorem dX8_factor_69 : decode cX8_factor 69 = .ok (.iadd, 1) := by decide +kernel
theorem dX8_factor_70 : decode cX8_factor 70 = .ok (.putfield 57, 3) := by decide +kernel
theorem dX8_factor_73 : decode cX8_factor 73 = .ok (.iload_n 1, 1) := by decide +kernel
theorem dX8_factor_74 : decode cX8_factor 74 = .ok (.bipush 33, 2) := by decide +kernel
theorem dX8_factor_76 : decode cX8_factor 76 = .ok (.if_icmp .ne 15, 3) := by decide +kernel
theorem dX8_factor_79 : decode cX8_factor 79 = .ok (.aload_n 0, 1) := by decide +kernel
theorem dX8_factor_80 : decode cX8_factor 80 = .ok (.invokevirtual 90, 3) := by decide +kernel
theorem dX8_factor_83 : decode cX8_factor 83 = .ok (.aload_n 0, 1) := by decide +kernel
theorem dX8_factor_84 : decode cX8_factor 84 = .ok (.iconst (-1), 1) := by decide +kernel
theorem dX8_factor_85 : decode cX8_factor 85 = .ok (.invokevirtual 93, 3) := by decide +kernel
theorem dX8_factor_88 : decode cX8_factor 88 = .ok (.goto 13, 3) := by decide +kernel
theorem dX8_factor_91 : decode cX8_factor 91 = .ok (.aload_n 0, 1) := by decide +kernel
theorem dX8_factor_92 : decode cX8_factor 92 = .ok (.invokevirtual 96, 3) := by decide +kernel
theorem dX8_factor_95 : decode cX8_factor 95 = .ok (.aload_n 0, 1) := by decide +kernel
theorem dX8_factor_96 : decode cX8_factor 96 = .ok (.bipush 41, 2) := by decide +kernel
theorem dX8_factor_98 : decode cX8_factor 98 = .ok (.invokevirtual 80, 3) := by decide +kernel
theorem dX8_factor_101 : decode cX8_factor 101 = .ok (.aload_n 0, 1) := by decide +kernel
theorem dX8_factor_102 : decode cX8_factor 102 = .ok (.dup, 1) := by decide +kernel
theorem dX8_factor_103 : decode cX8_factor 103 = .ok (.getfield 87, 3) := by decide +kernel
theorem dX8_factor_106 : decode cX8_factor 106 = .ok (.iconst 1, 1) := by decide +kernel
theorem dX8_factor_107 : decode cX8_factor 107 = .ok (.isub, 1) := by decide +kernel
theorem dX8_factor_108 : decode cX8_factor 108 = .ok (.putfield 87, 3) := by decide +kernel
theorem dX8_factor_111 : decode cX8_factor 111 = .ok (.return_, 1) := by decide +kernel
theorem dX8_factor_112 : decode cX8_factor 112 = .ok (.aload_n 0, 1) := by decide +kernel
theorem dX8_factor_113 : decode cX8_factor 113 = .ok (.ldc 99, 2) := by decide +kernel
theorem dX8_factor_115 : decode cX8_factor 115 = .ok (.invokevirtual 101, 3) := by decide +kernel
theorem dX8_factor_118 : decode cX8_factor 118 = .ok (.istore_n 2, 1) := by decide +kernel
theorem dX8_factor_119 : decode cX8_factor 119 = .ok (.aload_n 0, 1) := by decide +kernel
theorem dX8_factor_120 : decode cX8_factor 120 = .ok (.iload_n 2, 1) := by decide +kernel
theorem dX8_factor_121 : decode cX8_factor 121 = .ok (.iconst (-1), 1) := by decide +kernel
theorem dX8_factor_122 : decode cX8_factor 122 = .ok (.if_icmp .ne 7, 3) := by decide +kernel
theorem dX8_factor_125 : decode cX8_factor 125 = .ok (.iconst 1, 1) := by decide +kernel
theorem dX8_factor_126 : decode cX8_factor 126 = .ok (.goto 4, 3) := by decide +kernel
theorem dX8_factor_129 : decode cX8_factor 129 = .ok (.iconst 0, 1) := by decide +kernel
theorem dX8_factor_130 : decode cX8_factor 130 = .ok (.putfield 63, 3) := by decide +kernel
theorem dX8_factor_133 : decode cX8_factor 133 = .ok (.aload_n 0, 1) := by decide +kernel
theorem dX8_factor_134 : decode cX8_factor 134 = .ok (.getfield 63, 3) := by decide +kernel
theorem dX8_factor_137 : decode cX8_factor 137 = .ok (.ifCond .eq 7, 3) := by decide +kernel
theorem dX8_factor_140 : decode cX8_factor 140 = .ok (.iconst 0, 1) := by decide +kernel
theorem dX8_factor_141 : decode cX8_factor 141 = .ok (.goto 9, 3) := by decide +kernel
theorem dX8_factor_144 : decode cX8_factor 144 = .ok (.aload_n 0, 1) := by decide +kernel
theorem dX8_factor_145 : decode cX8_factor 145 = .ok (.ldc 105, 2) := by decide +kernel
theorem dX8_factor_147 : decode cX8_factor 147 = .ok (.invokevirtual 101, 3) := by decide +kernel
theorem dX8_factor_150 : decode cX8_factor 150 = .ok (.istore_n 3, 1) := by decide +kernel
theorem dX8_factor_151 : decode cX8_factor 151 = .ok (.aload_n 0, 1) := by decide +kernel
theorem dX8_factor_152 : decode cX8_factor 152 = .ok (.aload_n 0, 1) := by decide +kernel
theorem dX8_factor_153 : decode cX8_factor 153 = .ok (.getfield 63, 3) := by decide +kernel
theorem dX8_factor_156 : decode cX8_factor 156 = .ok (.ifCond .ne 8, 3) := by decide +kernel
theorem dX8_factor_159 : decode cX8_factor 159 = .ok (.iload_n 3, 1) := by decide +kernel
theorem dX8_factor_160 : decode cX8_factor 160 = .ok (.iconst (-1), 1) := by decide +kernel
theorem dX8_factor_161 : decode cX8_factor 161 = .ok (.if_icmp .ne 7, 3) := by decide +kernel
theorem dX8_factor_164 : decode cX8_factor 164 = .ok (.iconst 1, 1) := by decide +kernel
theorem dX8_factor_165 : decode cX8_factor 165 = .ok (.goto 4, 3) := by decide +kernel
theorem dX8_factor_168 : decode cX8_factor 168 = .ok (.iconst 0, 1) := by decide +kernel
theorem dX8_factor_169 : decode cX8_factor 169 = .ok (.putfield 63, 3) := by decide +kernel
theorem dX8_factor_172 : decode cX8_factor 172 = .ok (.aload_n 0, 1) := by decide +kernel
theorem dX8_factor_173 : decode cX8_factor 173 = .ok (.invokevirtual 107, 3) := by decide +kernel
theorem dX8_factor_176 : decode cX8_factor 176 = .ok (.istore 4, 2) := by decide +kernel
theorem dX8_factor_178 : decode cX8_factor 178 = .ok (.aload_n 0, 1) := by decide +kernel
theorem dX8_factor_179 : decode cX8_factor 179 = .ok (.iload_n 2, 1) := by decide +kernel
theorem dX8_factor_180 : decode cX8_factor 180 = .ok (.bipush 8, 2) := by decide +kernel
theorem dX8_factor_182 : decode cX8_factor 182 = .ok (.iload_n 3, 1) := by decide +kernel
theorem dX8_factor_183 : decode cX8_factor 183 = .ok (.imul, 1) := by decide +kernel
theorem dX8_factor_184 : decode cX8_factor 184 = .ok (.iadd, 1) := by decide +kernel
theorem dX8_factor_185 : decode cX8_factor 185 = .ok (.bipush 32, 2) := by decide +kernel
theorem dX8_factor_187 : decode cX8_factor 187 = .ok (.iload 4, 2) := by decide +kernel
theorem dX8_factor_189 : decode cX8_factor 189 = .ok (.imul, 1) := by decide +kernel
theorem dX8_factor_190 : decode cX8_factor 190 = .ok (.iadd, 1) := by decide +kernel
theorem dX8_factor_191 : decode cX8_factor 191 = .ok (.invokevirtual 93, 3) := by decide +kernel
theorem dX8_factor_194 : decode cX8_factor 194 = .ok (.return_, 1) := by decide +kernel
theorem dX8_every_0 : decode cX8_every 0 = .ok (.aload_n 0, 1) := by decide +kernel
theorem dX8_every_1 : decode cX8_every 1 = .ok (.invokevirtual 90, 3) := by decide +kernel
theorem dX8_every_4 : decode cX8_every 4 = .ok (.aload_n 0, 1) := by decide +kernel
theorem dX8_every_5 : decode cX8_every 5 = .ok (.getfield 63, 3) := by decide +kernel
theorem dX8_every_8 : decode cX8_every 8 = .ok (.ifCond .ne 35, 3) := by decide +kernel
theorem dX8_every_11 : decode cX8_every 11 = .ok (.aload_n 0, 1) := by decide +kernel
theorem dX8_every_12 : decode cX8_every 12 = .ok (.invokevirtual 67, 3) := by decide +kernel
theorem dX8_every_15 : decode cX8_every 15 = .ok (.bipush 38, 2) := by decide +kernel
theorem dX8_every_17 : decode cX8_every 17 = .ok (.if_icmp .ne 26, 3) := by decide +kernel
theorem dX8_every_20 : decode cX8_every 20 = .ok (.aload_n 0, 1) := by decide +kernel
theorem dX8_every_21 : decode cX8_every 21 = .ok (.dup, 1) := by decide +kernel
theorem dX8_every_22 : decode cX8_every 22 = .ok (.getfield 57, 3) := by decide +kernel
theorem dX8_every_25 : decode cX8_every 25 = .ok (.iconst 1, 1) := by decide +kernel
theorem dX8_every_26 : decode cX8_every 26 = .ok (.iadd, 1) := by decide +kernel
theorem dX8_every_27 : decode cX8_every 27 = .ok (.putfield 57, 3) := by decide +kernel
theorem dX8_every_30 : decode cX8_every 30 = .ok (.aload_n 0, 1) := by decide +kernel
theorem dX8_every_31 : decode cX8_every 31 = .ok (.invokevirtual 90, 3) := by decide +kernel
theorem dX8_every_34 : decode cX8_every 34 = .ok (.aload_n 0, 1) := by decide +kernel
theorem dX8_every_35 : decode cX8_every 35 = .ok (.bipush (-2), 2) := by decide +kernel
theorem dX8_every_37 : decode cX8_every 37 = .ok (.invokevirtual 93, 3) := by decide +kernel
theorem dX8_every_40 : decode cX8_every 40 = .ok (.goto (-36), 3) := by decide +kernel
theorem dX8_every_43 : decode cX8_every 43 = .ok (.return_, 1) := by decide +kernel
theorem dX8_some_0 : decode cX8_some 0 = .ok (.aload_n 0, 1) := by decide +kernel
theorem dX8_some_1 : decode cX8_some 1 = .ok (.invokevirtual 110, 3) := by decide +kernel
theorem dX8_some_4 : decode cX8_some 4 = .ok (.aload_n 0, 1) := by decide +kernel
theorem dX8_some_5 : decode cX8_some 5 = .ok (.getfield 63, 3) := by decide +kernel
theorem dX8_some_8 : decode cX8_some 8 = .ok (.ifCond .ne 35, 3) := by decide +kernel
theorem dX8_some_11 : decode cX8_some 11 = .ok (.aload_n 0, 1) := by decide +kernel
theorem dX8_some_12 : decode cX8_some 12 = .ok (.invokevirtual 67, 3) := by decide +kernel
theorem dX8_some_15 : decode cX8_some 15 = .ok (.bipush 124, 2) := by decide +kernel
theorem dX8_some_17 : decode cX8_some 17 = .ok (.if_icmp .ne 26, 3) := by decide +kernel
theorem dX8_some_20 : decode cX8_some 20 = .ok (.aload_n 0, 1) := by decide +kernel
theorem dX8_some_21 : decode cX8_some 21 = .ok (.dup, 1) := by decide +kernel
theorem dX8_some_22 : decode cX8_some 22 = .ok (.getfield 57, 3) := by decide +kernel
theorem dX8_some_25 : decode cX8_some 25 = .ok (.iconst 1, 1) := by decide +kernel
theorem dX8_some_26 : decode cX8_some 26 = .ok (.iadd, 1) := by decide +kernel
theorem dX8_some_27 : decode cX8_some 27 = .ok (.putfield 57, 3) := by decide +kernel
theorem dX8_some_30 : decode cX8_some 30 = .ok (.aload_n 0, 1) := by decide +kernel
theorem dX8_some_31 : decode cX8_some 31 = .ok (.invokevirtual 110, 3) := by decide +kernel
theorem dX8_some_34 : decode cX8_some 34 = .ok (.aload_n 0, 1) := by decide +kernel
theorem dX8_some_35 : decode cX8_some 35 = .ok (.bipush (-3), 2) := by decide +kernel
theorem dX8_some_37 : decode cX8_some 37 = .ok (.invokevirtual 93, 3) := by decide +kernel
theorem dX8_some_40 : decode cX8_some 40 = .ok (.goto (-36), 3) := by decide +kernel
theorem dX8_some_43 : decode cX8_some 43 = .ok (.return_, 1) := by decide +kernel
theorem dX8_much_0 : decode cX8_much 0 = .ok (.aload_n 0, 1) := by decide +kernel
theorem dX8_much_1 : decode cX8_much 1 = .ok (.aload_n 2, 1) := by decide +kernel
theorem dX8_much_2 : decode cX8_much 2 = .ok (.invokevirtual 113, 3) := by decide +kernel
theorem dX8_much_5 : decode cX8_much 5 = .ok (.aload_n 0, 1) := by decide +kernel
theorem dX8_much_6 : decode cX8_much 6 = .ok (.invokevirtual 107, 3) := by decide +kernel
theorem dX8_much_9 : decode cX8_much 9 = .ok (.istore_n 3, 1) := by decide +kernel
theorem dX8_much_10 : decode cX8_much 10 = .ok (.aload_n 0, 1) := by decide +kernel
theorem dX8_much_11 : decode cX8_much 11 = .ok (.bipush 32, 2) := by decide +kernel
theorem dX8_much_13 : decode cX8_much 13 = .ok (.invokevirtual 80, 3) := by decide +kernel
theorem dX8_much_16 : decode cX8_much 16 = .ok (.aload_n 0, 1) := by decide +kernel
theorem dX8_much_17 : decode cX8_much 17 = .ok (.invokevirtual 96, 3) := by decide +kernel
theorem dX8_much_20 : decode cX8_much 20 = .ok (.aload_n 0, 1) := by decide +kernel
theorem dX8_much_21 : decode cX8_much 21 = .ok (.iload_n 1, 1) := by decide +kernel
theorem dX8_much_22 : decode cX8_much 22 = .ok (.iload_n 3, 1) := by decide +kernel
theorem dX8_much_23 : decode cX8_much 23 = .ok (.isub, 1) := by decide +kernel
theorem dX8_much_24 : decode cX8_much 24 = .ok (.invokevirtual 93, 3) := by decide +kernel
theorem dX8_much_27 : decode cX8_much 27 = .ok (.return_, 1) := by decide +kernel
theorem dX8_clauseHere_0 : decode cX8_clauseHere 0 = .ok (.aload_n 0, 1) := by decide +kernel
theorem dX8_clauseHere_1 : decode cX8_clauseHere 1 = .ok (.invokevirtual 67, 3) := by decide +kernel
theorem dX8_clauseHere_4 : decode cX8_clauseHere 4 = .ok (.lookupswitch 94 #[(98, 59), (99, 47), (119, 36)], 36) := by decide +kernel
theorem dX8_clauseHere_40 : decode cX8_clauseHere 40 = .ok (.aload_n 0, 1) := by decide +kernel
theorem dX8_clauseHere_41 : decode cX8_clauseHere 41 = .ok (.bipush (-10), 2) := by decide +kernel
theorem dX8_clauseHere_43 : decode cX8_clauseHere 43 = .ok (.ldc 117, 2) := by decide +kernel
theorem dX8_clauseHere_45 : decode cX8_clauseHere 45 = .ok (.invokevirtual 119, 3) := by decide +kernel
theorem dX8_clauseHere_48 : decode cX8_clauseHere 48 = .ok (.goto 55, 3) := by decide +kernel
theorem dX8_clauseHere_51 : decode cX8_clauseHere 51 = .ok (.aload_n 0, 1) := by decide +kernel
theorem dX8_clauseHere_52 : decode cX8_clauseHere 52 = .ok (.sipush (-200), 3) := by decide +kernel
theorem dX8_clauseHere_55 : decode cX8_clauseHere 55 = .ok (.ldc 123, 2) := by decide +kernel
theorem dX8_clauseHere_57 : decode cX8_clauseHere 57 = .ok (.invokevirtual 119, 3) := by decide +kernel
theorem dX8_clauseHere_60 : decode cX8_clauseHere 60 = .ok (.goto 43, 3) := by decide +kernel
theorem dX8_clauseHere_63 : decode cX8_clauseHere 63 = .ok (.aload_n 0, 1) := by decide +kernel
theorem dX8_clauseHere_64 : decode cX8_clauseHere 64 = .ok (.ldc 125, 2) := by decide +kernel
theorem dX8_clauseHere_66 : decode cX8_clauseHere 66 = .ok (.invokevirtual 113, 3) := by decide +kernel
theorem dX8_clauseHere_69 : decode cX8_clauseHere 69 = .ok (.aload_n 0, 1) := by decide +kernel
theorem dX8_clauseHere_70 : decode cX8_clauseHere 70 = .ok (.invokevirtual 107, 3) := by decide +kernel
theorem dX8_clauseHere_73 : decode cX8_clauseHere 73 = .ok (.istore_n 1, 1) := by decide +kernel
theorem dX8_clauseHere_74 : decode cX8_clauseHere 74 = .ok (.aload_n 0, 1) := by decide +kernel
theorem dX8_clauseHere_75 : decode cX8_clauseHere 75 = .ok (.getfield 63, 3) := by decide +kernel
theorem dX8_clauseHere_78 : decode cX8_clauseHere 78 = .ok (.ifCond .ne 25, 3) := by decide +kernel
theorem dX8_clauseHere_81 : decode cX8_clauseHere 81 = .ok (.aload_n 0, 1) := by decide +kernel
theorem dX8_clauseHere_82 : decode cX8_clauseHere 82 = .ok (.getfield 9, 3) := by decide +kernel
theorem dX8_clauseHere_85 : decode cX8_clauseHere 85 = .ok (.sipush 206, 3) := by decide +kernel
theorem dX8_clauseHere_88 : decode cX8_clauseHere 88 = .ok (.aload_n 0, 1) := by decide +kernel
theorem dX8_clauseHere_89 : decode cX8_clauseHere 89 = .ok (.getfield 84, 3) := by decide +kernel
theorem dX8_clauseHere_92 : decode cX8_clauseHere 92 = .ok (.iadd, 1) := by decide +kernel
theorem dX8_clauseHere_93 : decode cX8_clauseHere 93 = .ok (.iload_n 1, 1) := by decide +kernel
theorem dX8_clauseHere_94 : decode cX8_clauseHere 94 = .ok (.iastore, 1) := by decide +kernel
theorem dX8_clauseHere_95 : decode cX8_clauseHere 95 = .ok (.goto 8, 3) := by decide +kernel
theorem dX8_clauseHere_98 : decode cX8_clauseHere 98 = .ok (.aload_n 0, 1) := by decide +kernel
theorem dX8_clauseHere_99 : decode cX8_clauseHere 99 = .ok (.iconst 1, 1) := by decide +kernel
theorem dX8_clauseHere_100 : decode cX8_clauseHere 100 = .ok (.putfield 63, 3) := by decide +kernel
theorem dX8_clauseHere_103 : decode cX8_clauseHere 103 = .ok (.return_, 1) := by decide +kernel
theorem dX8_court_0 : decode cX8_court 0 = .ok (.aload_n 0, 1) := by decide +kernel
theorem dX8_court_1 : decode cX8_court 1 = .ok (.getfield 9, 3) := by decide +kernel
theorem dX8_court_4 : decode cX8_court 4 = .ok (.iconst 2, 1) := by decide +kernel
theorem dX8_court_5 : decode cX8_court 5 = .ok (.iaload, 1) := by decide +kernel
theorem dX8_court_6 : decode cX8_court 6 = .ok (.iconst 5, 1) := by decide +kernel
theorem dX8_court_7 : decode cX8_court 7 = .ok (.if_icmp .ne 6, 3) := by decide +kernel
theorem dX8_court_10 : decode cX8_court 10 = .ok (.bipush (-4), 2) := by decide +kernel
theorem dX8_court_12 : decode cX8_court 12 = .ok (.ireturn, 1) := by decide +kernel
theorem dX8_court_13 : decode cX8_court 13 = .ok (.aload_n 0, 1) := by decide +kernel
theorem dX8_court_14 : decode cX8_court 14 = .ok (.aload_n 0, 1) := by decide +kernel
theorem dX8_court_15 : decode cX8_court 15 = .ok (.getfield 9, 3) := by decide +kernel
theorem dX8_court_18 : decode cX8_court 18 = .ok (.iconst 2, 1) := by decide +kernel
theorem dX8_court_19 : decode cX8_court 19 = .ok (.iaload, 1) := by decide +kernel
theorem dX8_court_20 : decode cX8_court 20 = .ok (.putfield 84, 3) := by decide +kernel
theorem dX8_court_23 : decode cX8_court 23 = .ok (.aload_n 0, 1) := by decide +kernel
theorem dX8_court_24 : decode cX8_court 24 = .ok (.aload_n 0, 1) := by decide +kernel
theorem dX8_court_25 : decode cX8_court 25 = .ok (.getfield 9, 3) := by decide +kernel
theorem dX8_court_28 : decode cX8_court 28 = .ok (.iconst 5, 1) := by decide +kernel
theorem dX8_court_29 : decode cX8_court 29 = .ok (.iaload, 1) := by decide +kernel
theorem dX8_court_30 : decode cX8_court 30 = .ok (.putfield 60, 3) := by decide +kernel
theorem dX8_court_33 : decode cX8_court 33 = .ok (.aload_n 0, 1) := by decide +kernel
theorem dX8_court_34 : decode cX8_court 34 = .ok (.getfield 9, 3) := by decide +kernel
theorem dX8_court_37 : decode cX8_court 37 = .ok (.iconst 5, 1) := by decide +kernel
theorem dX8_court_38 : decode cX8_court 38 = .ok (.iconst 0, 1) := by decide +kernel
theorem dX8_court_39 : decode cX8_court 39 = .ok (.iastore, 1) := by decide +kernel
theorem dX8_court_40 : decode cX8_court 40 = .ok (.aload_n 0, 1) := by decide +kernel
theorem dX8_court_41 : decode cX8_court 41 = .ok (.getfield 9, 3) := by decide +kernel
theorem dX8_court_44 : decode cX8_court 44 = .ok (.sipush 206, 3) := by decide +kernel
theorem dX8_court_47 : decode cX8_court 47 = .ok (.aload_n 0, 1) := by decide +kernel
theorem dX8_court_48 : decode cX8_court 48 = .ok (.getfield 84, 3) := by decide +kernel
theorem dX8_court_51 : decode cX8_court 51 = .ok (.iadd, 1) := by decide +kernel
theorem dX8_court_52 : decode cX8_court 52 = .ok (.iconst 2, 1) := by decide +kernel
theorem dX8_court_53 : decode cX8_court 53 = .ok (.iastore, 1) := by decide +kernel
theorem dX8_court_54 : decode cX8_court 54 = .ok (.aload_n 0, 1) := by decide +kernel
theorem dX8_court_55 : decode cX8_court 55 = .ok (.getfield 9, 3) := by decide +kernel
theorem dX8_court_58 : decode cX8_court 58 = .ok (.sipush 211, 3) := by decide +kernel
theorem dX8_court_61 : decode cX8_court 61 = .ok (.aload_n 0, 1) := by decide +kernel
theorem dX8_court_62 : decode cX8_court 62 = .ok (.getfield 84, 3) := by decide +kernel
theorem dX8_court_65 : decode cX8_court 65 = .ok (.iadd, 1) := by decide +kernel
theorem dX8_court_66 : decode cX8_court 66 = .ok (.iconst 0, 1) := by decide +kernel
theorem dX8_court_67 : decode cX8_court 67 = .ok (.iastore, 1) := by decide +kernel
theorem dX8_court_68 : decode cX8_court 68 = .ok (.aload_n 0, 1) := by decide +kernel
theorem dX8_court_69 : decode cX8_court 69 = .ok (.iconst 0, 1) := by decide +kernel
theorem dX8_court_70 : decode cX8_court 70 = .ok (.putfield 57, 3) := by decide +kernel
theorem dX8_court_73 : decode cX8_court 73 = .ok (.aload_n 0, 1) := by decide +kernel
theorem dX8_court_74 : decode cX8_court 74 = .ok (.iconst 0, 1) := by decide +kernel
theorem dX8_court_75 : decode cX8_court 75 = .ok (.putfield 63, 3) := by decide +kernel
theorem dX8_court_78 : decode cX8_court 78 = .ok (.aload_n 0, 1) := by decide +kernel
theorem dX8_court_79 : decode cX8_court 79 = .ok (.iconst 0, 1) := by decide +kernel
theorem dX8_court_80 : decode cX8_court 80 = .ok (.putfield 87, 3) := by decide +kernel
theorem dX8_court_83 : decode cX8_court 83 = .ok (.iconst 1, 1) := by decide +kernel
theorem dX8_court_84 : decode cX8_court 84 = .ok (.istore_n 1, 1) := by decide +kernel
theorem dX8_court_85 : decode cX8_court 85 = .ok (.aload_n 0, 1) := by decide +kernel
theorem dX8_court_86 : decode cX8_court 86 = .ok (.invokevirtual 127, 3) := by decide +kernel
theorem dX8_court_89 : decode cX8_court 89 = .ok (.aload_n 0, 1) := by decide +kernel
theorem dX8_court_90 : decode cX8_court 90 = .ok (.getfield 63, 3) := by decide +kernel
theorem dX8_court_93 : decode cX8_court 93 = .ok (.ifCond .ne 38, 3) := by decide +kernel
theorem dX8_court_96 : decode cX8_court 96 = .ok (.iload_n 1, 1) := by decide +kernel
theorem dX8_court_97 : decode cX8_court 97 = .ok (.bipush 10, 2) := by decide +kernel
theorem dX8_court_99 : decode cX8_court 99 = .ok (.if_icmp .ge 32, 3) := by decide +kernel
theorem dX8_court_102 : decode cX8_court 102 = .ok (.aload_n 0, 1) := by decide +kernel
theorem dX8_court_103 : decode cX8_court 103 = .ok (.invokevirtual 67, 3) := by decide +kernel
theorem dX8_court_106 : decode cX8_court 106 = .ok (.bipush 59, 2) := by decide +kernel
theorem dX8_court_108 : decode cX8_court 108 = .ok (.if_icmp .ne 23, 3) := by decide +kernel
theorem dX8_court_111 : decode cX8_court 111 = .ok (.aload_n 0, 1) := by decide +kernel
theorem dX8_court_112 : decode cX8_court 112 = .ok (.dup, 1) := by decide +kernel
theorem dX8_court_113 : decode cX8_court 113 = .ok (.getfield 57, 3) := by decide +kernel
theorem dX8_court_116 : decode cX8_court 116 = .ok (.iconst 1, 1) := by decide +kernel
theorem dX8_court_117 : decode cX8_court 117 = .ok (.iadd, 1) := by decide +kernel
theorem dX8_court_118 : decode cX8_court 118 = .ok (.putfield 57, 3) := by decide +kernel
theorem dX8_court_121 : decode cX8_court 121 = .ok (.aload_n 0, 1) := by decide +kernel
theorem dX8_court_122 : decode cX8_court 122 = .ok (.invokevirtual 127, 3) := by decide +kernel
theorem dX8_court_125 : decode cX8_court 125 = .ok (.iinc 1 1, 3) := by decide +kernel
theorem dX8_court_128 : decode cX8_court 128 = .ok (.goto (-39), 3) := by decide +kernel
theorem dX8_court_131 : decode cX8_court 131 = .ok (.aload_n 0, 1) := by decide +kernel
theorem dX8_court_132 : decode cX8_court 132 = .ok (.getfield 63, 3) := by decide +kernel
theorem dX8_court_135 : decode cX8_court 135 = .ok (.ifCond .ne 14, 3) := by decide +kernel
theorem dX8_court_138 : decode cX8_court 138 = .ok (.aload_n 0, 1) := by decide +kernel
theorem dX8_court_139 : decode cX8_court 139 = .ok (.getfield 57, 3) := by decide +kernel
theorem dX8_court_142 : decode cX8_court 142 = .ok (.aload_n 0, 1) := by decide +kernel
theorem dX8_court_143 : decode cX8_court 143 = .ok (.getfield 60, 3) := by decide +kernel
theorem dX8_court_146 : decode cX8_court 146 = .ok (.if_icmp .eq 11, 3) := by decide +kernel
theorem dX8_court_149 : decode cX8_court 149 = .ok (.bipush (-10), 2) := by decide +kernel
theorem dX8_court_151 : decode cX8_court 151 = .ok (.aload_n 0, 1) := by decide +kernel
theorem dX8_court_152 : decode cX8_court 152 = .ok (.getfield 57, 3) := by decide +kernel
theorem dX8_court_155 : decode cX8_court 155 = .ok (.isub, 1) := by decide +kernel
theorem dX8_court_156 : decode cX8_court 156 = .ok (.ireturn, 1) := by decide +kernel
theorem dX8_court_157 : decode cX8_court 157 = .ok (.aload_n 0, 1) := by decide +kernel
theorem dX8_court_158 : decode cX8_court 158 = .ok (.getfield 9, 3) := by decide +kernel
theorem dX8_court_161 : decode cX8_court 161 = .ok (.iconst 2, 1) := by decide +kernel
theorem dX8_court_162 : decode cX8_court 162 = .ok (.dup2, 1) := by decide +kernel
theorem dX8_court_163 : decode cX8_court 163 = .ok (.iaload, 1) := by decide +kernel
theorem dX8_court_164 : decode cX8_court 164 = .ok (.iconst 1, 1) := by decide +kernel
theorem dX8_court_165 : decode cX8_court 165 = .ok (.iadd, 1) := by decide +kernel
theorem dX8_court_166 : decode cX8_court 166 = .ok (.iastore, 1) := by decide +kernel
theorem dX8_court_167 : decode cX8_court 167 = .ok (.aload_n 0, 1) := by decide +kernel
theorem dX8_court_168 : decode cX8_court 168 = .ok (.getfield 9, 3) := by decide +kernel
theorem dX8_court_171 : decode cX8_court 171 = .ok (.bipush 6, 2) := by decide +kernel
theorem dX8_court_173 : decode cX8_court 173 = .ok (.aload_n 0, 1) := by decide +kernel
theorem dX8_court_174 : decode cX8_court 174 = .ok (.getfield 84, 3) := by decide +kernel
theorem dX8_court_177 : decode cX8_court 177 = .ok (.iastore, 1) := by decide +kernel
theorem dX8_court_178 : decode cX8_court 178 = .ok (.aload_n 0, 1) := by decide +kernel
theorem dX8_court_179 : decode cX8_court 179 = .ok (.getfield 84, 3) := by decide +kernel
theorem dX8_court_182 : decode cX8_court 182 = .ok (.ireturn, 1) := by decide +kernel
theorem dX8_barNow_0 : decode cX8_barNow 0 = .ok (.aload_n 0, 1) := by decide +kernel
theorem dX8_barNow_1 : decode cX8_barNow 1 = .ok (.getfield 9, 3) := by decide +kernel
theorem dX8_barNow_4 : decode cX8_barNow 4 = .ok (.bipush 6, 2) := by decide +kernel
theorem dX8_barNow_6 : decode cX8_barNow 6 = .ok (.iaload, 1) := by decide +kernel
theorem dX8_barNow_7 : decode cX8_barNow 7 = .ok (.iconst (-1), 1) := by decide +kernel
theorem dX8_barNow_8 : decode cX8_barNow 8 = .ok (.if_icmp .ne 7, 3) := by decide +kernel
theorem dX8_barNow_11 : decode cX8_barNow 11 = .ok (.iconst 2, 1) := by decide +kernel
theorem dX8_barNow_12 : decode cX8_barNow 12 = .ok (.goto 19, 3) := by decide +kernel
theorem dX8_barNow_15 : decode cX8_barNow 15 = .ok (.aload_n 0, 1) := by decide +kernel
theorem dX8_barNow_16 : decode cX8_barNow 16 = .ok (.getfield 9, 3) := by decide +kernel
theorem dX8_barNow_19 : decode cX8_barNow 19 = .ok (.sipush 206, 3) := by decide +kernel
theorem dX8_barNow_22 : decode cX8_barNow 22 = .ok (.aload_n 0, 1) := by decide +kernel
theorem dX8_barNow_23 : decode cX8_barNow 23 = .ok (.getfield 9, 3) := by decide +kernel
theorem dX8_barNow_26 : decode cX8_barNow 26 = .ok (.bipush 6, 2) := by decide +kernel
theorem dX8_barNow_28 : decode cX8_barNow 28 = .ok (.iaload, 1) := by decide +kernel
theorem dX8_barNow_29 : decode cX8_barNow 29 = .ok (.iadd, 1) := by decide +kernel
theorem dX8_barNow_30 : decode cX8_barNow 30 = .ok (.iaload, 1) := by decide +kernel
theorem dX8_barNow_31 : decode cX8_barNow 31 = .ok (.ireturn, 1) := by decide +kernel
theorem dX8_day_0 : decode cX8_day 0 = .ok (.iload_n 1, 1) := by decide +kernel
theorem dX8_day_1 : decode cX8_day 1 = .ok (.iconst 0, 1) := by decide +kernel
theorem dX8_day_2 : decode cX8_day 2 = .ok (.bipush 9, 2) := by decide +kernel
theorem dX8_day_4 : decode cX8_day 4 = .ok (.invokestatic 53, 3) := by decide +kernel
theorem dX8_day_7 : decode cX8_day 7 = .ok (.ifCond .ne 6, 3) := by decide +kernel
theorem dX8_day_10 : decode cX8_day 10 = .ok (.bipush (-2), 2) := by decide +kernel
theorem dX8_day_12 : decode cX8_day 12 = .ok (.ireturn, 1) := by decide +kernel
theorem dX8_day_13 : decode cX8_day 13 = .ok (.aload_n 0, 1) := by decide +kernel
theorem dX8_day_14 : decode cX8_day 14 = .ok (.getfield 9, 3) := by decide +kernel
theorem dX8_day_17 : decode cX8_day 17 = .ok (.bipush 7, 2) := by decide +kernel
theorem dX8_day_19 : decode cX8_day 19 = .ok (.iaload, 1) := by decide +kernel
theorem dX8_day_20 : decode cX8_day 20 = .ok (.istore_n 2, 1) := by decide +kernel
theorem dX8_day_21 : decode cX8_day 21 = .ok (.aload_n 0, 1) := by decide +kernel
theorem dX8_day_22 : decode cX8_day 22 = .ok (.getfield 9, 3) := by decide +kernel
theorem dX8_day_25 : decode cX8_day 25 = .ok (.bipush 7, 2) := by decide +kernel
theorem dX8_day_27 : decode cX8_day 27 = .ok (.iload_n 1, 1) := by decide +kernel
theorem dX8_day_28 : decode cX8_day 28 = .ok (.iastore, 1) := by decide +kernel
theorem dX8_day_29 : decode cX8_day 29 = .ok (.iload_n 2, 1) := by decide +kernel
theorem dX8_day_30 : decode cX8_day 30 = .ok (.ireturn, 1) := by decide +kernel
theorem dX8_told_0 : decode cX8_told 0 = .ok (.iload_n 1, 1) := by decide +kernel
theorem dX8_told_1 : decode cX8_told 1 = .ok (.ifCond .ne 13, 3) := by decide +kernel
theorem dX8_told_4 : decode cX8_told 4 = .ok (.aload_n 0, 1) := by decide +kernel
theorem dX8_told_5 : decode cX8_told 5 = .ok (.getfield 9, 3) := by decide +kernel
theorem dX8_told_8 : decode cX8_told 8 = .ok (.bipush 7, 2) := by decide +kernel
theorem dX8_told_10 : decode cX8_told 10 = .ok (.iaload, 1) := by decide +kernel
theorem dX8_told_11 : decode cX8_told 11 = .ok (.goto 16, 3) := by decide +kernel
theorem dX8_told_14 : decode cX8_told 14 = .ok (.iload_n 1, 1) := by decide +kernel
theorem dX8_told_15 : decode cX8_told 15 = .ok (.iconst 1, 1) := by decide +kernel
theorem dX8_told_16 : decode cX8_told 16 = .ok (.if_icmp .ne 10, 3) := by decide +kernel
theorem dX8_told_19 : decode cX8_told 19 = .ok (.aload_n 0, 1) := by decide +kernel
theorem dX8_told_20 : decode cX8_told 20 = .ok (.invokevirtual 130, 3) := by decide +kernel
theorem dX8_told_23 : decode cX8_told 23 = .ok (.goto 4, 3) := by decide +kernel
theorem dX8_told_26 : decode cX8_told 26 = .ok (.iconst (-1), 1) := by decide +kernel
theorem dX8_told_27 : decode cX8_told 27 = .ok (.ireturn, 1) := by decide +kernel
theorem dX8_suit_0 : decode cX8_suit 0 = .ok (.iload_n 1, 1) := by decide +kernel
theorem dX8_suit_1 : decode cX8_suit 1 = .ok (.iconst 0, 1) := by decide +kernel
theorem dX8_suit_2 : decode cX8_suit 2 = .ok (.sipush 255, 3) := by decide +kernel
theorem dX8_suit_5 : decode cX8_suit 5 = .ok (.invokestatic 53, 3) := by decide +kernel
theorem dX8_suit_8 : decode cX8_suit 8 = .ok (.ifCond .eq 13, 3) := by decide +kernel
theorem dX8_suit_11 : decode cX8_suit 11 = .ok (.iload_n 2, 1) := by decide +kernel
theorem dX8_suit_12 : decode cX8_suit 12 = .ok (.iconst 0, 1) := by decide +kernel
theorem dX8_suit_13 : decode cX8_suit 13 = .ok (.bipush 99, 2) := by decide +kernel
theorem dX8_suit_15 : decode cX8_suit 15 = .ok (.invokestatic 53, 3) := by decide +kernel
theorem dX8_suit_18 : decode cX8_suit 18 = .ok (.ifCond .ne 6, 3) := by decide +kernel
theorem dX8_suit_21 : decode cX8_suit 21 = .ok (.bipush (-2), 2) := by decide +kernel
theorem dX8_suit_23 : decode cX8_suit 23 = .ok (.ireturn, 1) := by decide +kernel
theorem dX8_suit_24 : decode cX8_suit 24 = .ok (.aload_n 0, 1) := by decide +kernel
theorem dX8_suit_25 : decode cX8_suit 25 = .ok (.getfield 9, 3) := by decide +kernel
theorem dX8_suit_28 : decode cX8_suit 28 = .ok (.iconst 0, 1) := by decide +kernel
theorem dX8_suit_29 : decode cX8_suit 29 = .ok (.iaload, 1) := by decide +kernel
theorem dX8_suit_30 : decode cX8_suit 30 = .ok (.bipush 8, 2) := by decide +kernel
theorem dX8_suit_32 : decode cX8_suit 32 = .ok (.if_icmp .ne 6, 3) := by decide +kernel
theorem dX8_suit_35 : decode cX8_suit 35 = .ok (.bipush (-4), 2) := by decide +kernel
theorem dX8_suit_37 : decode cX8_suit 37 = .ok (.ireturn, 1) := by decide +kernel
theorem dX8_suit_38 : decode cX8_suit 38 = .ok (.aload_n 0, 1) := by decide +kernel
theorem dX8_suit_39 : decode cX8_suit 39 = .ok (.getfield 9, 3) := by decide +kernel
theorem dX8_suit_42 : decode cX8_suit 42 = .ok (.iconst 0, 1) := by decide +kernel
theorem dX8_suit_43 : decode cX8_suit 43 = .ok (.iaload, 1) := by decide +kernel
theorem dX8_suit_44 : decode cX8_suit 44 = .ok (.istore_n 3, 1) := by decide +kernel
theorem dX8_suit_45 : decode cX8_suit 45 = .ok (.aload_n 0, 1) := by decide +kernel
theorem dX8_suit_46 : decode cX8_suit 46 = .ok (.getfield 9, 3) := by decide +kernel
theorem dX8_suit_49 : decode cX8_suit 49 = .ok (.bipush 10, 2) := by decide +kernel
theorem dX8_suit_51 : decode cX8_suit 51 = .ok (.iload_n 3, 1) := by decide +kernel
theorem dX8_suit_52 : decode cX8_suit 52 = .ok (.iadd, 1) := by decide +kernel
theorem dX8_suit_53 : decode cX8_suit 53 = .ok (.iload_n 1, 1) := by decide +kernel
theorem dX8_suit_54 : decode cX8_suit 54 = .ok (.iastore, 1) := by decide +kernel
theorem dX8_suit_55 : decode cX8_suit 55 = .ok (.aload_n 0, 1) := by decide +kernel
theorem dX8_suit_56 : decode cX8_suit 56 = .ok (.getfield 9, 3) := by decide +kernel
theorem dX8_suit_59 : decode cX8_suit 59 = .ok (.bipush 18, 2) := by decide +kernel
theorem dX8_suit_61 : decode cX8_suit 61 = .ok (.iload_n 3, 1) := by decide +kernel
theorem dX8_suit_62 : decode cX8_suit 62 = .ok (.iadd, 1) := by decide +kernel
theorem dX8_suit_63 : decode cX8_suit 63 = .ok (.iload_n 2, 1) := by decide +kernel
theorem dX8_suit_64 : decode cX8_suit 64 = .ok (.iastore, 1) := by decide +kernel
theorem dX8_suit_65 : decode cX8_suit 65 = .ok (.aload_n 0, 1) := by decide +kernel
theorem dX8_suit_66 : decode cX8_suit 66 = .ok (.getfield 9, 3) := by decide +kernel
theorem dX8_suit_69 : decode cX8_suit 69 = .ok (.iconst 0, 1) := by decide +kernel
theorem dX8_suit_70 : decode cX8_suit 70 = .ok (.dup2, 1) := by decide +kernel
theorem dX8_suit_71 : decode cX8_suit 71 = .ok (.iaload, 1) := by decide +kernel
theorem dX8_suit_72 : decode cX8_suit 72 = .ok (.iconst 1, 1) := by decide +kernel
theorem dX8_suit_73 : decode cX8_suit 73 = .ok (.iadd, 1) := by decide +kernel
theorem dX8_suit_74 : decode cX8_suit 74 = .ok (.iastore, 1) := by decide +kernel
theorem dX8_suit_75 : decode cX8_suit 75 = .ok (.iload_n 3, 1) := by decide +kernel
theorem dX8_suit_76 : decode cX8_suit 76 = .ok (.ireturn, 1) := by decide +kernel
theorem dX8_of_0 : decode cX8_of 0 = .ok (.aload_n 0, 1) := by decide +kernel
theorem dX8_of_1 : decode cX8_of 1 = .ok (.iload_n 1, 1) := by decide +kernel
theorem dX8_of_2 : decode cX8_of 2 = .ok (.invokevirtual 133, 3) := by decide +kernel
theorem dX8_of_5 : decode cX8_of 5 = .ok (.ifCond .eq 29, 3) := by decide +kernel
theorem dX8_of_8 : decode cX8_of 8 = .ok (.iload_n 2, 1) := by decide +kernel
theorem dX8_of_9 : decode cX8_of 9 = .ok (.iconst 0, 1) := by decide +kernel
theorem dX8_of_10 : decode cX8_of 10 = .ok (.iconst 1, 1) := by decide +kernel
theorem dX8_of_11 : decode cX8_of 11 = .ok (.invokestatic 53, 3) := by decide +kernel
theorem dX8_of_14 : decode cX8_of 14 = .ok (.ifCond .eq 20, 3) := by decide +kernel
theorem dX8_of_17 : decode cX8_of 17 = .ok (.aload_n 0, 1) := by decide +kernel
theorem dX8_of_18 : decode cX8_of 18 = .ok (.getfield 9, 3) := by decide +kernel
theorem dX8_of_21 : decode cX8_of 21 = .ok (.bipush 10, 2) := by decide +kernel
theorem dX8_of_23 : decode cX8_of 23 = .ok (.bipush 8, 2) := by decide +kernel
theorem dX8_of_25 : decode cX8_of 25 = .ok (.iload_n 2, 1) := by decide +kernel
theorem dX8_of_26 : decode cX8_of 26 = .ok (.imul, 1) := by decide +kernel
theorem dX8_of_27 : decode cX8_of 27 = .ok (.iadd, 1) := by decide +kernel
theorem dX8_of_28 : decode cX8_of 28 = .ok (.iload_n 1, 1) := by decide +kernel
theorem dX8_of_29 : decode cX8_of 29 = .ok (.iadd, 1) := by decide +kernel
theorem dX8_of_30 : decode cX8_of 30 = .ok (.iaload, 1) := by decide +kernel
theorem dX8_of_31 : decode cX8_of 31 = .ok (.goto 4, 3) := by decide +kernel
theorem dX8_of_34 : decode cX8_of 34 = .ok (.iconst (-1), 1) := by decide +kernel
theorem dX8_of_35 : decode cX8_of 35 = .ok (.ireturn, 1) := by decide +kernel
theorem dX8_judge_0 : decode cX8_judge 0 = .ok (.iload_n 1, 1) := by decide +kernel
theorem dX8_judge_1 : decode cX8_judge 1 = .ok (.iconst 0, 1) := by decide +kernel
theorem dX8_judge_2 : decode cX8_judge 2 = .ok (.bipush 6, 2) := by decide +kernel
theorem dX8_judge_4 : decode cX8_judge 4 = .ok (.invokestatic 53, 3) := by decide +kernel
theorem dX8_judge_7 : decode cX8_judge 7 = .ok (.ifCond .ne 5, 3) := by decide +kernel
theorem dX8_judge_10 : decode cX8_judge 10 = .ok (.iconst (-1), 1) := by decide +kernel
theorem dX8_judge_11 : decode cX8_judge 11 = .ok (.ireturn, 1) := by decide +kernel
theorem dX8_judge_12 : decode cX8_judge 12 = .ok (.iload_n 2, 1) := by decide +kernel
theorem dX8_judge_13 : decode cX8_judge 13 = .ok (.iconst 0, 1) := by decide +kernel
theorem dX8_judge_14 : decode cX8_judge 14 = .ok (.bipush 9, 2) := by decide +kernel
theorem dX8_judge_16 : decode cX8_judge 16 = .ok (.invokestatic 53, 3) := by decide +kernel
theorem dX8_judge_19 : decode cX8_judge 19 = .ok (.ifCond .ne 6, 3) := by decide +kernel
theorem dX8_judge_22 : decode cX8_judge 22 = .ok (.bipush (-2), 2) := by decide +kernel
theorem dX8_judge_24 : decode cX8_judge 24 = .ok (.ireturn, 1) := by decide +kernel
theorem dX8_judge_25 : decode cX8_judge 25 = .ok (.aload_n 0, 1) := by decide +kernel
theorem dX8_judge_26 : decode cX8_judge 26 = .ok (.getfield 9, 3) := by decide +kernel
theorem dX8_judge_29 : decode cX8_judge 29 = .ok (.iconst 1, 1) := by decide +kernel
theorem dX8_judge_30 : decode cX8_judge 30 = .ok (.iaload, 1) := by decide +kernel
theorem dX8_judge_31 : decode cX8_judge 31 = .ok (.iconst 4, 1) := by decide +kernel
theorem dX8_judge_32 : decode cX8_judge 32 = .ok (.if_icmp .ne 6, 3) := by decide +kernel
theorem dX8_judge_35 : decode cX8_judge 35 = .ok (.bipush (-4), 2) := by decide +kernel
theorem dX8_judge_37 : decode cX8_judge 37 = .ok (.ireturn, 1) := by decide +kernel
theorem dX8_judge_38 : decode cX8_judge 38 = .ok (.aload_n 0, 1) := by decide +kernel
theorem dX8_judge_39 : decode cX8_judge 39 = .ok (.getfield 9, 3) := by decide +kernel
theorem dX8_judge_42 : decode cX8_judge 42 = .ok (.iconst 1, 1) := by decide +kernel
theorem dX8_judge_43 : decode cX8_judge 43 = .ok (.iaload, 1) := by decide +kernel
theorem dX8_judge_44 : decode cX8_judge 44 = .ok (.istore_n 3, 1) := by decide +kernel
theorem dX8_judge_45 : decode cX8_judge 45 = .ok (.aload_n 0, 1) := by decide +kernel
theorem dX8_judge_46 : decode cX8_judge 46 = .ok (.getfield 9, 3) := by decide +kernel
theorem dX8_judge_49 : decode cX8_judge 49 = .ok (.bipush 26, 2) := by decide +kernel
theorem dX8_judge_51 : decode cX8_judge 51 = .ok (.iload_n 3, 1) := by decide +kernel
theorem dX8_judge_52 : decode cX8_judge 52 = .ok (.iadd, 1) := by decide +kernel
theorem dX8_judge_53 : decode cX8_judge 53 = .ok (.iload_n 1, 1) := by decide +kernel
theorem dX8_judge_54 : decode cX8_judge 54 = .ok (.iastore, 1) := by decide +kernel
theorem dX8_judge_55 : decode cX8_judge 55 = .ok (.aload_n 0, 1) := by decide +kernel
theorem dX8_judge_56 : decode cX8_judge 56 = .ok (.getfield 9, 3) := by decide +kernel
theorem dX8_judge_59 : decode cX8_judge 59 = .ok (.bipush 30, 2) := by decide +kernel
theorem dX8_judge_61 : decode cX8_judge 61 = .ok (.iload_n 3, 1) := by decide +kernel
theorem dX8_judge_62 : decode cX8_judge 62 = .ok (.iadd, 1) := by decide +kernel
theorem dX8_judge_63 : decode cX8_judge 63 = .ok (.iload_n 2, 1) := by decide +kernel
theorem dX8_judge_64 : decode cX8_judge 64 = .ok (.iastore, 1) := by decide +kernel
theorem dX8_judge_65 : decode cX8_judge 65 = .ok (.iconst 0, 1) := by decide +kernel
theorem dX8_judge_66 : decode cX8_judge 66 = .ok (.istore 4, 2) := by decide +kernel
theorem dX8_judge_68 : decode cX8_judge 68 = .ok (.iload 4, 2) := by decide +kernel
theorem dX8_judge_70 : decode cX8_judge 70 = .ok (.iconst 4, 1) := by decide +kernel
theorem dX8_judge_71 : decode cX8_judge 71 = .ok (.if_icmp .ge 24, 3) := by decide +kernel
theorem dX8_judge_74 : decode cX8_judge 74 = .ok (.aload_n 0, 1) := by decide +kernel
theorem dX8_judge_75 : decode cX8_judge 75 = .ok (.getfield 9, 3) := by decide +kernel
theorem dX8_judge_78 : decode cX8_judge 78 = .ok (.bipush 34, 2) := by decide +kernel
theorem dX8_judge_80 : decode cX8_judge 80 = .ok (.iconst 4, 1) := by decide +kernel
theorem dX8_judge_81 : decode cX8_judge 81 = .ok (.iload_n 3, 1) := by decide +kernel
theorem dX8_judge_82 : decode cX8_judge 82 = .ok (.imul, 1) := by decide +kernel
theorem dX8_judge_83 : decode cX8_judge 83 = .ok (.iadd, 1) := by decide +kernel
theorem dX8_judge_84 : decode cX8_judge 84 = .ok (.iload 4, 2) := by decide +kernel
theorem dX8_judge_86 : decode cX8_judge 86 = .ok (.iadd, 1) := by decide +kernel
theorem dX8_judge_87 : decode cX8_judge 87 = .ok (.iconst 0, 1) := by decide +kernel
theorem dX8_judge_88 : decode cX8_judge 88 = .ok (.iastore, 1) := by decide +kernel
theorem dX8_judge_89 : decode cX8_judge 89 = .ok (.iinc 4 1, 3) := by decide +kernel
theorem dX8_judge_92 : decode cX8_judge 92 = .ok (.goto (-24), 3) := by decide +kernel
theorem dX8_judge_95 : decode cX8_judge 95 = .ok (.aload_n 0, 1) := by decide +kernel
theorem dX8_judge_96 : decode cX8_judge 96 = .ok (.getfield 9, 3) := by decide +kernel
theorem dX8_judge_99 : decode cX8_judge 99 = .ok (.iconst 1, 1) := by decide +kernel
theorem dX8_judge_100 : decode cX8_judge 100 = .ok (.dup2, 1) := by decide +kernel
theorem dX8_judge_101 : decode cX8_judge 101 = .ok (.iaload, 1) := by decide +kernel
theorem dX8_judge_102 : decode cX8_judge 102 = .ok (.iconst 1, 1) := by decide +kernel
theorem dX8_judge_103 : decode cX8_judge 103 = .ok (.iadd, 1) := by decide +kernel
theorem dX8_judge_104 : decode cX8_judge 104 = .ok (.iastore, 1) := by decide +kernel
theorem dX8_judge_105 : decode cX8_judge 105 = .ok (.iload_n 3, 1) := by decide +kernel
theorem dX8_judge_106 : decode cX8_judge 106 = .ok (.ireturn, 1) := by decide +kernel
theorem dX8_row_0 : decode cX8_row 0 = .ok (.aload_n 0, 1) := by decide +kernel
theorem dX8_row_1 : decode cX8_row 1 = .ok (.iload_n 1, 1) := by decide +kernel
theorem dX8_row_2 : decode cX8_row 2 = .ok (.invokevirtual 137, 3) := by decide +kernel
theorem dX8_row_5 : decode cX8_row 5 = .ok (.ifCond .eq 12, 3) := by decide +kernel
theorem dX8_row_8 : decode cX8_row 8 = .ok (.iload_n 2, 1) := by decide +kernel
theorem dX8_row_9 : decode cX8_row 9 = .ok (.iconst 0, 1) := by decide +kernel
theorem dX8_row_10 : decode cX8_row 10 = .ok (.iconst 3, 1) := by decide +kernel
theorem dX8_row_11 : decode cX8_row 11 = .ok (.invokestatic 53, 3) := by decide +kernel
theorem dX8_row_14 : decode cX8_row 14 = .ok (.ifCond .ne 5, 3) := by decide +kernel
theorem dX8_row_17 : decode cX8_row 17 = .ok (.iconst (-1), 1) := by decide +kernel
theorem dX8_row_18 : decode cX8_row 18 = .ok (.ireturn, 1) := by decide +kernel
theorem dX8_row_19 : decode cX8_row 19 = .ok (.iload_n 3, 1) := by decide +kernel
theorem dX8_row_20 : decode cX8_row 20 = .ok (.iconst 0, 1) := by decide +kernel
theorem dX8_row_21 : decode cX8_row 21 = .ok (.iconst 2, 1) := by decide +kernel
theorem dX8_row_22 : decode cX8_row 22 = .ok (.invokestatic 53, 3) := by decide +kernel
theorem dX8_row_25 : decode cX8_row 25 = .ok (.ifCond .ne 6, 3) := by decide +kernel
theorem dX8_row_28 : decode cX8_row 28 = .ok (.bipush (-2), 2) := by decide +kernel
theorem dX8_row_30 : decode cX8_row 30 = .ok (.ireturn, 1) := by decide +kernel
theorem dX8_row_31 : decode cX8_row 31 = .ok (.aload_n 0, 1) := by decide +kernel
theorem dX8_row_32 : decode cX8_row 32 = .ok (.getfield 9, 3) := by decide +kernel
theorem dX8_row_35 : decode cX8_row 35 = .ok (.bipush 26, 2) := by decide +kernel
theorem dX8_row_37 : decode cX8_row 37 = .ok (.iload_n 1, 1) := by decide +kernel
theorem dX8_row_38 : decode cX8_row 38 = .ok (.iadd, 1) := by decide +kernel
theorem dX8_row_39 : decode cX8_row 39 = .ok (.iaload, 1) := by decide +kernel
theorem dX8_row_40 : decode cX8_row 40 = .ok (.bipush 6, 2) := by decide +kernel
theorem dX8_row_42 : decode cX8_row 42 = .ok (.if_icmp .eq 6, 3) := by decide +kernel
theorem dX8_row_45 : decode cX8_row 45 = .ok (.bipush (-3), 2) := by decide +kernel
theorem dX8_row_47 : decode cX8_row 47 = .ok (.ireturn, 1) := by decide +kernel
theorem dX8_row_48 : decode cX8_row 48 = .ok (.aload_n 0, 1) := by decide +kernel
theorem dX8_row_49 : decode cX8_row 49 = .ok (.getfield 9, 3) := by decide +kernel
theorem dX8_row_52 : decode cX8_row 52 = .ok (.bipush 34, 2) := by decide +kernel
theorem dX8_row_54 : decode cX8_row 54 = .ok (.iconst 4, 1) := by decide +kernel
theorem dX8_row_55 : decode cX8_row 55 = .ok (.iload_n 1, 1) := by decide +kernel
theorem dX8_row_56 : decode cX8_row 56 = .ok (.imul, 1) := by decide +kernel
theorem dX8_row_57 : decode cX8_row 57 = .ok (.iadd, 1) := by decide +kernel
theorem dX8_row_58 : decode cX8_row 58 = .ok (.iload_n 2, 1) := by decide +kernel
theorem dX8_row_59 : decode cX8_row 59 = .ok (.iadd, 1) := by decide +kernel
theorem dX8_row_60 : decode cX8_row 60 = .ok (.iaload, 1) := by decide +kernel
theorem dX8_row_61 : decode cX8_row 61 = .ok (.istore 4, 2) := by decide +kernel
theorem dX8_row_63 : decode cX8_row 63 = .ok (.aload_n 0, 1) := by decide +kernel
theorem dX8_row_64 : decode cX8_row 64 = .ok (.getfield 9, 3) := by decide +kernel
theorem dX8_row_67 : decode cX8_row 67 = .ok (.bipush 34, 2) := by decide +kernel
theorem dX8_row_69 : decode cX8_row 69 = .ok (.iconst 4, 1) := by decide +kernel
theorem dX8_row_70 : decode cX8_row 70 = .ok (.iload_n 1, 1) := by decide +kernel
theorem dX8_row_71 : decode cX8_row 71 = .ok (.imul, 1) := by decide +kernel
theorem dX8_row_72 : decode cX8_row 72 = .ok (.iadd, 1) := by decide +kernel
theorem dX8_row_73 : decode cX8_row 73 = .ok (.iload_n 2, 1) := by decide +kernel
theorem dX8_row_74 : decode cX8_row 74 = .ok (.iadd, 1) := by decide +kernel
theorem dX8_row_75 : decode cX8_row 75 = .ok (.iload_n 3, 1) := by decide +kernel
theorem dX8_row_76 : decode cX8_row 76 = .ok (.iastore, 1) := by decide +kernel
theorem dX8_row_77 : decode cX8_row 77 = .ok (.iload 4, 2) := by decide +kernel
theorem dX8_row_79 : decode cX8_row 79 = .ok (.ireturn, 1) := by decide +kernel
theorem dX8_looks_0 : decode cX8_looks 0 = .ok (.aload_n 0, 1) := by decide +kernel
theorem dX8_looks_1 : decode cX8_looks 1 = .ok (.getfield 18, 3) := by decide +kernel
theorem dX8_looks_4 : decode cX8_looks 4 = .ok (.iconst 0, 1) := by decide +kernel
theorem dX8_looks_5 : decode cX8_looks 5 = .ok (.iload_n 2, 1) := by decide +kernel
theorem dX8_looks_6 : decode cX8_looks 6 = .ok (.iastore, 1) := by decide +kernel
theorem dX8_looks_7 : decode cX8_looks 7 = .ok (.aload_n 0, 1) := by decide +kernel
theorem dX8_looks_8 : decode cX8_looks 8 = .ok (.getfield 18, 3) := by decide +kernel
theorem dX8_looks_11 : decode cX8_looks 11 = .ok (.iconst 1, 1) := by decide +kernel
theorem dX8_looks_12 : decode cX8_looks 12 = .ok (.aload_n 0, 1) := by decide +kernel
theorem dX8_looks_13 : decode cX8_looks 13 = .ok (.getfield 9, 3) := by decide +kernel
theorem dX8_looks_16 : decode cX8_looks 16 = .ok (.bipush 26, 2) := by decide +kernel
theorem dX8_looks_18 : decode cX8_looks 18 = .ok (.iload_n 1, 1) := by decide +kernel
theorem dX8_looks_19 : decode cX8_looks 19 = .ok (.iadd, 1) := by decide +kernel
theorem dX8_looks_20 : decode cX8_looks 20 = .ok (.iaload, 1) := by decide +kernel
theorem dX8_looks_21 : decode cX8_looks 21 = .ok (.iastore, 1) := by decide +kernel
theorem dX8_looks_22 : decode cX8_looks 22 = .ok (.aload_n 0, 1) := by decide +kernel
theorem dX8_looks_23 : decode cX8_looks 23 = .ok (.getfield 18, 3) := by decide +kernel
theorem dX8_looks_26 : decode cX8_looks 26 = .ok (.iconst 2, 1) := by decide +kernel
theorem dX8_looks_27 : decode cX8_looks 27 = .ok (.aload_n 0, 1) := by decide +kernel
theorem dX8_looks_28 : decode cX8_looks 28 = .ok (.getfield 9, 3) := by decide +kernel
theorem dX8_looks_31 : decode cX8_looks 31 = .ok (.bipush 30, 2) := by decide +kernel
theorem dX8_looks_33 : decode cX8_looks 33 = .ok (.iload_n 1, 1) := by decide +kernel
theorem dX8_looks_34 : decode cX8_looks 34 = .ok (.iadd, 1) := by decide +kernel
theorem dX8_looks_35 : decode cX8_looks 35 = .ok (.iaload, 1) := by decide +kernel
theorem dX8_looks_36 : decode cX8_looks 36 = .ok (.iastore, 1) := by decide +kernel
theorem dX8_looks_37 : decode cX8_looks 37 = .ok (.aload_n 0, 1) := by decide +kernel
theorem dX8_looks_38 : decode cX8_looks 38 = .ok (.getfield 18, 3) := by decide +kernel
theorem dX8_looks_41 : decode cX8_looks 41 = .ok (.iconst 3, 1) := by decide +kernel
theorem dX8_looks_42 : decode cX8_looks 42 = .ok (.aload_n 0, 1) := by decide +kernel
theorem dX8_looks_43 : decode cX8_looks 43 = .ok (.getfield 9, 3) := by decide +kernel
theorem dX8_looks_46 : decode cX8_looks 46 = .ok (.bipush 7, 2) := by decide +kernel
theorem dX8_looks_48 : decode cX8_looks 48 = .ok (.iaload, 1) := by decide +kernel
theorem dX8_looks_49 : decode cX8_looks 49 = .ok (.iastore, 1) := by decide +kernel
theorem dX8_looks_50 : decode cX8_looks 50 = .ok (.aload_n 0, 1) := by decide +kernel
theorem dX8_looks_51 : decode cX8_looks 51 = .ok (.iconst 1, 1) := by decide +kernel
theorem dX8_looks_52 : decode cX8_looks 52 = .ok (.putfield 140, 3) := by decide +kernel
theorem dX8_looks_55 : decode cX8_looks 55 = .ok (.aload_n 0, 1) := by decide +kernel
theorem dX8_looks_56 : decode cX8_looks 56 = .ok (.iconst 0, 1) := by decide +kernel
theorem dX8_looks_57 : decode cX8_looks 57 = .ok (.putfield 143, 3) := by decide +kernel
theorem dX8_looks_60 : decode cX8_looks 60 = .ok (.aload_n 0, 1) := by decide +kernel
theorem dX8_looks_61 : decode cX8_looks 61 = .ok (.getfield 9, 3) := by decide +kernel
theorem dX8_looks_64 : decode cX8_looks 64 = .ok (.bipush 6, 2) := by decide +kernel
theorem dX8_looks_66 : decode cX8_looks 66 = .ok (.iaload, 1) := by decide +kernel
theorem dX8_looks_67 : decode cX8_looks 67 = .ok (.iconst (-1), 1) := by decide +kernel
theorem dX8_looks_68 : decode cX8_looks 68 = .ok (.if_icmp .ne 7, 3) := by decide +kernel
theorem dX8_looks_71 : decode cX8_looks 71 = .ok (.iconst 0, 1) := by decide +kernel
theorem dX8_looks_72 : decode cX8_looks 72 = .ok (.goto 19, 3) := by decide +kernel
theorem dX8_looks_75 : decode cX8_looks 75 = .ok (.aload_n 0, 1) := by decide +kernel
theorem dX8_looks_76 : decode cX8_looks 76 = .ok (.getfield 9, 3) := by decide +kernel
theorem dX8_looks_79 : decode cX8_looks 79 = .ok (.sipush 211, 3) := by decide +kernel
theorem dX8_looks_82 : decode cX8_looks 82 = .ok (.aload_n 0, 1) := by decide +kernel
theorem dX8_looks_83 : decode cX8_looks 83 = .ok (.getfield 9, 3) := by decide +kernel
theorem dX8_looks_86 : decode cX8_looks 86 = .ok (.bipush 6, 2) := by decide +kernel
theorem dX8_looks_88 : decode cX8_looks 88 = .ok (.iaload, 1) := by decide +kernel
theorem dX8_looks_89 : decode cX8_looks 89 = .ok (.iadd, 1) := by decide +kernel
theorem dX8_looks_90 : decode cX8_looks 90 = .ok (.iaload, 1) := by decide +kernel
theorem dX8_looks_91 : decode cX8_looks 91 = .ok (.istore_n 3, 1) := by decide +kernel
theorem dX8_looks_92 : decode cX8_looks 92 = .ok (.sipush 216, 3) := by decide +kernel
theorem dX8_looks_95 : decode cX8_looks 95 = .ok (.sipush 140, 3) := by decide +kernel
theorem dX8_looks_98 : decode cX8_looks 98 = .ok (.aload_n 0, 1) := by decide +kernel
theorem dX8_looks_99 : decode cX8_looks 99 = .ok (.getfield 9, 3) := by decide +kernel
theorem dX8_looks_102 : decode cX8_looks 102 = .ok (.bipush 6, 2) := by decide +kernel
theorem dX8_looks_104 : decode cX8_looks 104 = .ok (.iaload, 1) := by decide +kernel
theorem dX8_looks_105 : decode cX8_looks 105 = .ok (.imul, 1) := by decide +kernel
theorem dX8_looks_106 : decode cX8_looks 106 = .ok (.iadd, 1) := by decide +kernel
theorem dX8_looks_107 : decode cX8_looks 107 = .ok (.istore 4, 2) := by decide +kernel
theorem dX8_looks_109 : decode cX8_looks 109 = .ok (.iconst 0, 1) := by decide +kernel
theorem dX8_looks_110 : decode cX8_looks 110 = .ok (.istore 5, 2) := by decide +kernel
theorem dX8_looks_112 : decode cX8_looks 112 = .ok (.iload 4, 2) := by decide +kernel
theorem dX8_looks_114 : decode cX8_looks 114 = .ok (.istore 6, 2) := by decide +kernel
theorem dX8_looks_116 : decode cX8_looks 116 = .ok (.iload 6, 2) := by decide +kernel
theorem dX8_looks_118 : decode cX8_looks 118 = .ok (.iload 4, 2) := by decide +kernel
theorem dX8_looks_120 : decode cX8_looks 120 = .ok (.iload_n 3, 1) := by decide +kernel
theorem dX8_looks_121 : decode cX8_looks 121 = .ok (.iadd, 1) := by decide +kernel
theorem dX8_looks_122 : decode cX8_looks 122 = .ok (.if_icmp .ge 312, 3) := by decide +kernel
theorem dX8_looks_125 : decode cX8_looks 125 = .ok (.aload_n 0, 1) := by decide +kernel
theorem dX8_looks_126 : decode cX8_looks 126 = .ok (.getfield 9, 3) := by decide +kernel
theorem dX8_looks_129 : decode cX8_looks 129 = .ok (.iload 6, 2) := by decide +kernel
theorem dX8_looks_131 : decode cX8_looks 131 = .ok (.iaload, 1) := by decide +kernel
theorem dX8_looks_132 : decode cX8_looks 132 = .ok (.istore 7, 2) := by decide +kernel
theorem dX8_looks_134 : decode cX8_looks 134 = .ok (.iload 7, 2) := by decide +kernel
theorem dX8_looks_136 : decode cX8_looks 136 = .ok (.ifCond .lt 97, 3) := by decide +kernel
theorem dX8_looks_139 : decode cX8_looks 139 = .ok (.aload_n 0, 1) := by decide +kernel
theorem dX8_looks_140 : decode cX8_looks 140 = .ok (.getfield 18, 3) := by decide +kernel
theorem dX8_looks_143 : decode cX8_looks 143 = .ok (.iload 7, 2) := by decide +kernel
theorem dX8_looks_145 : decode cX8_looks 145 = .ok (.bipush 8, 2) := by decide +kernel
theorem dX8_looks_147 : decode cX8_looks 147 = .ok (.irem, 1) := by decide +kernel
theorem dX8_looks_148 : decode cX8_looks 148 = .ok (.iaload, 1) := by decide +kernel
theorem dX8_looks_149 : decode cX8_looks 149 = .ok (.istore 8, 2) := by decide +kernel
theorem dX8_looks_151 : decode cX8_looks 151 = .ok (.iload 7, 2) := by decide +kernel
theorem dX8_looks_153 : decode cX8_looks 153 = .ok (.bipush 8, 2) := by decide +kernel
theorem dX8_looks_155 : decode cX8_looks 155 = .ok (.idiv, 1) := by decide +kernel
theorem dX8_looks_156 : decode cX8_looks 156 = .ok (.iconst 4, 1) := by decide +kernel
theorem dX8_looks_157 : decode cX8_looks 157 = .ok (.irem, 1) := by decide +kernel
theorem dX8_looks_158 : decode cX8_looks 158 = .ok (.istore 9, 2) := by decide +kernel
theorem dX8_looks_160 : decode cX8_looks 160 = .ok (.iload 7, 2) := by decide +kernel
theorem dX8_looks_162 : decode cX8_looks 162 = .ok (.bipush 32, 2) := by decide +kernel
theorem dX8_looks_164 : decode cX8_looks 164 = .ok (.idiv, 1) := by decide +kernel
theorem dX8_looks_165 : decode cX8_looks 165 = .ok (.istore 10, 2) := by decide +kernel
theorem dX8_looks_167 : decode cX8_looks 167 = .ok (.aload_n 0, 1) := by decide +kernel
theorem dX8_looks_168 : decode cX8_looks 168 = .ok (.getfield 21, 3) := by decide +kernel
theorem dX8_looks_171 : decode cX8_looks 171 = .ok (.iload 5, 2) := by decide +kernel
theorem dX8_looks_173 : decode cX8_looks 173 = .ok (.iload 9, 2) := by decide +kernel
theorem dX8_looks_175 : decode cX8_looks 175 = .ok (.ifCond .ne 18, 3) := by decide +kernel
theorem dX8_looks_178 : decode cX8_looks 178 = .ok (.iload 8, 2) := by decide +kernel
theorem dX8_looks_180 : decode cX8_looks 180 = .ok (.iload 10, 2) := by decide +kernel
theorem dX8_looks_182 : decode cX8_looks 182 = .ok (.if_icmp .ge 7, 3) := by decide +kernel
theorem dX8_looks_185 : decode cX8_looks 185 = .ok (.iconst 1, 1) := by decide +kernel
theorem dX8_looks_186 : decode cX8_looks 186 = .ok (.goto 40, 3) := by decide +kernel
theorem dX8_looks_189 : decode cX8_looks 189 = .ok (.iconst 0, 1) := by decide +kernel
theorem dX8_looks_190 : decode cX8_looks 190 = .ok (.goto 36, 3) := by decide +kernel
theorem dX8_looks_193 : decode cX8_looks 193 = .ok (.iload 9, 2) := by decide +kernel
theorem dX8_looks_195 : decode cX8_looks 195 = .ok (.iconst 1, 1) := by decide +kernel
theorem dX8_looks_196 : decode cX8_looks 196 = .ok (.if_icmp .ne 18, 3) := by decide +kernel
theorem dX8_looks_199 : decode cX8_looks 199 = .ok (.iload 8, 2) := by decide +kernel
theorem dX8_looks_201 : decode cX8_looks 201 = .ok (.iload 10, 2) := by decide +kernel
theorem dX8_looks_203 : decode cX8_looks 203 = .ok (.if_icmp .ne 7, 3) := by decide +kernel
theorem dX8_looks_206 : decode cX8_looks 206 = .ok (.iconst 1, 1) := by decide +kernel
theorem dX8_looks_207 : decode cX8_looks 207 = .ok (.goto 19, 3) := by decide +kernel
theorem dX8_looks_210 : decode cX8_looks 210 = .ok (.iconst 0, 1) := by decide +kernel
theorem dX8_looks_211 : decode cX8_looks 211 = .ok (.goto 15, 3) := by decide +kernel
theorem dX8_looks_214 : decode cX8_looks 214 = .ok (.iload 8, 2) := by decide +kernel
theorem dX8_looks_216 : decode cX8_looks 216 = .ok (.iload 10, 2) := by decide +kernel
theorem dX8_looks_218 : decode cX8_looks 218 = .ok (.if_icmp .le 7, 3) := by decide +kernel
theorem dX8_looks_221 : decode cX8_looks 221 = .ok (.iconst 1, 1) := by decide +kernel
theorem dX8_looks_222 : decode cX8_looks 222 = .ok (.goto 4, 3) := by decide +kernel
theorem dX8_looks_225 : decode cX8_looks 225 = .ok (.iconst 0, 1) := by decide +kernel
theorem dX8_looks_226 : decode cX8_looks 226 = .ok (.bastore, 1) := by decide +kernel
theorem dX8_looks_227 : decode cX8_looks 227 = .ok (.iinc 5 1, 3) := by decide +kernel
theorem dX8_looks_230 : decode cX8_looks 230 = .ok (.goto 198, 3) := by decide +kernel
theorem dX8_looks_233 : decode cX8_looks 233 = .ok (.iload 7, 2) := by decide +kernel
theorem dX8_looks_235 : decode cX8_looks 235 = .ok (.iconst (-1), 1) := by decide +kernel
theorem dX8_looks_236 : decode cX8_looks 236 = .ok (.if_icmp .ne 32, 3) := by decide +kernel
theorem dX8_looks_239 : decode cX8_looks 239 = .ok (.aload_n 0, 1) := by decide +kernel
theorem dX8_looks_240 : decode cX8_looks 240 = .ok (.getfield 21, 3) := by decide +kernel
theorem dX8_looks_243 : decode cX8_looks 243 = .ok (.iload 5, 2) := by decide +kernel
theorem dX8_looks_245 : decode cX8_looks 245 = .ok (.iconst 1, 1) := by decide +kernel
theorem dX8_looks_246 : decode cX8_looks 246 = .ok (.isub, 1) := by decide +kernel
theorem dX8_looks_247 : decode cX8_looks 247 = .ok (.aload_n 0, 1) := by decide +kernel
theorem dX8_looks_248 : decode cX8_looks 248 = .ok (.getfield 21, 3) := by decide +kernel
theorem dX8_looks_251 : decode cX8_looks 251 = .ok (.iload 5, 2) := by decide +kernel
theorem dX8_looks_253 : decode cX8_looks 253 = .ok (.iconst 1, 1) := by decide +kernel
theorem dX8_looks_254 : decode cX8_looks 254 = .ok (.isub, 1) := by decide +kernel
theorem dX8_looks_255 : decode cX8_looks 255 = .ok (.baload, 1) := by decide +kernel
theorem dX8_looks_256 : decode cX8_looks 256 = .ok (.ifCond .ne 7, 3) := by decide +kernel
theorem dX8_looks_259 : decode cX8_looks 259 = .ok (.iconst 1, 1) := by decide +kernel
theorem dX8_looks_260 : decode cX8_looks 260 = .ok (.goto 4, 3) := by decide +kernel
theorem dX8_looks_263 : decode cX8_looks 263 = .ok (.iconst 0, 1) := by decide +kernel
theorem dX8_looks_264 : decode cX8_looks 264 = .ok (.bastore, 1) := by decide +kernel
theorem dX8_looks_265 : decode cX8_looks 265 = .ok (.goto 163, 3) := by decide +kernel
theorem dX8_looks_268 : decode cX8_looks 268 = .ok (.iload 7, 2) := by decide +kernel
theorem dX8_looks_270 : decode cX8_looks 270 = .ok (.bipush (-10), 2) := by decide +kernel
theorem dX8_looks_272 : decode cX8_looks 272 = .ok (.if_icmp .le 82, 3) := by decide +kernel
theorem dX8_looks_275 : decode cX8_looks 275 = .ok (.iinc 5 (-1), 3) := by decide +kernel
theorem dX8_looks_278 : decode cX8_looks 278 = .ok (.aload_n 0, 1) := by decide +kernel
theorem dX8_looks_279 : decode cX8_looks 279 = .ok (.getfield 21, 3) := by decide +kernel
theorem dX8_looks_282 : decode cX8_looks 282 = .ok (.iload 5, 2) := by decide +kernel
theorem dX8_looks_284 : decode cX8_looks 284 = .ok (.iconst 1, 1) := by decide +kernel
theorem dX8_looks_285 : decode cX8_looks 285 = .ok (.isub, 1) := by decide +kernel
theorem dX8_looks_286 : decode cX8_looks 286 = .ok (.iload 7, 2) := by decide +kernel
theorem dX8_looks_288 : decode cX8_looks 288 = .ok (.bipush (-2), 2) := by decide +kernel
theorem dX8_looks_290 : decode cX8_looks 290 = .ok (.if_icmp .ne 33, 3) := by decide +kernel
theorem dX8_looks_293 : decode cX8_looks 293 = .ok (.aload_n 0, 1) := by decide +kernel
theorem dX8_looks_294 : decode cX8_looks 294 = .ok (.getfield 21, 3) := by decide +kernel
theorem dX8_looks_297 : decode cX8_looks 297 = .ok (.iload 5, 2) := by decide +kernel
theorem dX8_looks_299 : decode cX8_looks 299 = .ok (.iconst 1, 1) := by decide +kernel
theorem dX8_looks_300 : decode cX8_looks 300 = .ok (.isub, 1) := by decide +kernel
theorem dX8_looks_301 : decode cX8_looks 301 = .ok (.baload, 1) := by decide +kernel
theorem dX8_looks_302 : decode cX8_looks 302 = .ok (.ifCond .eq 17, 3) := by decide +kernel
theorem dX8_looks_305 : decode cX8_looks 305 = .ok (.aload_n 0, 1) := by decide +kernel
theorem dX8_looks_306 : decode cX8_looks 306 = .ok (.getfield 21, 3) := by decide +kernel
theorem dX8_looks_309 : decode cX8_looks 309 = .ok (.iload 5, 2) := by decide +kernel
theorem dX8_looks_311 : decode cX8_looks 311 = .ok (.baload, 1) := by decide +kernel
theorem dX8_looks_312 : decode cX8_looks 312 = .ok (.ifCond .eq 7, 3) := by decide +kernel
theorem dX8_looks_315 : decode cX8_looks 315 = .ok (.iconst 1, 1) := by decide +kernel
theorem dX8_looks_316 : decode cX8_looks 316 = .ok (.goto 34, 3) := by decide +kernel
theorem dX8_looks_319 : decode cX8_looks 319 = .ok (.iconst 0, 1) := by decide +kernel
theorem dX8_looks_320 : decode cX8_looks 320 = .ok (.goto 30, 3) := by decide +kernel
theorem dX8_looks_323 : decode cX8_looks 323 = .ok (.aload_n 0, 1) := by decide +kernel
theorem dX8_looks_324 : decode cX8_looks 324 = .ok (.getfield 21, 3) := by decide +kernel
theorem dX8_looks_327 : decode cX8_looks 327 = .ok (.iload 5, 2) := by decide +kernel
theorem dX8_looks_329 : decode cX8_looks 329 = .ok (.iconst 1, 1) := by decide +kernel
theorem dX8_looks_330 : decode cX8_looks 330 = .ok (.isub, 1) := by decide +kernel
theorem dX8_looks_331 : decode cX8_looks 331 = .ok (.baload, 1) := by decide +kernel
theorem dX8_looks_332 : decode cX8_looks 332 = .ok (.ifCond .ne 13, 3) := by decide +kernel
theorem dX8_looks_335 : decode cX8_looks 335 = .ok (.aload_n 0, 1) := by decide +kernel
theorem dX8_looks_336 : decode cX8_looks 336 = .ok (.getfield 21, 3) := by decide +kernel
theorem dX8_looks_339 : decode cX8_looks 339 = .ok (.iload 5, 2) := by decide +kernel
theorem dX8_looks_341 : decode cX8_looks 341 = .ok (.baload, 1) := by decide +kernel
theorem dX8_looks_342 : decode cX8_looks 342 = .ok (.ifCond .eq 7, 3) := by decide +kernel
theorem dX8_looks_345 : decode cX8_looks 345 = .ok (.iconst 1, 1) := by decide +kernel
theorem dX8_looks_346 : decode cX8_looks 346 = .ok (.goto 4, 3) := by decide +kernel
theorem dX8_looks_349 : decode cX8_looks 349 = .ok (.iconst 0, 1) := by decide +kernel
theorem dX8_looks_350 : decode cX8_looks 350 = .ok (.bastore, 1) := by decide +kernel
theorem dX8_looks_351 : decode cX8_looks 351 = .ok (.goto 77, 3) := by decide +kernel
theorem dX8_looks_354 : decode cX8_looks 354 = .ok (.iconst 0, 1) := by decide +kernel
theorem dX8_looks_355 : decode cX8_looks 355 = .ok (.istore 5, 2) := by decide +kernel
theorem dX8_looks_357 : decode cX8_looks 357 = .ok (.aload_n 0, 1) := by decide +kernel
theorem dX8_looks_358 : decode cX8_looks 358 = .ok (.getfield 21, 3) := by decide +kernel
theorem dX8_looks_361 : decode cX8_looks 361 = .ok (.iconst 0, 1) := by decide +kernel
theorem dX8_looks_362 : decode cX8_looks 362 = .ok (.baload, 1) := by decide +kernel
theorem dX8_looks_363 : decode cX8_looks 363 = .ok (.istore 8, 2) := by decide +kernel
theorem dX8_looks_365 : decode cX8_looks 365 = .ok (.aload_n 0, 1) := by decide +kernel
theorem dX8_looks_366 : decode cX8_looks 366 = .ok (.dup, 1) := by decide +kernel
theorem dX8_looks_367 : decode cX8_looks 367 = .ok (.getfield 140, 3) := by decide +kernel
theorem dX8_looks_370 : decode cX8_looks 370 = .ok (.iload 8, 2) := by decide +kernel
theorem dX8_looks_372 : decode cX8_looks 372 = .ok (.ifCond .eq 19, 3) := by decide +kernel
theorem dX8_looks_375 : decode cX8_looks 375 = .ok (.iload 7, 2) := by decide +kernel
theorem dX8_looks_377 : decode cX8_looks 377 = .ok (.sipush (-200), 3) := by decide +kernel
theorem dX8_looks_380 : decode cX8_looks 380 = .ok (.if_icmp .le 11, 3) := by decide +kernel
theorem dX8_looks_383 : decode cX8_looks 383 = .ok (.bipush (-10), 2) := by decide +kernel
theorem dX8_looks_385 : decode cX8_looks 385 = .ok (.iload 7, 2) := by decide +kernel
theorem dX8_looks_387 : decode cX8_looks 387 = .ok (.isub, 1) := by decide +kernel
theorem dX8_looks_388 : decode cX8_looks 388 = .ok (.goto 4, 3) := by decide +kernel
theorem dX8_looks_391 : decode cX8_looks 391 = .ok (.iconst 0, 1) := by decide +kernel
theorem dX8_looks_392 : decode cX8_looks 392 = .ok (.iadd, 1) := by decide +kernel
theorem dX8_looks_393 : decode cX8_looks 393 = .ok (.putfield 140, 3) := by decide +kernel
theorem dX8_looks_396 : decode cX8_looks 396 = .ok (.aload_n 0, 1) := by decide +kernel
theorem dX8_looks_397 : decode cX8_looks 397 = .ok (.dup, 1) := by decide +kernel
theorem dX8_looks_398 : decode cX8_looks 398 = .ok (.getfield 143, 3) := by decide +kernel
theorem dX8_looks_401 : decode cX8_looks 401 = .ok (.iload 8, 2) := by decide +kernel
theorem dX8_looks_403 : decode cX8_looks 403 = .ok (.ifCond .eq 20, 3) := by decide +kernel
theorem dX8_looks_406 : decode cX8_looks 406 = .ok (.iload 7, 2) := by decide +kernel
theorem dX8_looks_408 : decode cX8_looks 408 = .ok (.sipush (-200), 3) := by decide +kernel
theorem dX8_looks_411 : decode cX8_looks 411 = .ok (.if_icmp .gt 12, 3) := by decide +kernel
theorem dX8_looks_414 : decode cX8_looks 414 = .ok (.sipush (-200), 3) := by decide +kernel
theorem dX8_looks_417 : decode cX8_looks 417 = .ok (.iload 7, 2) := by decide +kernel
theorem dX8_looks_419 : decode cX8_looks 419 = .ok (.isub, 1) := by decide +kernel
theorem dX8_looks_420 : decode cX8_looks 420 = .ok (.goto 4, 3) := by decide +kernel
theorem dX8_looks_423 : decode cX8_looks 423 = .ok (.iconst 0, 1) := by decide +kernel
theorem dX8_looks_424 : decode cX8_looks 424 = .ok (.iadd, 1) := by decide +kernel
theorem dX8_looks_425 : decode cX8_looks 425 = .ok (.putfield 143, 3) := by decide +kernel
theorem dX8_looks_428 : decode cX8_looks 428 = .ok (.iinc 6 1, 3) := by decide +kernel
theorem dX8_looks_431 : decode cX8_looks 431 = .ok (.goto (-315), 3) := by decide +kernel
theorem dX8_looks_434 : decode cX8_looks 434 = .ok (.return_, 1) := by decide +kernel
theorem dX8_looksFor_0 : decode cX8_looksFor 0 = .ok (.aload_n 0, 1) := by decide +kernel
theorem dX8_looksFor_1 : decode cX8_looksFor 1 = .ok (.getfield 25, 3) := by decide +kernel
theorem dX8_looksFor_4 : decode cX8_looksFor 4 = .ok (.iconst 0, 1) := by decide +kernel
theorem dX8_looksFor_5 : decode cX8_looksFor 5 = .ok (.iconst 0, 1) := by decide +kernel
theorem dX8_looksFor_6 : decode cX8_looksFor 6 = .ok (.iastore, 1) := by decide +kernel
theorem dX8_looksFor_7 : decode cX8_looksFor 7 = .ok (.aload_n 0, 1) := by decide +kernel
theorem dX8_looksFor_8 : decode cX8_looksFor 8 = .ok (.getfield 28, 3) := by decide +kernel
theorem dX8_looksFor_11 : decode cX8_looksFor 11 = .ok (.iconst 0, 1) := by decide +kernel
theorem dX8_looksFor_12 : decode cX8_looksFor 12 = .ok (.iconst 0, 1) := by decide +kernel
theorem dX8_looksFor_13 : decode cX8_looksFor 13 = .ok (.iastore, 1) := by decide +kernel
theorem dX8_looksFor_14 : decode cX8_looksFor 14 = .ok (.iconst 0, 1) := by decide +kernel
theorem dX8_looksFor_15 : decode cX8_looksFor 15 = .ok (.istore_n 2, 1) := by decide +kernel
theorem dX8_looksFor_16 : decode cX8_looksFor 16 = .ok (.iload_n 2, 1) := by decide +kernel
theorem dX8_looksFor_17 : decode cX8_looksFor 17 = .ok (.bipush 8, 2) := by decide +kernel
theorem dX8_looksFor_19 : decode cX8_looksFor 19 = .ok (.if_icmp .ge 72, 3) := by decide +kernel
theorem dX8_looksFor_22 : decode cX8_looksFor 22 = .ok (.aload_n 0, 1) := by decide +kernel
theorem dX8_looksFor_23 : decode cX8_looksFor 23 = .ok (.iload_n 1, 1) := by decide +kernel
theorem dX8_looksFor_24 : decode cX8_looksFor 24 = .ok (.iload_n 2, 1) := by decide +kernel
theorem dX8_looksFor_25 : decode cX8_looksFor 25 = .ok (.invokevirtual 146, 3) := by decide +kernel
theorem dX8_looksFor_28 : decode cX8_looksFor 28 = .ok (.iconst 0, 1) := by decide +kernel
theorem dX8_looksFor_29 : decode cX8_looksFor 29 = .ok (.istore_n 3, 1) := by decide +kernel
theorem dX8_looksFor_30 : decode cX8_looksFor 30 = .ok (.iload_n 3, 1) := by decide +kernel
theorem dX8_looksFor_31 : decode cX8_looksFor 31 = .ok (.iconst 1, 1) := by decide +kernel
theorem dX8_looksFor_32 : decode cX8_looksFor 32 = .ok (.iload_n 2, 1) := by decide +kernel
theorem dX8_looksFor_33 : decode cX8_looksFor 33 = .ok (.ishl, 1) := by decide +kernel
theorem dX8_looksFor_34 : decode cX8_looksFor 34 = .ok (.if_icmp .ge 51, 3) := by decide +kernel
theorem dX8_looksFor_37 : decode cX8_looksFor 37 = .ok (.aload_n 0, 1) := by decide +kernel
theorem dX8_looksFor_38 : decode cX8_looksFor 38 = .ok (.getfield 25, 3) := by decide +kernel
theorem dX8_looksFor_41 : decode cX8_looksFor 41 = .ok (.iload_n 3, 1) := by decide +kernel
theorem dX8_looksFor_42 : decode cX8_looksFor 42 = .ok (.iconst 1, 1) := by decide +kernel
theorem dX8_looksFor_43 : decode cX8_looksFor 43 = .ok (.iload_n 2, 1) := by decide +kernel
theorem dX8_looksFor_44 : decode cX8_looksFor 44 = .ok (.ishl, 1) := by decide +kernel
theorem dX8_looksFor_45 : decode cX8_looksFor 45 = .ok (.iadd, 1) := by decide +kernel
theorem dX8_looksFor_46 : decode cX8_looksFor 46 = .ok (.aload_n 0, 1) := by decide +kernel
theorem dX8_looksFor_47 : decode cX8_looksFor 47 = .ok (.getfield 25, 3) := by decide +kernel
theorem dX8_looksFor_50 : decode cX8_looksFor 50 = .ok (.iload_n 3, 1) := by decide +kernel
theorem dX8_looksFor_51 : decode cX8_looksFor 51 = .ok (.iaload, 1) := by decide +kernel
theorem dX8_looksFor_52 : decode cX8_looksFor 52 = .ok (.aload_n 0, 1) := by decide +kernel
theorem dX8_looksFor_53 : decode cX8_looksFor 53 = .ok (.getfield 140, 3) := by decide +kernel
theorem dX8_looksFor_56 : decode cX8_looksFor 56 = .ok (.iadd, 1) := by decide +kernel
theorem dX8_looksFor_57 : decode cX8_looksFor 57 = .ok (.iastore, 1) := by decide +kernel
theorem dX8_looksFor_58 : decode cX8_looksFor 58 = .ok (.aload_n 0, 1) := by decide +kernel
theorem dX8_looksFor_59 : decode cX8_looksFor 59 = .ok (.getfield 28, 3) := by decide +kernel
theorem dX8_looksFor_62 : decode cX8_looksFor 62 = .ok (.iload_n 3, 1) := by decide +kernel
theorem dX8_looksFor_63 : decode cX8_looksFor 63 = .ok (.iconst 1, 1) := by decide +kernel
theorem dX8_looksFor_64 : decode cX8_looksFor 64 = .ok (.iload_n 2, 1) := by decide +kernel
theorem dX8_looksFor_65 : decode cX8_looksFor 65 = .ok (.ishl, 1) := by decide +kernel
theorem dX8_looksFor_66 : decode cX8_looksFor 66 = .ok (.iadd, 1) := by decide +kernel
theorem dX8_looksFor_67 : decode cX8_looksFor 67 = .ok (.aload_n 0, 1) := by decide +kernel
theorem dX8_looksFor_68 : decode cX8_looksFor 68 = .ok (.getfield 28, 3) := by decide +kernel
theorem dX8_looksFor_71 : decode cX8_looksFor 71 = .ok (.iload_n 3, 1) := by decide +kernel
theorem dX8_looksFor_72 : decode cX8_looksFor 72 = .ok (.iaload, 1) := by decide +kernel
theorem dX8_looksFor_73 : decode cX8_looksFor 73 = .ok (.aload_n 0, 1) := by decide +kernel
theorem dX8_looksFor_74 : decode cX8_looksFor 74 = .ok (.getfield 143, 3) := by decide +kernel
theorem dX8_looksFor_77 : decode cX8_looksFor 77 = .ok (.iadd, 1) := by decide +kernel
theorem dX8_looksFor_78 : decode cX8_looksFor 78 = .ok (.iastore, 1) := by decide +kernel
theorem dX8_looksFor_79 : decode cX8_looksFor 79 = .ok (.iinc 3 1, 3) := by decide +kernel
theorem dX8_looksFor_82 : decode cX8_looksFor 82 = .ok (.goto (-52), 3) := by decide +kernel
theorem dX8_looksFor_85 : decode cX8_looksFor 85 = .ok (.iinc 2 1, 3) := by decide +kernel
theorem dX8_looksFor_88 : decode cX8_looksFor 88 = .ok (.goto (-72), 3) := by decide +kernel
theorem dX8_looksFor_91 : decode cX8_looksFor 91 = .ok (.aload_n 0, 1) := by decide +kernel
theorem dX8_looksFor_92 : decode cX8_looksFor 92 = .ok (.aload_n 0, 1) := by decide +kernel
theorem dX8_looksFor_93 : decode cX8_looksFor 93 = .ok (.invokevirtual 130, 3) := by decide +kernel
theorem dX8_looksFor_96 : decode cX8_looksFor 96 = .ok (.aload_n 0, 1) := by decide +kernel
theorem dX8_looksFor_97 : decode cX8_looksFor 97 = .ok (.getfield 9, 3) := by decide +kernel
theorem dX8_looksFor_100 : decode cX8_looksFor 100 = .ok (.bipush 26, 2) := by decide +kernel
theorem dX8_looksFor_102 : decode cX8_looksFor 102 = .ok (.iload_n 1, 1) := by decide +kernel
theorem dX8_looksFor_103 : decode cX8_looksFor 103 = .ok (.iadd, 1) := by decide +kernel
theorem dX8_looksFor_104 : decode cX8_looksFor 104 = .ok (.iaload, 1) := by decide +kernel
theorem dX8_looksFor_105 : decode cX8_looksFor 105 = .ok (.iconst 5, 1) := by decide +kernel
theorem dX8_looksFor_106 : decode cX8_looksFor 106 = .ok (.if_icmp .ne 15, 3) := by decide +kernel
theorem dX8_looksFor_109 : decode cX8_looksFor 109 = .ok (.aload_n 0, 1) := by decide +kernel
theorem dX8_looksFor_110 : decode cX8_looksFor 110 = .ok (.getfield 9, 3) := by decide +kernel
theorem dX8_looksFor_113 : decode cX8_looksFor 113 = .ok (.bipush 30, 2) := by decide +kernel
theorem dX8_looksFor_115 : decode cX8_looksFor 115 = .ok (.iload_n 1, 1) := by decide +kernel
theorem dX8_looksFor_116 : decode cX8_looksFor 116 = .ok (.iadd, 1) := by decide +kernel
theorem dX8_looksFor_117 : decode cX8_looksFor 117 = .ok (.iaload, 1) := by decide +kernel
theorem dX8_looksFor_118 : decode cX8_looksFor 118 = .ok (.goto 4, 3) := by decide +kernel
theorem dX8_looksFor_121 : decode cX8_looksFor 121 = .ok (.iconst 0, 1) := by decide +kernel
theorem dX8_looksFor_122 : decode cX8_looksFor 122 = .ok (.iadd, 1) := by decide +kernel
theorem dX8_looksFor_123 : decode cX8_looksFor 123 = .ok (.putfield 150, 3) := by decide +kernel
theorem dX8_looksFor_126 : decode cX8_looksFor 126 = .ok (.return_, 1) := by decide +kernel
theorem dX8_scoreOf_0 : decode cX8_scoreOf 0 = .ok (.aload_n 0, 1) := by decide +kernel
theorem dX8_scoreOf_1 : decode cX8_scoreOf 1 = .ok (.getfield 25, 3) := by decide +kernel
theorem dX8_scoreOf_4 : decode cX8_scoreOf 4 = .ok (.iload_n 1, 1) := by decide +kernel
theorem dX8_scoreOf_5 : decode cX8_scoreOf 5 = .ok (.iload_n 2, 1) := by decide +kernel
theorem dX8_scoreOf_6 : decode cX8_scoreOf 6 = .ok (.iand, 1) := by decide +kernel
theorem dX8_scoreOf_7 : decode cX8_scoreOf 7 = .ok (.iaload, 1) := by decide +kernel
theorem dX8_scoreOf_8 : decode cX8_scoreOf 8 = .ok (.aload_n 0, 1) := by decide +kernel
theorem dX8_scoreOf_9 : decode cX8_scoreOf 9 = .ok (.getfield 28, 3) := by decide +kernel
theorem dX8_scoreOf_12 : decode cX8_scoreOf 12 = .ok (.iload_n 1, 1) := by decide +kernel
theorem dX8_scoreOf_13 : decode cX8_scoreOf 13 = .ok (.iload_n 2, 1) := by decide +kernel
theorem dX8_scoreOf_14 : decode cX8_scoreOf 14 = .ok (.ixor, 1) := by decide +kernel
theorem dX8_scoreOf_15 : decode cX8_scoreOf 15 = .ok (.iaload, 1) := by decide +kernel
theorem dX8_scoreOf_16 : decode cX8_scoreOf 16 = .ok (.isub, 1) := by decide +kernel
theorem dX8_scoreOf_17 : decode cX8_scoreOf 17 = .ok (.ireturn, 1) := by decide +kernel
theorem dX8_at_0 : decode cX8_at 0 = .ok (.aload_n 0, 1) := by decide +kernel
theorem dX8_at_1 : decode cX8_at 1 = .ok (.iload_n 1, 1) := by decide +kernel
theorem dX8_at_2 : decode cX8_at 2 = .ok (.invokevirtual 137, 3) := by decide +kernel
theorem dX8_at_5 : decode cX8_at 5 = .ok (.ifCond .eq 34, 3) := by decide +kernel
theorem dX8_at_8 : decode cX8_at 8 = .ok (.iload_n 2, 1) := by decide +kernel
theorem dX8_at_9 : decode cX8_at 9 = .ok (.iconst 0, 1) := by decide +kernel
theorem dX8_at_10 : decode cX8_at 10 = .ok (.iconst 1, 1) := by decide +kernel
theorem dX8_at_11 : decode cX8_at 11 = .ok (.invokestatic 53, 3) := by decide +kernel
theorem dX8_at_14 : decode cX8_at 14 = .ok (.ifCond .ne 27, 3) := by decide +kernel
theorem dX8_at_17 : decode cX8_at 17 = .ok (.iload_n 2, 1) := by decide +kernel
theorem dX8_at_18 : decode cX8_at 18 = .ok (.bipush 10, 2) := by decide +kernel
theorem dX8_at_20 : decode cX8_at 20 = .ok (.bipush 17, 2) := by decide +kernel
theorem dX8_at_22 : decode cX8_at 22 = .ok (.invokestatic 53, 3) := by decide +kernel
theorem dX8_at_25 : decode cX8_at 25 = .ok (.ifCond .ne 16, 3) := by decide +kernel
theorem dX8_at_28 : decode cX8_at 28 = .ok (.iload_n 2, 1) := by decide +kernel
theorem dX8_at_29 : decode cX8_at 29 = .ok (.bipush 20, 2) := by decide +kernel
theorem dX8_at_31 : decode cX8_at 31 = .ok (.bipush 27, 2) := by decide +kernel
theorem dX8_at_33 : decode cX8_at 33 = .ok (.invokestatic 53, 3) := by decide +kernel
theorem dX8_at_36 : decode cX8_at 36 = .ok (.ifCond .ne 5, 3) := by decide +kernel
theorem dX8_at_39 : decode cX8_at 39 = .ok (.iconst (-1), 1) := by decide +kernel
theorem dX8_at_40 : decode cX8_at 40 = .ok (.ireturn, 1) := by decide +kernel
theorem dX8_at_41 : decode cX8_at 41 = .ok (.iload_n 2, 1) := by decide +kernel
theorem dX8_at_42 : decode cX8_at 42 = .ok (.iconst 2, 1) := by decide +kernel
theorem dX8_at_43 : decode cX8_at 43 = .ok (.if_icmp .ge 17, 3) := by decide +kernel
theorem dX8_at_46 : decode cX8_at 46 = .ok (.aload_n 0, 1) := by decide +kernel
theorem dX8_at_47 : decode cX8_at 47 = .ok (.getfield 9, 3) := by decide +kernel
theorem dX8_at_50 : decode cX8_at 50 = .ok (.bipush 26, 2) := by decide +kernel
theorem dX8_at_52 : decode cX8_at 52 = .ok (.iconst 4, 1) := by decide +kernel
theorem dX8_at_53 : decode cX8_at 53 = .ok (.iload_n 2, 1) := by decide +kernel
theorem dX8_at_54 : decode cX8_at 54 = .ok (.imul, 1) := by decide +kernel
theorem dX8_at_55 : decode cX8_at 55 = .ok (.iadd, 1) := by decide +kernel
theorem dX8_at_56 : decode cX8_at 56 = .ok (.iload_n 1, 1) := by decide +kernel
theorem dX8_at_57 : decode cX8_at 57 = .ok (.iadd, 1) := by decide +kernel
theorem dX8_at_58 : decode cX8_at 58 = .ok (.iaload, 1) := by decide +kernel
theorem dX8_at_59 : decode cX8_at 59 = .ok (.ireturn, 1) := by decide +kernel
theorem dX8_at_60 : decode cX8_at 60 = .ok (.aload_n 0, 1) := by decide +kernel
theorem dX8_at_61 : decode cX8_at 61 = .ok (.iload_n 1, 1) := by decide +kernel
theorem dX8_at_62 : decode cX8_at 62 = .ok (.iload_n 2, 1) := by decide +kernel
theorem dX8_at_63 : decode cX8_at 63 = .ok (.bipush 10, 2) := by decide +kernel
theorem dX8_at_65 : decode cX8_at 65 = .ok (.irem, 1) := by decide +kernel
theorem dX8_at_66 : decode cX8_at 66 = .ok (.invokevirtual 146, 3) := by decide +kernel
theorem dX8_at_69 : decode cX8_at 69 = .ok (.iload_n 2, 1) := by decide +kernel
theorem dX8_at_70 : decode cX8_at 70 = .ok (.bipush 20, 2) := by decide +kernel
theorem dX8_at_72 : decode cX8_at 72 = .ok (.if_icmp .ge 10, 3) := by decide +kernel
theorem dX8_at_75 : decode cX8_at 75 = .ok (.aload_n 0, 1) := by decide +kernel
theorem dX8_at_76 : decode cX8_at 76 = .ok (.getfield 140, 3) := by decide +kernel
theorem dX8_at_79 : decode cX8_at 79 = .ok (.goto 7, 3) := by decide +kernel
theorem dX8_at_82 : decode cX8_at 82 = .ok (.aload_n 0, 1) := by decide +kernel
theorem dX8_at_83 : decode cX8_at 83 = .ok (.getfield 143, 3) := by decide +kernel
theorem dX8_at_86 : decode cX8_at 86 = .ok (.ireturn, 1) := by decide +kernel
theorem dX8_score_0 : decode cX8_score 0 = .ok (.aload_n 0, 1) := by decide +kernel
theorem dX8_score_1 : decode cX8_score 1 = .ok (.iload_n 1, 1) := by decide +kernel
theorem dX8_score_2 : decode cX8_score 2 = .ok (.invokevirtual 137, 3) := by decide +kernel
theorem dX8_score_5 : decode cX8_score 5 = .ok (.ifCond .eq 19, 3) := by decide +kernel
theorem dX8_score_8 : decode cX8_score 8 = .ok (.aload_n 0, 1) := by decide +kernel
theorem dX8_score_9 : decode cX8_score 9 = .ok (.iload_n 2, 1) := by decide +kernel
theorem dX8_score_10 : decode cX8_score 10 = .ok (.invokevirtual 133, 3) := by decide +kernel
theorem dX8_score_13 : decode cX8_score 13 = .ok (.ifCond .eq 11, 3) := by decide +kernel
theorem dX8_score_16 : decode cX8_score 16 = .ok (.aload_n 0, 1) := by decide +kernel
theorem dX8_score_17 : decode cX8_score 17 = .ok (.iload_n 3, 1) := by decide +kernel
theorem dX8_score_18 : decode cX8_score 18 = .ok (.invokevirtual 133, 3) := by decide +kernel
theorem dX8_score_21 : decode cX8_score 21 = .ok (.ifCond .ne 6, 3) := by decide +kernel
theorem dX8_score_24 : decode cX8_score 24 = .ok (.ldc 153, 2) := by decide +kernel
theorem dX8_score_26 : decode cX8_score 26 = .ok (.ireturn, 1) := by decide +kernel
theorem dX8_score_27 : decode cX8_score 27 = .ok (.aload_n 0, 1) := by decide +kernel
theorem dX8_score_28 : decode cX8_score 28 = .ok (.iload_n 1, 1) := by decide +kernel
theorem dX8_score_29 : decode cX8_score 29 = .ok (.invokevirtual 154, 3) := by decide +kernel
theorem dX8_score_32 : decode cX8_score 32 = .ok (.aload_n 0, 1) := by decide +kernel
theorem dX8_score_33 : decode cX8_score 33 = .ok (.aload_n 0, 1) := by decide +kernel
theorem dX8_score_34 : decode cX8_score 34 = .ok (.getfield 9, 3) := by decide +kernel
theorem dX8_score_37 : decode cX8_score 37 = .ok (.bipush 10, 2) := by decide +kernel
theorem dX8_score_39 : decode cX8_score 39 = .ok (.iload_n 2, 1) := by decide +kernel
theorem dX8_score_40 : decode cX8_score 40 = .ok (.iadd, 1) := by decide +kernel
theorem dX8_score_41 : decode cX8_score 41 = .ok (.iaload, 1) := by decide +kernel
theorem dX8_score_42 : decode cX8_score 42 = .ok (.aload_n 0, 1) := by decide +kernel
theorem dX8_score_43 : decode cX8_score 43 = .ok (.getfield 9, 3) := by decide +kernel
theorem dX8_score_46 : decode cX8_score 46 = .ok (.bipush 10, 2) := by decide +kernel
theorem dX8_score_48 : decode cX8_score 48 = .ok (.iload_n 3, 1) := by decide +kernel
theorem dX8_score_49 : decode cX8_score 49 = .ok (.iadd, 1) := by decide +kernel
theorem dX8_score_50 : decode cX8_score 50 = .ok (.iaload, 1) := by decide +kernel
theorem dX8_score_51 : decode cX8_score 51 = .ok (.invokevirtual 157, 3) := by decide +kernel
theorem dX8_score_54 : decode cX8_score 54 = .ok (.ireturn, 1) := by decide +kernel
theorem dX8_opens_0 : decode cX8_opens 0 = .ok (.aload_n 0, 1) := by decide +kernel
theorem dX8_opens_1 : decode cX8_opens 1 = .ok (.iconst 0, 1) := by decide +kernel
theorem dX8_opens_2 : decode cX8_opens 2 = .ok (.putfield 161, 3) := by decide +kernel
theorem dX8_opens_5 : decode cX8_opens 5 = .ok (.iconst 0, 1) := by decide +kernel
theorem dX8_opens_6 : decode cX8_opens 6 = .ok (.istore_n 1, 1) := by decide +kernel
theorem dX8_opens_7 : decode cX8_opens 7 = .ok (.iload_n 1, 1) := by decide +kernel
theorem dX8_opens_8 : decode cX8_opens 8 = .ok (.aload_n 0, 1) := by decide +kernel
theorem dX8_opens_9 : decode cX8_opens 9 = .ok (.getfield 9, 3) := by decide +kernel
theorem dX8_opens_12 : decode cX8_opens 12 = .ok (.iconst 3, 1) := by decide +kernel
theorem dX8_opens_13 : decode cX8_opens 13 = .ok (.iaload, 1) := by decide +kernel
theorem dX8_opens_14 : decode cX8_opens 14 = .ok (.if_icmp .ge 48, 3) := by decide +kernel
theorem dX8_opens_17 : decode cX8_opens 17 = .ok (.aload_n 0, 1) := by decide +kernel
theorem dX8_opens_18 : decode cX8_opens 18 = .ok (.aload_n 0, 1) := by decide +kernel
theorem dX8_opens_19 : decode cX8_opens 19 = .ok (.getfield 9, 3) := by decide +kernel
theorem dX8_opens_22 : decode cX8_opens 22 = .ok (.bipush 10, 2) := by decide +kernel
theorem dX8_opens_24 : decode cX8_opens 24 = .ok (.aload_n 0, 1) := by decide +kernel
theorem dX8_opens_25 : decode cX8_opens 25 = .ok (.getfield 9, 3) := by decide +kernel
theorem dX8_opens_28 : decode cX8_opens 28 = .ok (.bipush 50, 2) := by decide +kernel
theorem dX8_opens_30 : decode cX8_opens 30 = .ok (.iload_n 1, 1) := by decide +kernel
theorem dX8_opens_31 : decode cX8_opens 31 = .ok (.iadd, 1) := by decide +kernel
theorem dX8_opens_32 : decode cX8_opens 32 = .ok (.iaload, 1) := by decide +kernel
theorem dX8_opens_33 : decode cX8_opens 33 = .ok (.iadd, 1) := by decide +kernel
theorem dX8_opens_34 : decode cX8_opens 34 = .ok (.iaload, 1) := by decide +kernel
theorem dX8_opens_35 : decode cX8_opens 35 = .ok (.aload_n 0, 1) := by decide +kernel
theorem dX8_opens_36 : decode cX8_opens 36 = .ok (.getfield 9, 3) := by decide +kernel
theorem dX8_opens_39 : decode cX8_opens 39 = .ok (.bipush 74, 2) := by decide +kernel
theorem dX8_opens_41 : decode cX8_opens 41 = .ok (.iload_n 1, 1) := by decide +kernel
theorem dX8_opens_42 : decode cX8_opens 42 = .ok (.iadd, 1) := by decide +kernel
theorem dX8_opens_43 : decode cX8_opens 43 = .ok (.iaload, 1) := by decide +kernel
theorem dX8_opens_44 : decode cX8_opens 44 = .ok (.iconst 1, 1) := by decide +kernel
theorem dX8_opens_45 : decode cX8_opens 45 = .ok (.if_icmp .ne 7, 3) := by decide +kernel
theorem dX8_opens_48 : decode cX8_opens 48 = .ok (.iconst 1, 1) := by decide +kernel
theorem dX8_opens_49 : decode cX8_opens 49 = .ok (.goto 4, 3) := by decide +kernel
theorem dX8_opens_52 : decode cX8_opens 52 = .ok (.iconst 0, 1) := by decide +kernel
theorem dX8_opens_53 : decode cX8_opens 53 = .ok (.invokevirtual 164, 3) := by decide +kernel
theorem dX8_opens_56 : decode cX8_opens 56 = .ok (.iinc 1 1, 3) := by decide +kernel
theorem dX8_opens_59 : decode cX8_opens 59 = .ok (.goto (-52), 3) := by decide +kernel
theorem dX8_opens_62 : decode cX8_opens 62 = .ok (.return_, 1) := by decide +kernel
theorem dX8_writes_0 : decode cX8_writes 0 = .ok (.aload_n 0, 1) := by decide +kernel
theorem dX8_writes_1 : decode cX8_writes 1 = .ok (.getfield 31, 3) := by decide +kernel
theorem dX8_writes_4 : decode cX8_writes 4 = .ok (.aload_n 0, 1) := by decide +kernel
theorem dX8_writes_5 : decode cX8_writes 5 = .ok (.getfield 161, 3) := by decide +kernel
theorem dX8_writes_8 : decode cX8_writes 8 = .ok (.iload_n 1, 1) := by decide +kernel
theorem dX8_writes_9 : decode cX8_writes 9 = .ok (.iastore, 1) := by decide +kernel
theorem dX8_writes_10 : decode cX8_writes 10 = .ok (.aload_n 0, 1) := by decide +kernel
theorem dX8_writes_11 : decode cX8_writes 11 = .ok (.getfield 34, 3) := by decide +kernel
theorem dX8_writes_14 : decode cX8_writes 14 = .ok (.aload_n 0, 1) := by decide +kernel
theorem dX8_writes_15 : decode cX8_writes 15 = .ok (.getfield 161, 3) := by decide +kernel
theorem dX8_writes_18 : decode cX8_writes 18 = .ok (.iload_n 2, 1) := by decide +kernel
theorem dX8_writes_19 : decode cX8_writes 19 = .ok (.bastore, 1) := by decide +kernel
theorem dX8_writes_20 : decode cX8_writes 20 = .ok (.aload_n 0, 1) := by decide +kernel
theorem dX8_writes_21 : decode cX8_writes 21 = .ok (.dup, 1) := by decide +kernel
theorem dX8_writes_22 : decode cX8_writes 22 = .ok (.getfield 161, 3) := by decide +kernel
theorem dX8_writes_25 : decode cX8_writes 25 = .ok (.iconst 1, 1) := by decide +kernel
theorem dX8_writes_26 : decode cX8_writes 26 = .ok (.iadd, 1) := by decide +kernel
theorem dX8_writes_27 : decode cX8_writes 27 = .ok (.putfield 161, 3) := by decide +kernel
theorem dX8_writes_30 : decode cX8_writes 30 = .ok (.return_, 1) := by decide +kernel
theorem dX8_isLike_0 : decode cX8_isLike 0 = .ok (.aload_n 0, 1) := by decide +kernel
theorem dX8_isLike_1 : decode cX8_isLike 1 = .ok (.aload_n 0, 1) := by decide +kernel
theorem dX8_isLike_2 : decode cX8_isLike 2 = .ok (.getfield 31, 3) := by decide +kernel
theorem dX8_isLike_5 : decode cX8_isLike 5 = .ok (.iload_n 1, 1) := by decide +kernel
theorem dX8_isLike_6 : decode cX8_isLike 6 = .ok (.iaload, 1) := by decide +kernel
theorem dX8_isLike_7 : decode cX8_isLike 7 = .ok (.iload_n 2, 1) := by decide +kernel
theorem dX8_isLike_8 : decode cX8_isLike 8 = .ok (.invokevirtual 157, 3) := by decide +kernel
theorem dX8_isLike_11 : decode cX8_isLike 11 = .ok (.aload_n 0, 1) := by decide +kernel
theorem dX8_isLike_12 : decode cX8_isLike 12 = .ok (.getfield 150, 3) := by decide +kernel
theorem dX8_isLike_15 : decode cX8_isLike 15 = .ok (.if_icmp .lt 7, 3) := by decide +kernel
theorem dX8_isLike_18 : decode cX8_isLike 18 = .ok (.iconst 1, 1) := by decide +kernel
theorem dX8_isLike_19 : decode cX8_isLike 19 = .ok (.goto 4, 3) := by decide +kernel
theorem dX8_isLike_22 : decode cX8_isLike 22 = .ok (.iconst 0, 1) := by decide +kernel
theorem dX8_isLike_23 : decode cX8_isLike 23 = .ok (.ireturn, 1) := by decide +kernel
theorem dX8_likeOne_0 : decode cX8_likeOne 0 = .ok (.iconst (-1), 1) := by decide +kernel
theorem dX8_likeOne_1 : decode cX8_likeOne 1 = .ok (.istore_n 3, 1) := by decide +kernel
theorem dX8_likeOne_2 : decode cX8_likeOne 2 = .ok (.iconst 0, 1) := by decide +kernel
theorem dX8_likeOne_3 : decode cX8_likeOne 3 = .ok (.istore 4, 2) := by decide +kernel
theorem dX8_likeOne_5 : decode cX8_likeOne 5 = .ok (.iload 4, 2) := by decide +kernel
theorem dX8_likeOne_7 : decode cX8_likeOne 7 = .ok (.aload_n 0, 1) := by decide +kernel
theorem dX8_likeOne_8 : decode cX8_likeOne 8 = .ok (.getfield 161, 3) := by decide +kernel
theorem dX8_likeOne_11 : decode cX8_likeOne 11 = .ok (.if_icmp .ge 79, 3) := by decide +kernel
theorem dX8_likeOne_14 : decode cX8_likeOne 14 = .ok (.aload_n 0, 1) := by decide +kernel
theorem dX8_likeOne_15 : decode cX8_likeOne 15 = .ok (.iload 4, 2) := by decide +kernel
theorem dX8_likeOne_17 : decode cX8_likeOne 17 = .ok (.iload_n 1, 1) := by decide +kernel
theorem dX8_likeOne_18 : decode cX8_likeOne 18 = .ok (.invokevirtual 168, 3) := by decide +kernel
theorem dX8_likeOne_21 : decode cX8_likeOne 21 = .ok (.ifCond .eq 63, 3) := by decide +kernel
theorem dX8_likeOne_24 : decode cX8_likeOne 24 = .ok (.iload_n 3, 1) := by decide +kernel
theorem dX8_likeOne_25 : decode cX8_likeOne 25 = .ok (.iconst (-1), 1) := by decide +kernel
theorem dX8_likeOne_26 : decode cX8_likeOne 26 = .ok (.if_icmp .eq 39, 3) := by decide +kernel
theorem dX8_likeOne_29 : decode cX8_likeOne 29 = .ok (.iload_n 2, 1) := by decide +kernel
theorem dX8_likeOne_30 : decode cX8_likeOne 30 = .ok (.iconst 1, 1) := by decide +kernel
theorem dX8_likeOne_31 : decode cX8_likeOne 31 = .ok (.if_icmp .eq 34, 3) := by decide +kernel
theorem dX8_likeOne_34 : decode cX8_likeOne 34 = .ok (.iload_n 2, 1) := by decide +kernel
theorem dX8_likeOne_35 : decode cX8_likeOne 35 = .ok (.iconst 2, 1) := by decide +kernel
theorem dX8_likeOne_36 : decode cX8_likeOne 36 = .ok (.if_icmp .ne 33, 3) := by decide +kernel
theorem dX8_likeOne_39 : decode cX8_likeOne 39 = .ok (.aload_n 0, 1) := by decide +kernel
theorem dX8_likeOne_40 : decode cX8_likeOne 40 = .ok (.aload_n 0, 1) := by decide +kernel
theorem dX8_likeOne_41 : decode cX8_likeOne 41 = .ok (.getfield 31, 3) := by decide +kernel
theorem dX8_likeOne_44 : decode cX8_likeOne 44 = .ok (.iload 4, 2) := by decide +kernel
theorem dX8_likeOne_46 : decode cX8_likeOne 46 = .ok (.iaload, 1) := by decide +kernel
theorem dX8_likeOne_47 : decode cX8_likeOne 47 = .ok (.iload_n 1, 1) := by decide +kernel
theorem dX8_likeOne_48 : decode cX8_likeOne 48 = .ok (.invokevirtual 157, 3) := by decide +kernel
theorem dX8_likeOne_51 : decode cX8_likeOne 51 = .ok (.aload_n 0, 1) := by decide +kernel
theorem dX8_likeOne_52 : decode cX8_likeOne 52 = .ok (.aload_n 0, 1) := by decide +kernel
theorem dX8_likeOne_53 : decode cX8_likeOne 53 = .ok (.getfield 31, 3) := by decide +kernel
theorem dX8_likeOne_56 : decode cX8_likeOne 56 = .ok (.iload_n 3, 1) := by decide +kernel
theorem dX8_likeOne_57 : decode cX8_likeOne 57 = .ok (.iaload, 1) := by decide +kernel
theorem dX8_likeOne_58 : decode cX8_likeOne 58 = .ok (.iload_n 1, 1) := by decide +kernel
theorem dX8_likeOne_59 : decode cX8_likeOne 59 = .ok (.invokevirtual 157, 3) := by decide +kernel
theorem dX8_likeOne_62 : decode cX8_likeOne 62 = .ok (.if_icmp .lt 7, 3) := by decide +kernel
theorem dX8_likeOne_65 : decode cX8_likeOne 65 = .ok (.iconst 1, 1) := by decide +kernel
theorem dX8_likeOne_66 : decode cX8_likeOne 66 = .ok (.goto 4, 3) := by decide +kernel
theorem dX8_likeOne_69 : decode cX8_likeOne 69 = .ok (.iconst 0, 1) := by decide +kernel
theorem dX8_likeOne_70 : decode cX8_likeOne 70 = .ok (.istore 5, 2) := by decide +kernel
theorem dX8_likeOne_72 : decode cX8_likeOne 72 = .ok (.iload 5, 2) := by decide +kernel
theorem dX8_likeOne_74 : decode cX8_likeOne 74 = .ok (.ifCond .eq 8, 3) := by decide +kernel
theorem dX8_likeOne_77 : decode cX8_likeOne 77 = .ok (.iload 4, 2) := by decide +kernel
theorem dX8_likeOne_79 : decode cX8_likeOne 79 = .ok (.goto 4, 3) := by decide +kernel
theorem dX8_likeOne_82 : decode cX8_likeOne 82 = .ok (.iload_n 3, 1) := by decide +kernel
theorem dX8_likeOne_83 : decode cX8_likeOne 83 = .ok (.istore_n 3, 1) := by decide +kernel
theorem dX8_likeOne_84 : decode cX8_likeOne 84 = .ok (.iinc 4 1, 3) := by decide +kernel
theorem dX8_likeOne_87 : decode cX8_likeOne 87 = .ok (.goto (-82), 3) := by decide +kernel
theorem dX8_likeOne_90 : decode cX8_likeOne 90 = .ok (.iload_n 3, 1) := by decide +kernel
theorem dX8_likeOne_91 : decode cX8_likeOne 91 = .ok (.ireturn, 1) := by decide +kernel
theorem dX8_decidesMost_0 : decode cX8_decidesMost 0 = .ok (.iconst 2, 1) := by decide +kernel
theorem dX8_decidesMost_1 : decode cX8_decidesMost 1 = .ok (.iload_n 2, 1) := by decide +kernel
theorem dX8_decidesMost_2 : decode cX8_decidesMost 2 = .ok (.imul, 1) := by decide +kernel
theorem dX8_decidesMost_3 : decode cX8_decidesMost 3 = .ok (.aload_n 0, 1) := by decide +kernel
theorem dX8_decidesMost_4 : decode cX8_decidesMost 4 = .ok (.getfield 172, 3) := by decide +kernel
theorem dX8_decidesMost_7 : decode cX8_decidesMost 7 = .ok (.if_icmp .ne 25, 3) := by decide +kernel
theorem dX8_decidesMost_10 : decode cX8_decidesMost 10 = .ok (.aload_n 0, 1) := by decide +kernel
theorem dX8_decidesMost_11 : decode cX8_decidesMost 11 = .ok (.getfield 34, 3) := by decide +kernel
theorem dX8_decidesMost_14 : decode cX8_decidesMost 14 = .ok (.aload_n 0, 1) := by decide +kernel
theorem dX8_decidesMost_15 : decode cX8_decidesMost 15 = .ok (.iload_n 1, 1) := by decide +kernel
theorem dX8_decidesMost_16 : decode cX8_decidesMost 16 = .ok (.iconst 0, 1) := by decide +kernel
theorem dX8_decidesMost_17 : decode cX8_decidesMost 17 = .ok (.invokevirtual 175, 3) := by decide +kernel
theorem dX8_decidesMost_20 : decode cX8_decidesMost 20 = .ok (.baload, 1) := by decide +kernel
theorem dX8_decidesMost_21 : decode cX8_decidesMost 21 = .ok (.ifCond .eq 7, 3) := by decide +kernel
theorem dX8_decidesMost_24 : decode cX8_decidesMost 24 = .ok (.iconst 0, 1) := by decide +kernel
theorem dX8_decidesMost_25 : decode cX8_decidesMost 25 = .ok (.goto 22, 3) := by decide +kernel
theorem dX8_decidesMost_28 : decode cX8_decidesMost 28 = .ok (.iconst 1, 1) := by decide +kernel
theorem dX8_decidesMost_29 : decode cX8_decidesMost 29 = .ok (.goto 18, 3) := by decide +kernel
theorem dX8_decidesMost_32 : decode cX8_decidesMost 32 = .ok (.iconst 2, 1) := by decide +kernel
theorem dX8_decidesMost_33 : decode cX8_decidesMost 33 = .ok (.iload_n 2, 1) := by decide +kernel
theorem dX8_decidesMost_34 : decode cX8_decidesMost 34 = .ok (.imul, 1) := by decide +kernel
theorem dX8_decidesMost_35 : decode cX8_decidesMost 35 = .ok (.aload_n 0, 1) := by decide +kernel
theorem dX8_decidesMost_36 : decode cX8_decidesMost 36 = .ok (.getfield 172, 3) := by decide +kernel
theorem dX8_decidesMost_39 : decode cX8_decidesMost 39 = .ok (.if_icmp .le 7, 3) := by decide +kernel
theorem dX8_decidesMost_42 : decode cX8_decidesMost 42 = .ok (.iconst 0, 1) := by decide +kernel
theorem dX8_decidesMost_43 : decode cX8_decidesMost 43 = .ok (.goto 4, 3) := by decide +kernel
theorem dX8_decidesMost_46 : decode cX8_decidesMost 46 = .ok (.iconst 1, 1) := by decide +kernel
theorem dX8_decidesMost_47 : decode cX8_decidesMost 47 = .ok (.ireturn, 1) := by decide +kernel
theorem dX8_decidesBy_0 : decode cX8_decidesBy 0 = .ok (.aload_n 0, 1) := by decide +kernel
theorem dX8_decidesBy_1 : decode cX8_decidesBy 1 = .ok (.getfield 9, 3) := by decide +kernel
theorem dX8_decidesBy_4 : decode cX8_decidesBy 4 = .ok (.bipush 26, 2) := by decide +kernel
theorem dX8_decidesBy_6 : decode cX8_decidesBy 6 = .ok (.iload_n 1, 1) := by decide +kernel
theorem dX8_decidesBy_7 : decode cX8_decidesBy 7 = .ok (.iadd, 1) := by decide +kernel
theorem dX8_decidesBy_8 : decode cX8_decidesBy 8 = .ok (.iaload, 1) := by decide +kernel
theorem dX8_decidesBy_9 : decode cX8_decidesBy 9 = .ok (.istore_n 3, 1) := by decide +kernel
theorem dX8_decidesBy_10 : decode cX8_decidesBy 10 = .ok (.aload_n 0, 1) := by decide +kernel
theorem dX8_decidesBy_11 : decode cX8_decidesBy 11 = .ok (.getfield 9, 3) := by decide +kernel
theorem dX8_decidesBy_14 : decode cX8_decidesBy 14 = .ok (.bipush 34, 2) := by decide +kernel
theorem dX8_decidesBy_16 : decode cX8_decidesBy 16 = .ok (.iconst 4, 1) := by decide +kernel
theorem dX8_decidesBy_17 : decode cX8_decidesBy 17 = .ok (.iload_n 1, 1) := by decide +kernel
theorem dX8_decidesBy_18 : decode cX8_decidesBy 18 = .ok (.imul, 1) := by decide +kernel
theorem dX8_decidesBy_19 : decode cX8_decidesBy 19 = .ok (.iadd, 1) := by decide +kernel
theorem dX8_decidesBy_20 : decode cX8_decidesBy 20 = .ok (.iload_n 2, 1) := by decide +kernel
theorem dX8_decidesBy_21 : decode cX8_decidesBy 21 = .ok (.invokestatic 178, 3) := by decide +kernel
theorem dX8_decidesBy_24 : decode cX8_decidesBy 24 = .ok (.iconst 4, 1) := by decide +kernel
theorem dX8_decidesBy_25 : decode cX8_decidesBy 25 = .ok (.irem, 1) := by decide +kernel
theorem dX8_decidesBy_26 : decode cX8_decidesBy 26 = .ok (.iadd, 1) := by decide +kernel
theorem dX8_decidesBy_27 : decode cX8_decidesBy 27 = .ok (.iaload, 1) := by decide +kernel
theorem dX8_decidesBy_28 : decode cX8_decidesBy 28 = .ok (.istore 4, 2) := by decide +kernel
theorem dX8_decidesBy_30 : decode cX8_decidesBy 30 = .ok (.iconst 0, 1) := by decide +kernel
theorem dX8_decidesBy_31 : decode cX8_decidesBy 31 = .ok (.istore 5, 2) := by decide +kernel
theorem dX8_decidesBy_33 : decode cX8_decidesBy 33 = .ok (.aload_n 0, 1) := by decide +kernel
theorem dX8_decidesBy_34 : decode cX8_decidesBy 34 = .ok (.iconst 0, 1) := by decide +kernel
theorem dX8_decidesBy_35 : decode cX8_decidesBy 35 = .ok (.putfield 172, 3) := by decide +kernel
theorem dX8_decidesBy_38 : decode cX8_decidesBy 38 = .ok (.aload_n 0, 1) := by decide +kernel
theorem dX8_decidesBy_39 : decode cX8_decidesBy 39 = .ok (.bipush (-5), 2) := by decide +kernel
theorem dX8_decidesBy_41 : decode cX8_decidesBy 41 = .ok (.putfield 182, 3) := by decide +kernel
theorem dX8_decidesBy_44 : decode cX8_decidesBy 44 = .ok (.iconst 0, 1) := by decide +kernel
theorem dX8_decidesBy_45 : decode cX8_decidesBy 45 = .ok (.istore 6, 2) := by decide +kernel
theorem dX8_decidesBy_47 : decode cX8_decidesBy 47 = .ok (.iload 6, 2) := by decide +kernel
theorem dX8_decidesBy_49 : decode cX8_decidesBy 49 = .ok (.aload_n 0, 1) := by decide +kernel
theorem dX8_decidesBy_50 : decode cX8_decidesBy 50 = .ok (.getfield 161, 3) := by decide +kernel
theorem dX8_decidesBy_53 : decode cX8_decidesBy 53 = .ok (.if_icmp .ge 49, 3) := by decide +kernel
theorem dX8_decidesBy_56 : decode cX8_decidesBy 56 = .ok (.aload_n 0, 1) := by decide +kernel
theorem dX8_decidesBy_57 : decode cX8_decidesBy 57 = .ok (.iload 6, 2) := by decide +kernel
theorem dX8_decidesBy_59 : decode cX8_decidesBy 59 = .ok (.iload_n 2, 1) := by decide +kernel
theorem dX8_decidesBy_60 : decode cX8_decidesBy 60 = .ok (.invokevirtual 168, 3) := by decide +kernel
theorem dX8_decidesBy_63 : decode cX8_decidesBy 63 = .ok (.ifCond .eq 33, 3) := by decide +kernel
theorem dX8_decidesBy_66 : decode cX8_decidesBy 66 = .ok (.aload_n 0, 1) := by decide +kernel
theorem dX8_decidesBy_67 : decode cX8_decidesBy 67 = .ok (.dup, 1) := by decide +kernel
theorem dX8_decidesBy_68 : decode cX8_decidesBy 68 = .ok (.getfield 172, 3) := by decide +kernel
theorem dX8_decidesBy_71 : decode cX8_decidesBy 71 = .ok (.iconst 1, 1) := by decide +kernel
theorem dX8_decidesBy_72 : decode cX8_decidesBy 72 = .ok (.iadd, 1) := by decide +kernel
theorem dX8_decidesBy_73 : decode cX8_decidesBy 73 = .ok (.putfield 172, 3) := by decide +kernel
theorem dX8_decidesBy_76 : decode cX8_decidesBy 76 = .ok (.iload 5, 2) := by decide +kernel
theorem dX8_decidesBy_78 : decode cX8_decidesBy 78 = .ok (.aload_n 0, 1) := by decide +kernel
theorem dX8_decidesBy_79 : decode cX8_decidesBy 79 = .ok (.getfield 34, 3) := by decide +kernel
theorem dX8_decidesBy_82 : decode cX8_decidesBy 82 = .ok (.iload 6, 2) := by decide +kernel
theorem dX8_decidesBy_84 : decode cX8_decidesBy 84 = .ok (.baload, 1) := by decide +kernel
theorem dX8_decidesBy_85 : decode cX8_decidesBy 85 = .ok (.ifCond .eq 7, 3) := by decide +kernel
theorem dX8_decidesBy_88 : decode cX8_decidesBy 88 = .ok (.iconst 1, 1) := by decide +kernel
theorem dX8_decidesBy_89 : decode cX8_decidesBy 89 = .ok (.goto 4, 3) := by decide +kernel
theorem dX8_decidesBy_92 : decode cX8_decidesBy 92 = .ok (.iconst 0, 1) := by decide +kernel
theorem dX8_decidesBy_93 : decode cX8_decidesBy 93 = .ok (.iadd, 1) := by decide +kernel
theorem dX8_decidesBy_94 : decode cX8_decidesBy 94 = .ok (.istore 5, 2) := by decide +kernel
theorem dX8_decidesBy_96 : decode cX8_decidesBy 96 = .ok (.iinc 6 1, 3) := by decide +kernel
theorem dX8_decidesBy_99 : decode cX8_decidesBy 99 = .ok (.goto (-52), 3) := by decide +kernel
theorem dX8_decidesBy_102 : decode cX8_decidesBy 102 = .ok (.iload_n 3, 1) := by decide +kernel
theorem dX8_decidesBy_103 : decode cX8_decidesBy 103 = .ok (.bipush 6, 2) := by decide +kernel
theorem dX8_decidesBy_105 : decode cX8_decidesBy 105 = .ok (.if_icmp .ne 20, 3) := by decide +kernel
theorem dX8_decidesBy_108 : decode cX8_decidesBy 108 = .ok (.iload 4, 2) := by decide +kernel
theorem dX8_decidesBy_110 : decode cX8_decidesBy 110 = .ok (.ifCond .le 15, 3) := by decide +kernel
theorem dX8_decidesBy_113 : decode cX8_decidesBy 113 = .ok (.iload 4, 2) := by decide +kernel
theorem dX8_decidesBy_115 : decode cX8_decidesBy 115 = .ok (.iconst 1, 1) := by decide +kernel
theorem dX8_decidesBy_116 : decode cX8_decidesBy 116 = .ok (.if_icmp .ne 7, 3) := by decide +kernel
theorem dX8_decidesBy_119 : decode cX8_decidesBy 119 = .ok (.iconst 1, 1) := by decide +kernel
theorem dX8_decidesBy_120 : decode cX8_decidesBy 120 = .ok (.goto 4, 3) := by decide +kernel
theorem dX8_decidesBy_123 : decode cX8_decidesBy 123 = .ok (.iconst 0, 1) := by decide +kernel
theorem dX8_decidesBy_124 : decode cX8_decidesBy 124 = .ok (.ireturn, 1) := by decide +kernel
theorem dX8_decidesBy_125 : decode cX8_decidesBy 125 = .ok (.aload_n 0, 1) := by decide +kernel
theorem dX8_decidesBy_126 : decode cX8_decidesBy 126 = .ok (.getfield 172, 3) := by decide +kernel
theorem dX8_decidesBy_129 : decode cX8_decidesBy 129 = .ok (.ifCond .ne 5, 3) := by decide +kernel
theorem dX8_decidesBy_132 : decode cX8_decidesBy 132 = .ok (.iconst 2, 1) := by decide +kernel
theorem dX8_decidesBy_133 : decode cX8_decidesBy 133 = .ok (.ireturn, 1) := by decide +kernel
theorem dX8_decidesBy_134 : decode cX8_decidesBy 134 = .ok (.iload_n 3, 1) := by decide +kernel
theorem dX8_decidesBy_135 : decode cX8_decidesBy 135 = .ok (.iconst 3, 1) := by decide +kernel
theorem dX8_decidesBy_136 : decode cX8_decidesBy 136 = .ok (.if_icmp .eq 9, 3) := by decide +kernel
theorem dX8_decidesBy_139 : decode cX8_decidesBy 139 = .ok (.iload_n 3, 1) := by decide +kernel
theorem dX8_decidesBy_140 : decode cX8_decidesBy 140 = .ok (.bipush 6, 2) := by decide +kernel
theorem dX8_decidesBy_142 : decode cX8_decidesBy 142 = .ok (.if_icmp .ne 11, 3) := by decide +kernel
theorem dX8_decidesBy_145 : decode cX8_decidesBy 145 = .ok (.aload_n 0, 1) := by decide +kernel
theorem dX8_decidesBy_146 : decode cX8_decidesBy 146 = .ok (.iload_n 2, 1) := by decide +kernel
theorem dX8_decidesBy_147 : decode cX8_decidesBy 147 = .ok (.iload 5, 2) := by decide +kernel
theorem dX8_decidesBy_149 : decode cX8_decidesBy 149 = .ok (.invokevirtual 185, 3) := by decide +kernel
theorem dX8_decidesBy_152 : decode cX8_decidesBy 152 = .ok (.ireturn, 1) := by decide +kernel
theorem dX8_decidesBy_153 : decode cX8_decidesBy 153 = .ok (.iload_n 3, 1) := by decide +kernel
theorem dX8_decidesBy_154 : decode cX8_decidesBy 154 = .ok (.iconst 4, 1) := by decide +kernel
theorem dX8_decidesBy_155 : decode cX8_decidesBy 155 = .ok (.if_icmp .ne 36, 3) := by decide +kernel
theorem dX8_decidesBy_158 : decode cX8_decidesBy 158 = .ok (.iload 5, 2) := by decide +kernel
theorem dX8_decidesBy_160 : decode cX8_decidesBy 160 = .ok (.ifCond .le 31, 3) := by decide +kernel
theorem dX8_decidesBy_163 : decode cX8_decidesBy 163 = .ok (.iload 5, 2) := by decide +kernel
theorem dX8_decidesBy_165 : decode cX8_decidesBy 165 = .ok (.aload_n 0, 1) := by decide +kernel
theorem dX8_decidesBy_166 : decode cX8_decidesBy 166 = .ok (.getfield 172, 3) := by decide +kernel
theorem dX8_decidesBy_169 : decode cX8_decidesBy 169 = .ok (.if_icmp .ge 22, 3) := by decide +kernel
theorem dX8_decidesBy_172 : decode cX8_decidesBy 172 = .ok (.aload_n 0, 1) := by decide +kernel
theorem dX8_decidesBy_173 : decode cX8_decidesBy 173 = .ok (.getfield 9, 3) := by decide +kernel
theorem dX8_decidesBy_176 : decode cX8_decidesBy 176 = .ok (.bipush 30, 2) := by decide +kernel
theorem dX8_decidesBy_178 : decode cX8_decidesBy 178 = .ok (.iload_n 1, 1) := by decide +kernel
theorem dX8_decidesBy_179 : decode cX8_decidesBy 179 = .ok (.iadd, 1) := by decide +kernel
theorem dX8_decidesBy_180 : decode cX8_decidesBy 180 = .ok (.iaload, 1) := by decide +kernel
theorem dX8_decidesBy_181 : decode cX8_decidesBy 181 = .ok (.iconst 4, 1) := by decide +kernel
theorem dX8_decidesBy_182 : decode cX8_decidesBy 182 = .ok (.if_icmp .le 7, 3) := by decide +kernel
theorem dX8_decidesBy_185 : decode cX8_decidesBy 185 = .ok (.iconst 1, 1) := by decide +kernel
theorem dX8_decidesBy_186 : decode cX8_decidesBy 186 = .ok (.goto 4, 3) := by decide +kernel
theorem dX8_decidesBy_189 : decode cX8_decidesBy 189 = .ok (.iconst 0, 1) := by decide +kernel
theorem dX8_decidesBy_190 : decode cX8_decidesBy 190 = .ok (.ireturn, 1) := by decide +kernel
theorem dX8_decidesBy_191 : decode cX8_decidesBy 191 = .ok (.aload_n 0, 1) := by decide +kernel
theorem dX8_decidesBy_192 : decode cX8_decidesBy 192 = .ok (.aload_n 0, 1) := by decide +kernel
theorem dX8_decidesBy_193 : decode cX8_decidesBy 193 = .ok (.iload_n 2, 1) := by decide +kernel
theorem dX8_decidesBy_194 : decode cX8_decidesBy 194 = .ok (.iload_n 3, 1) := by decide +kernel
theorem dX8_decidesBy_195 : decode cX8_decidesBy 195 = .ok (.iconst 1, 1) := by decide +kernel
theorem dX8_decidesBy_196 : decode cX8_decidesBy 196 = .ok (.if_icmp .eq 8, 3) := by decide +kernel
theorem dX8_decidesBy_199 : decode cX8_decidesBy 199 = .ok (.iload_n 3, 1) := by decide +kernel
theorem dX8_decidesBy_200 : decode cX8_decidesBy 200 = .ok (.iconst 4, 1) := by decide +kernel
theorem dX8_decidesBy_201 : decode cX8_decidesBy 201 = .ok (.if_icmp .ne 7, 3) := by decide +kernel
theorem dX8_decidesBy_204 : decode cX8_decidesBy 204 = .ok (.iconst 1, 1) := by decide +kernel
theorem dX8_decidesBy_205 : decode cX8_decidesBy 205 = .ok (.goto 18, 3) := by decide +kernel
theorem dX8_decidesBy_208 : decode cX8_decidesBy 208 = .ok (.iload_n 3, 1) := by decide +kernel
theorem dX8_decidesBy_209 : decode cX8_decidesBy 209 = .ok (.iconst 2, 1) := by decide +kernel
theorem dX8_decidesBy_210 : decode cX8_decidesBy 210 = .ok (.if_icmp .eq 8, 3) := by decide +kernel
theorem dX8_decidesBy_213 : decode cX8_decidesBy 213 = .ok (.iload_n 3, 1) := by decide +kernel
theorem dX8_decidesBy_214 : decode cX8_decidesBy 214 = .ok (.iconst 5, 1) := by decide +kernel
theorem dX8_decidesBy_215 : decode cX8_decidesBy 215 = .ok (.if_icmp .ne 7, 3) := by decide +kernel
theorem dX8_decidesBy_218 : decode cX8_decidesBy 218 = .ok (.iconst 2, 1) := by decide +kernel
theorem dX8_decidesBy_219 : decode cX8_decidesBy 219 = .ok (.goto 4, 3) := by decide +kernel
theorem dX8_decidesBy_222 : decode cX8_decidesBy 222 = .ok (.iconst 0, 1) := by decide +kernel
theorem dX8_decidesBy_223 : decode cX8_decidesBy 223 = .ok (.invokevirtual 175, 3) := by decide +kernel
theorem dX8_decidesBy_226 : decode cX8_decidesBy 226 = .ok (.putfield 182, 3) := by decide +kernel
theorem dX8_decidesBy_229 : decode cX8_decidesBy 229 = .ok (.aload_n 0, 1) := by decide +kernel
theorem dX8_decidesBy_230 : decode cX8_decidesBy 230 = .ok (.getfield 34, 3) := by decide +kernel
theorem dX8_decidesBy_233 : decode cX8_decidesBy 233 = .ok (.aload_n 0, 1) := by decide +kernel
theorem dX8_decidesBy_234 : decode cX8_decidesBy 234 = .ok (.getfield 182, 3) := by decide +kernel
theorem dX8_decidesBy_237 : decode cX8_decidesBy 237 = .ok (.baload, 1) := by decide +kernel
theorem dX8_decidesBy_238 : decode cX8_decidesBy 238 = .ok (.ifCond .eq 7, 3) := by decide +kernel
theorem dX8_decidesBy_241 : decode cX8_decidesBy 241 = .ok (.iconst 0, 1) := by decide +kernel
theorem dX8_decidesBy_242 : decode cX8_decidesBy 242 = .ok (.goto 4, 3) := by decide +kernel
theorem dX8_decidesBy_245 : decode cX8_decidesBy 245 = .ok (.iconst 1, 1) := by decide +kernel
theorem dX8_decidesBy_246 : decode cX8_decidesBy 246 = .ok (.ireturn, 1) := by decide +kernel
theorem dX8_isForIt_0 : decode cX8_isForIt 0 = .ok (.aload_n 0, 1) := by decide +kernel
theorem dX8_isForIt_1 : decode cX8_isForIt 1 = .ok (.iload_n 1, 1) := by decide +kernel
theorem dX8_isForIt_2 : decode cX8_isForIt 2 = .ok (.iload_n 2, 1) := by decide +kernel
theorem dX8_isForIt_3 : decode cX8_isForIt 3 = .ok (.invokevirtual 188, 3) := by decide +kernel
theorem dX8_isForIt_6 : decode cX8_isForIt 6 = .ok (.istore_n 3, 1) := by decide +kernel
theorem dX8_isForIt_7 : decode cX8_isForIt 7 = .ok (.iload_n 3, 1) := by decide +kernel
theorem dX8_isForIt_8 : decode cX8_isForIt 8 = .ok (.iconst 2, 1) := by decide +kernel
theorem dX8_isForIt_9 : decode cX8_isForIt 9 = .ok (.if_icmp .ne 26, 3) := by decide +kernel
theorem dX8_isForIt_12 : decode cX8_isForIt 12 = .ok (.aload_n 0, 1) := by decide +kernel
theorem dX8_isForIt_13 : decode cX8_isForIt 13 = .ok (.getfield 9, 3) := by decide +kernel
theorem dX8_isForIt_16 : decode cX8_isForIt 16 = .ok (.bipush 30, 2) := by decide +kernel
theorem dX8_isForIt_18 : decode cX8_isForIt 18 = .ok (.iload_n 1, 1) := by decide +kernel
theorem dX8_isForIt_19 : decode cX8_isForIt 19 = .ok (.iadd, 1) := by decide +kernel
theorem dX8_isForIt_20 : decode cX8_isForIt 20 = .ok (.iaload, 1) := by decide +kernel
theorem dX8_isForIt_21 : decode cX8_isForIt 21 = .ok (.iconst 2, 1) := by decide +kernel
theorem dX8_isForIt_22 : decode cX8_isForIt 22 = .ok (.irem, 1) := by decide +kernel
theorem dX8_isForIt_23 : decode cX8_isForIt 23 = .ok (.iconst 1, 1) := by decide +kernel
theorem dX8_isForIt_24 : decode cX8_isForIt 24 = .ok (.if_icmp .ne 7, 3) := by decide +kernel
theorem dX8_isForIt_27 : decode cX8_isForIt 27 = .ok (.iconst 1, 1) := by decide +kernel
theorem dX8_isForIt_28 : decode cX8_isForIt 28 = .ok (.goto 17, 3) := by decide +kernel
theorem dX8_isForIt_31 : decode cX8_isForIt 31 = .ok (.iconst 0, 1) := by decide +kernel
theorem dX8_isForIt_32 : decode cX8_isForIt 32 = .ok (.goto 13, 3) := by decide +kernel
theorem dX8_isForIt_35 : decode cX8_isForIt 35 = .ok (.iload_n 3, 1) := by decide +kernel
theorem dX8_isForIt_36 : decode cX8_isForIt 36 = .ok (.iconst 1, 1) := by decide +kernel
theorem dX8_isForIt_37 : decode cX8_isForIt 37 = .ok (.if_icmp .ne 7, 3) := by decide +kernel
theorem dX8_isForIt_40 : decode cX8_isForIt 40 = .ok (.iconst 1, 1) := by decide +kernel
theorem dX8_isForIt_41 : decode cX8_isForIt 41 = .ok (.goto 4, 3) := by decide +kernel
theorem dX8_isForIt_44 : decode cX8_isForIt 44 = .ok (.iconst 0, 1) := by decide +kernel
theorem dX8_isForIt_45 : decode cX8_isForIt 45 = .ok (.ireturn, 1) := by decide +kernel
theorem dX8_hears_0 : decode cX8_hears 0 = .ok (.aload_n 0, 1) := by decide +kernel
theorem dX8_hears_1 : decode cX8_hears 1 = .ok (.iload_n 1, 1) := by decide +kernel
theorem dX8_hears_2 : decode cX8_hears 2 = .ok (.iload_n 2, 1) := by decide +kernel
theorem dX8_hears_3 : decode cX8_hears 3 = .ok (.invokevirtual 191, 3) := by decide +kernel
theorem dX8_hears_6 : decode cX8_hears 6 = .ok (.istore_n 3, 1) := by decide +kernel
theorem dX8_hears_7 : decode cX8_hears 7 = .ok (.aload_n 0, 1) := by decide +kernel
theorem dX8_hears_8 : decode cX8_hears 8 = .ok (.iload_n 2, 1) := by decide +kernel
theorem dX8_hears_9 : decode cX8_hears 9 = .ok (.iload_n 3, 1) := by decide +kernel
theorem dX8_hears_10 : decode cX8_hears 10 = .ok (.invokevirtual 164, 3) := by decide +kernel
theorem dX8_hears_13 : decode cX8_hears 13 = .ok (.iload_n 3, 1) := by decide +kernel
theorem dX8_hears_14 : decode cX8_hears 14 = .ok (.ireturn, 1) := by decide +kernel
theorem dX8_decides_0 : decode cX8_decides 0 = .ok (.aload_n 0, 1) := by decide +kernel
theorem dX8_decides_1 : decode cX8_decides 1 = .ok (.iload_n 1, 1) := by decide +kernel
theorem dX8_decides_2 : decode cX8_decides 2 = .ok (.invokevirtual 137, 3) := by decide +kernel
theorem dX8_decides_5 : decode cX8_decides 5 = .ok (.ifCond .eq 20, 3) := by decide +kernel
theorem dX8_decides_8 : decode cX8_decides 8 = .ok (.aload_n 0, 1) := by decide +kernel
theorem dX8_decides_9 : decode cX8_decides 9 = .ok (.iload_n 2, 1) := by decide +kernel
theorem dX8_decides_10 : decode cX8_decides 10 = .ok (.invokevirtual 133, 3) := by decide +kernel
theorem dX8_decides_13 : decode cX8_decides 13 = .ok (.ifCond .eq 12, 3) := by decide +kernel
theorem dX8_decides_16 : decode cX8_decides 16 = .ok (.iload_n 3, 1) := by decide +kernel
theorem dX8_decides_17 : decode cX8_decides 17 = .ok (.iconst 0, 1) := by decide +kernel
theorem dX8_decides_18 : decode cX8_decides 18 = .ok (.iconst 2, 1) := by decide +kernel
theorem dX8_decides_19 : decode cX8_decides 19 = .ok (.invokestatic 53, 3) := by decide +kernel
theorem dX8_decides_22 : decode cX8_decides 22 = .ok (.ifCond .ne 5, 3) := by decide +kernel
theorem dX8_decides_25 : decode cX8_decides 25 = .ok (.iconst (-1), 1) := by decide +kernel
theorem dX8_decides_26 : decode cX8_decides 26 = .ok (.ireturn, 1) := by decide +kernel
theorem dX8_decides_27 : decode cX8_decides 27 = .ok (.aload_n 0, 1) := by decide +kernel
theorem dX8_decides_28 : decode cX8_decides 28 = .ok (.iload_n 1, 1) := by decide +kernel
theorem dX8_decides_29 : decode cX8_decides 29 = .ok (.invokevirtual 154, 3) := by decide +kernel
theorem dX8_decides_32 : decode cX8_decides 32 = .ok (.aload_n 0, 1) := by decide +kernel
theorem dX8_decides_33 : decode cX8_decides 33 = .ok (.invokevirtual 194, 3) := by decide +kernel
theorem dX8_decides_36 : decode cX8_decides 36 = .ok (.aload_n 0, 1) := by decide +kernel
theorem dX8_decides_37 : decode cX8_decides 37 = .ok (.iload_n 1, 1) := by decide +kernel
theorem dX8_decides_38 : decode cX8_decides 38 = .ok (.aload_n 0, 1) := by decide +kernel
theorem dX8_decides_39 : decode cX8_decides 39 = .ok (.getfield 9, 3) := by decide +kernel
theorem dX8_decides_42 : decode cX8_decides 42 = .ok (.bipush 10, 2) := by decide +kernel
theorem dX8_decides_44 : decode cX8_decides 44 = .ok (.iload_n 2, 1) := by decide +kernel
theorem dX8_decides_45 : decode cX8_decides 45 = .ok (.iadd, 1) := by decide +kernel
theorem dX8_decides_46 : decode cX8_decides 46 = .ok (.iaload, 1) := by decide +kernel
theorem dX8_decides_47 : decode cX8_decides 47 = .ok (.invokevirtual 191, 3) := by decide +kernel
theorem dX8_decides_50 : decode cX8_decides 50 = .ok (.istore 4, 2) := by decide +kernel
theorem dX8_decides_52 : decode cX8_decides 52 = .ok (.iload_n 3, 1) := by decide +kernel
theorem dX8_decides_53 : decode cX8_decides 53 = .ok (.ifCond .ne 16, 3) := by decide +kernel
theorem dX8_decides_56 : decode cX8_decides 56 = .ok (.iload 4, 2) := by decide +kernel
theorem dX8_decides_58 : decode cX8_decides 58 = .ok (.ifCond .eq 7, 3) := by decide +kernel
theorem dX8_decides_61 : decode cX8_decides 61 = .ok (.iconst 1, 1) := by decide +kernel
theorem dX8_decides_62 : decode cX8_decides 62 = .ok (.goto 23, 3) := by decide +kernel
theorem dX8_decides_65 : decode cX8_decides 65 = .ok (.iconst 0, 1) := by decide +kernel
theorem dX8_decides_66 : decode cX8_decides 66 = .ok (.goto 19, 3) := by decide +kernel
theorem dX8_decides_69 : decode cX8_decides 69 = .ok (.iload_n 3, 1) := by decide +kernel
theorem dX8_decides_70 : decode cX8_decides 70 = .ok (.iconst 1, 1) := by decide +kernel
theorem dX8_decides_71 : decode cX8_decides 71 = .ok (.if_icmp .ne 10, 3) := by decide +kernel
theorem dX8_decides_74 : decode cX8_decides 74 = .ok (.aload_n 0, 1) := by decide +kernel
theorem dX8_decides_75 : decode cX8_decides 75 = .ok (.getfield 182, 3) := by decide +kernel
theorem dX8_decides_78 : decode cX8_decides 78 = .ok (.goto 7, 3) := by decide +kernel
theorem dX8_decides_81 : decode cX8_decides 81 = .ok (.aload_n 0, 1) := by decide +kernel
theorem dX8_decides_82 : decode cX8_decides 82 = .ok (.getfield 172, 3) := by decide +kernel
theorem dX8_decides_85 : decode cX8_decides 85 = .ok (.ireturn, 1) := by decide +kernel
theorem dX8_enters_0 : decode cX8_enters 0 = .ok (.aload_n 0, 1) := by decide +kernel
theorem dX8_enters_1 : decode cX8_enters 1 = .ok (.getfield 9, 3) := by decide +kernel
theorem dX8_enters_4 : decode cX8_enters 4 = .ok (.bipush 50, 2) := by decide +kernel
theorem dX8_enters_6 : decode cX8_enters 6 = .ok (.aload_n 0, 1) := by decide +kernel
theorem dX8_enters_7 : decode cX8_enters 7 = .ok (.getfield 9, 3) := by decide +kernel
theorem dX8_enters_10 : decode cX8_enters 10 = .ok (.iconst 3, 1) := by decide +kernel
theorem dX8_enters_11 : decode cX8_enters 11 = .ok (.iaload, 1) := by decide +kernel
theorem dX8_enters_12 : decode cX8_enters 12 = .ok (.iadd, 1) := by decide +kernel
theorem dX8_enters_13 : decode cX8_enters 13 = .ok (.iload_n 1, 1) := by decide +kernel
theorem dX8_enters_14 : decode cX8_enters 14 = .ok (.iastore, 1) := by decide +kernel
theorem dX8_enters_15 : decode cX8_enters 15 = .ok (.aload_n 0, 1) := by decide +kernel
theorem dX8_enters_16 : decode cX8_enters 16 = .ok (.getfield 9, 3) := by decide +kernel
theorem dX8_enters_19 : decode cX8_enters 19 = .ok (.bipush 74, 2) := by decide +kernel
theorem dX8_enters_21 : decode cX8_enters 21 = .ok (.aload_n 0, 1) := by decide +kernel
theorem dX8_enters_22 : decode cX8_enters 22 = .ok (.getfield 9, 3) := by decide +kernel
theorem dX8_enters_25 : decode cX8_enters 25 = .ok (.iconst 3, 1) := by decide +kernel
theorem dX8_enters_26 : decode cX8_enters 26 = .ok (.iaload, 1) := by decide +kernel
theorem dX8_enters_27 : decode cX8_enters 27 = .ok (.iadd, 1) := by decide +kernel
theorem dX8_enters_28 : decode cX8_enters 28 = .ok (.iload_n 2, 1) := by decide +kernel
theorem dX8_enters_29 : decode cX8_enters 29 = .ok (.ifCond .eq 7, 3) := by decide +kernel
theorem dX8_enters_32 : decode cX8_enters 32 = .ok (.iconst 1, 1) := by decide +kernel
theorem dX8_enters_33 : decode cX8_enters 33 = .ok (.goto 4, 3) := by decide +kernel
theorem dX8_enters_36 : decode cX8_enters 36 = .ok (.iconst 0, 1) := by decide +kernel
theorem dX8_enters_37 : decode cX8_enters 37 = .ok (.iastore, 1) := by decide +kernel
theorem dX8_enters_38 : decode cX8_enters 38 = .ok (.aload_n 0, 1) := by decide +kernel
theorem dX8_enters_39 : decode cX8_enters 39 = .ok (.getfield 9, 3) := by decide +kernel
theorem dX8_enters_42 : decode cX8_enters 42 = .ok (.iconst 3, 1) := by decide +kernel
theorem dX8_enters_43 : decode cX8_enters 43 = .ok (.dup2, 1) := by decide +kernel
theorem dX8_enters_44 : decode cX8_enters 44 = .ok (.iaload, 1) := by decide +kernel
theorem dX8_enters_45 : decode cX8_enters 45 = .ok (.iconst 1, 1) := by decide +kernel
theorem dX8_enters_46 : decode cX8_enters 46 = .ok (.iadd, 1) := by decide +kernel
theorem dX8_enters_47 : decode cX8_enters 47 = .ok (.iastore, 1) := by decide +kernel
theorem dX8_enters_48 : decode cX8_enters 48 = .ok (.aload_n 0, 1) := by decide +kernel
theorem dX8_enters_49 : decode cX8_enters 49 = .ok (.getfield 9, 3) := by decide +kernel
theorem dX8_enters_52 : decode cX8_enters 52 = .ok (.iconst 3, 1) := by decide +kernel
theorem dX8_enters_53 : decode cX8_enters 53 = .ok (.iaload, 1) := by decide +kernel
theorem dX8_enters_54 : decode cX8_enters 54 = .ok (.ireturn, 1) := by decide +kernel
theorem dX8_hear_0 : decode cX8_hear 0 = .ok (.aload_n 0, 1) := by decide +kernel
theorem dX8_hear_1 : decode cX8_hear 1 = .ok (.iload_n 1, 1) := by decide +kernel
theorem dX8_hear_2 : decode cX8_hear 2 = .ok (.invokevirtual 137, 3) := by decide +kernel
theorem dX8_hear_5 : decode cX8_hear 5 = .ok (.ifCond .eq 11, 3) := by decide +kernel
theorem dX8_hear_8 : decode cX8_hear 8 = .ok (.aload_n 0, 1) := by decide +kernel
theorem dX8_hear_9 : decode cX8_hear 9 = .ok (.iload_n 2, 1) := by decide +kernel
theorem dX8_hear_10 : decode cX8_hear 10 = .ok (.invokevirtual 133, 3) := by decide +kernel
theorem dX8_hear_13 : decode cX8_hear 13 = .ok (.ifCond .ne 5, 3) := by decide +kernel
theorem dX8_hear_16 : decode cX8_hear 16 = .ok (.iconst (-1), 1) := by decide +kernel
theorem dX8_hear_17 : decode cX8_hear 17 = .ok (.ireturn, 1) := by decide +kernel
theorem dX8_hear_18 : decode cX8_hear 18 = .ok (.aload_n 0, 1) := by decide +kernel
theorem dX8_hear_19 : decode cX8_hear 19 = .ok (.getfield 9, 3) := by decide +kernel
theorem dX8_hear_22 : decode cX8_hear 22 = .ok (.iconst 3, 1) := by decide +kernel
theorem dX8_hear_23 : decode cX8_hear 23 = .ok (.iaload, 1) := by decide +kernel
theorem dX8_hear_24 : decode cX8_hear 24 = .ok (.bipush 24, 2) := by decide +kernel
theorem dX8_hear_26 : decode cX8_hear 26 = .ok (.if_icmp .ne 6, 3) := by decide +kernel
theorem dX8_hear_29 : decode cX8_hear 29 = .ok (.bipush (-4), 2) := by decide +kernel
theorem dX8_hear_31 : decode cX8_hear 31 = .ok (.ireturn, 1) := by decide +kernel
theorem dX8_hear_32 : decode cX8_hear 32 = .ok (.aload_n 0, 1) := by decide +kernel
theorem dX8_hear_33 : decode cX8_hear 33 = .ok (.iload_n 1, 1) := by decide +kernel
theorem dX8_hear_34 : decode cX8_hear 34 = .ok (.invokevirtual 154, 3) := by decide +kernel
theorem dX8_hear_37 : decode cX8_hear 37 = .ok (.aload_n 0, 1) := by decide +kernel
theorem dX8_hear_38 : decode cX8_hear 38 = .ok (.invokevirtual 194, 3) := by decide +kernel
theorem dX8_hear_41 : decode cX8_hear 41 = .ok (.aload_n 0, 1) := by decide +kernel
theorem dX8_hear_42 : decode cX8_hear 42 = .ok (.iload_n 1, 1) := by decide +kernel
theorem dX8_hear_43 : decode cX8_hear 43 = .ok (.aload_n 0, 1) := by decide +kernel
theorem dX8_hear_44 : decode cX8_hear 44 = .ok (.getfield 9, 3) := by decide +kernel
theorem dX8_hear_47 : decode cX8_hear 47 = .ok (.bipush 10, 2) := by decide +kernel
theorem dX8_hear_49 : decode cX8_hear 49 = .ok (.iload_n 2, 1) := by decide +kernel
theorem dX8_hear_50 : decode cX8_hear 50 = .ok (.iadd, 1) := by decide +kernel
theorem dX8_hear_51 : decode cX8_hear 51 = .ok (.iaload, 1) := by decide +kernel
theorem dX8_hear_52 : decode cX8_hear 52 = .ok (.invokevirtual 191, 3) := by decide +kernel
theorem dX8_hear_55 : decode cX8_hear 55 = .ok (.istore_n 3, 1) := by decide +kernel
theorem dX8_hear_56 : decode cX8_hear 56 = .ok (.aload_n 0, 1) := by decide +kernel
theorem dX8_hear_57 : decode cX8_hear 57 = .ok (.iload_n 2, 1) := by decide +kernel
theorem dX8_hear_58 : decode cX8_hear 58 = .ok (.iload_n 3, 1) := by decide +kernel
theorem dX8_hear_59 : decode cX8_hear 59 = .ok (.invokevirtual 197, 3) := by decide +kernel
theorem dX8_hear_62 : decode cX8_hear 62 = .ok (.pop, 1) := by decide +kernel
theorem dX8_hear_63 : decode cX8_hear 63 = .ok (.iload_n 3, 1) := by decide +kernel
theorem dX8_hear_64 : decode cX8_hear 64 = .ok (.ifCond .eq 7, 3) := by decide +kernel
theorem dX8_hear_67 : decode cX8_hear 67 = .ok (.iconst 1, 1) := by decide +kernel
theorem dX8_hear_68 : decode cX8_hear 68 = .ok (.goto 4, 3) := by decide +kernel
theorem dX8_hear_71 : decode cX8_hear 71 = .ok (.iconst 0, 1) := by decide +kernel
theorem dX8_hear_72 : decode cX8_hear 72 = .ok (.ireturn, 1) := by decide +kernel
theorem dX8_enter_0 : decode cX8_enter 0 = .ok (.iload_n 1, 1) := by decide +kernel
theorem dX8_enter_1 : decode cX8_enter 1 = .ok (.iconst (-1), 1) := by decide +kernel
theorem dX8_enter_2 : decode cX8_enter 2 = .ok (.if_icmp .ne 12, 3) := by decide +kernel
theorem dX8_enter_5 : decode cX8_enter 5 = .ok (.aload_n 0, 1) := by decide +kernel
theorem dX8_enter_6 : decode cX8_enter 6 = .ok (.getfield 9, 3) := by decide +kernel
theorem dX8_enter_9 : decode cX8_enter 9 = .ok (.iconst 3, 1) := by decide +kernel
theorem dX8_enter_10 : decode cX8_enter 10 = .ok (.iconst 0, 1) := by decide +kernel
theorem dX8_enter_11 : decode cX8_enter 11 = .ok (.iastore, 1) := by decide +kernel
theorem dX8_enter_12 : decode cX8_enter 12 = .ok (.iconst 0, 1) := by decide +kernel
theorem dX8_enter_13 : decode cX8_enter 13 = .ok (.ireturn, 1) := by decide +kernel
theorem dX8_enter_14 : decode cX8_enter 14 = .ok (.aload_n 0, 1) := by decide +kernel
theorem dX8_enter_15 : decode cX8_enter 15 = .ok (.iload_n 1, 1) := by decide +kernel
theorem dX8_enter_16 : decode cX8_enter 16 = .ok (.invokevirtual 133, 3) := by decide +kernel
theorem dX8_enter_19 : decode cX8_enter 19 = .ok (.ifCond .ne 5, 3) := by decide +kernel
theorem dX8_enter_22 : decode cX8_enter 22 = .ok (.iconst (-1), 1) := by decide +kernel
theorem dX8_enter_23 : decode cX8_enter 23 = .ok (.ireturn, 1) := by decide +kernel
theorem dX8_enter_24 : decode cX8_enter 24 = .ok (.aload_n 0, 1) := by decide +kernel
theorem dX8_enter_25 : decode cX8_enter 25 = .ok (.getfield 9, 3) := by decide +kernel
theorem dX8_enter_28 : decode cX8_enter 28 = .ok (.iconst 3, 1) := by decide +kernel
theorem dX8_enter_29 : decode cX8_enter 29 = .ok (.iaload, 1) := by decide +kernel
theorem dX8_enter_30 : decode cX8_enter 30 = .ok (.bipush 24, 2) := by decide +kernel
theorem dX8_enter_32 : decode cX8_enter 32 = .ok (.if_icmp .ne 8, 3) := by decide +kernel
theorem dX8_enter_35 : decode cX8_enter 35 = .ok (.bipush (-4), 2) := by decide +kernel
theorem dX8_enter_37 : decode cX8_enter 37 = .ok (.goto 9, 3) := by decide +kernel
theorem dX8_enter_40 : decode cX8_enter 40 = .ok (.aload_n 0, 1) := by decide +kernel
theorem dX8_enter_41 : decode cX8_enter 41 = .ok (.iload_n 1, 1) := by decide +kernel
theorem dX8_enter_42 : decode cX8_enter 42 = .ok (.iload_n 2, 1) := by decide +kernel
theorem dX8_enter_43 : decode cX8_enter 43 = .ok (.invokevirtual 197, 3) := by decide +kernel
theorem dX8_enter_46 : decode cX8_enter 46 = .ok (.ireturn, 1) := by decide +kernel
theorem dX8_entry_0 : decode cX8_entry 0 = .ok (.iload_n 1, 1) := by decide +kernel
theorem dX8_entry_1 : decode cX8_entry 1 = .ok (.iconst 0, 1) := by decide +kernel
theorem dX8_entry_2 : decode cX8_entry 2 = .ok (.aload_n 0, 1) := by decide +kernel
theorem dX8_entry_3 : decode cX8_entry 3 = .ok (.getfield 9, 3) := by decide +kernel
theorem dX8_entry_6 : decode cX8_entry 6 = .ok (.iconst 3, 1) := by decide +kernel
theorem dX8_entry_7 : decode cX8_entry 7 = .ok (.iaload, 1) := by decide +kernel
theorem dX8_entry_8 : decode cX8_entry 8 = .ok (.iconst 1, 1) := by decide +kernel
theorem dX8_entry_9 : decode cX8_entry 9 = .ok (.isub, 1) := by decide +kernel
theorem dX8_entry_10 : decode cX8_entry 10 = .ok (.invokestatic 53, 3) := by decide +kernel
theorem dX8_entry_13 : decode cX8_entry 13 = .ok (.ifCond .eq 27, 3) := by decide +kernel
theorem dX8_entry_16 : decode cX8_entry 16 = .ok (.iconst 2, 1) := by decide +kernel
theorem dX8_entry_17 : decode cX8_entry 17 = .ok (.aload_n 0, 1) := by decide +kernel
theorem dX8_entry_18 : decode cX8_entry 18 = .ok (.getfield 9, 3) := by decide +kernel
theorem dX8_entry_21 : decode cX8_entry 21 = .ok (.bipush 50, 2) := by decide +kernel
theorem dX8_entry_23 : decode cX8_entry 23 = .ok (.iload_n 1, 1) := by decide +kernel
theorem dX8_entry_24 : decode cX8_entry 24 = .ok (.iadd, 1) := by decide +kernel
theorem dX8_entry_25 : decode cX8_entry 25 = .ok (.iaload, 1) := by decide +kernel
theorem dX8_entry_26 : decode cX8_entry 26 = .ok (.imul, 1) := by decide +kernel
theorem dX8_entry_27 : decode cX8_entry 27 = .ok (.aload_n 0, 1) := by decide +kernel
theorem dX8_entry_28 : decode cX8_entry 28 = .ok (.getfield 9, 3) := by decide +kernel
theorem dX8_entry_31 : decode cX8_entry 31 = .ok (.bipush 74, 2) := by decide +kernel
theorem dX8_entry_33 : decode cX8_entry 33 = .ok (.iload_n 1, 1) := by decide +kernel
theorem dX8_entry_34 : decode cX8_entry 34 = .ok (.iadd, 1) := by decide +kernel
theorem dX8_entry_35 : decode cX8_entry 35 = .ok (.iaload, 1) := by decide +kernel
theorem dX8_entry_36 : decode cX8_entry 36 = .ok (.iadd, 1) := by decide +kernel
theorem dX8_entry_37 : decode cX8_entry 37 = .ok (.goto 4, 3) := by decide +kernel
theorem dX8_entry_40 : decode cX8_entry 40 = .ok (.iconst (-1), 1) := by decide +kernel
theorem dX8_entry_41 : decode cX8_entry 41 = .ok (.ireturn, 1) := by decide +kernel
theorem dX8_ordersFrom_0 : decode cX8_ordersFrom 0 = .ok (.iload_n 2, 1) := by decide +kernel
theorem dX8_ordersFrom_1 : decode cX8_ordersFrom 1 = .ok (.ifCond .ne 59, 3) := by decide +kernel
theorem dX8_ordersFrom_4 : decode cX8_ordersFrom 4 = .ok (.iload 4, 2) := by decide +kernel
theorem dX8_ordersFrom_6 : decode cX8_ordersFrom 6 = .ok (.aload_n 0, 1) := by decide +kernel
theorem dX8_ordersFrom_7 : decode cX8_ordersFrom 7 = .ok (.getfield 201, 3) := by decide +kernel
theorem dX8_ordersFrom_10 : decode cX8_ordersFrom 10 = .ok (.if_icmp .le 50, 3) := by decide +kernel
theorem dX8_ordersFrom_13 : decode cX8_ordersFrom 13 = .ok (.aload_n 0, 1) := by decide +kernel
theorem dX8_ordersFrom_14 : decode cX8_ordersFrom 14 = .ok (.iload 4, 2) := by decide +kernel
theorem dX8_ordersFrom_16 : decode cX8_ordersFrom 16 = .ok (.putfield 201, 3) := by decide +kernel
theorem dX8_ordersFrom_19 : decode cX8_ordersFrom 19 = .ok (.iconst 0, 1) := by decide +kernel
theorem dX8_ordersFrom_20 : decode cX8_ordersFrom 20 = .ok (.istore 5, 2) := by decide +kernel
theorem dX8_ordersFrom_22 : decode cX8_ordersFrom 22 = .ok (.iload 5, 2) := by decide +kernel
theorem dX8_ordersFrom_24 : decode cX8_ordersFrom 24 = .ok (.bipush 6, 2) := by decide +kernel
theorem dX8_ordersFrom_26 : decode cX8_ordersFrom 26 = .ok (.if_icmp .ge 34, 3) := by decide +kernel
theorem dX8_ordersFrom_29 : decode cX8_ordersFrom 29 = .ok (.aload_n 0, 1) := by decide +kernel
theorem dX8_ordersFrom_30 : decode cX8_ordersFrom 30 = .ok (.getfield 40, 3) := by decide +kernel
theorem dX8_ordersFrom_33 : decode cX8_ordersFrom 33 = .ok (.iload 5, 2) := by decide +kernel
theorem dX8_ordersFrom_35 : decode cX8_ordersFrom 35 = .ok (.iload 5, 2) := by decide +kernel
theorem dX8_ordersFrom_37 : decode cX8_ordersFrom 37 = .ok (.iload_n 3, 1) := by decide +kernel
theorem dX8_ordersFrom_38 : decode cX8_ordersFrom 38 = .ok (.if_icmp .ge 13, 3) := by decide +kernel
theorem dX8_ordersFrom_41 : decode cX8_ordersFrom 41 = .ok (.aload_n 0, 1) := by decide +kernel
theorem dX8_ordersFrom_42 : decode cX8_ordersFrom 42 = .ok (.getfield 37, 3) := by decide +kernel
theorem dX8_ordersFrom_45 : decode cX8_ordersFrom 45 = .ok (.iload 5, 2) := by decide +kernel
theorem dX8_ordersFrom_47 : decode cX8_ordersFrom 47 = .ok (.iaload, 1) := by decide +kernel
theorem dX8_ordersFrom_48 : decode cX8_ordersFrom 48 = .ok (.goto 5, 3) := by decide +kernel
theorem dX8_ordersFrom_51 : decode cX8_ordersFrom 51 = .ok (.bipush (-5), 2) := by decide +kernel
theorem dX8_ordersFrom_53 : decode cX8_ordersFrom 53 = .ok (.iastore, 1) := by decide +kernel
theorem dX8_ordersFrom_54 : decode cX8_ordersFrom 54 = .ok (.iinc 5 1, 3) := by decide +kernel
theorem dX8_ordersFrom_57 : decode cX8_ordersFrom 57 = .ok (.goto (-35), 3) := by decide +kernel
theorem dX8_ordersFrom_60 : decode cX8_ordersFrom 60 = .ok (.iconst 0, 1) := by decide +kernel
theorem dX8_ordersFrom_61 : decode cX8_ordersFrom 61 = .ok (.istore 5, 2) := by decide +kernel
theorem dX8_ordersFrom_63 : decode cX8_ordersFrom 63 = .ok (.iload 5, 2) := by decide +kernel
theorem dX8_ordersFrom_65 : decode cX8_ordersFrom 65 = .ok (.aload_n 0, 1) := by decide +kernel
theorem dX8_ordersFrom_66 : decode cX8_ordersFrom 66 = .ok (.getfield 9, 3) := by decide +kernel
theorem dX8_ordersFrom_69 : decode cX8_ordersFrom 69 = .ok (.iconst 0, 1) := by decide +kernel
theorem dX8_ordersFrom_70 : decode cX8_ordersFrom 70 = .ok (.iaload, 1) := by decide +kernel
theorem dX8_ordersFrom_71 : decode cX8_ordersFrom 71 = .ok (.if_icmp .ge 92, 3) := by decide +kernel
theorem dX8_ordersFrom_74 : decode cX8_ordersFrom 74 = .ok (.iload_n 2, 1) := by decide +kernel
theorem dX8_ordersFrom_75 : decode cX8_ordersFrom 75 = .ok (.iload 5, 2) := by decide +kernel
theorem dX8_ordersFrom_77 : decode cX8_ordersFrom 77 = .ok (.ishr, 1) := by decide +kernel
theorem dX8_ordersFrom_78 : decode cX8_ordersFrom 78 = .ok (.iconst 1, 1) := by decide +kernel
theorem dX8_ordersFrom_79 : decode cX8_ordersFrom 79 = .ok (.iand, 1) := by decide +kernel
theorem dX8_ordersFrom_80 : decode cX8_ordersFrom 80 = .ok (.iconst 1, 1) := by decide +kernel
theorem dX8_ordersFrom_81 : decode cX8_ordersFrom 81 = .ok (.if_icmp .ne 76, 3) := by decide +kernel
theorem dX8_ordersFrom_84 : decode cX8_ordersFrom 84 = .ok (.aload_n 0, 1) := by decide +kernel
theorem dX8_ordersFrom_85 : decode cX8_ordersFrom 85 = .ok (.getfield 37, 3) := by decide +kernel
theorem dX8_ordersFrom_88 : decode cX8_ordersFrom 88 = .ok (.iload_n 3, 1) := by decide +kernel
theorem dX8_ordersFrom_89 : decode cX8_ordersFrom 89 = .ok (.iload 5, 2) := by decide +kernel
theorem dX8_ordersFrom_91 : decode cX8_ordersFrom 91 = .ok (.iastore, 1) := by decide +kernel
theorem dX8_ordersFrom_92 : decode cX8_ordersFrom 92 = .ok (.aload_n 0, 1) := by decide +kernel
theorem dX8_ordersFrom_93 : decode cX8_ordersFrom 93 = .ok (.iload_n 1, 1) := by decide +kernel
theorem dX8_ordersFrom_94 : decode cX8_ordersFrom 94 = .ok (.aload_n 0, 1) := by decide +kernel
theorem dX8_ordersFrom_95 : decode cX8_ordersFrom 95 = .ok (.getfield 9, 3) := by decide +kernel
theorem dX8_ordersFrom_98 : decode cX8_ordersFrom 98 = .ok (.bipush 10, 2) := by decide +kernel
theorem dX8_ordersFrom_100 : decode cX8_ordersFrom 100 = .ok (.iload 5, 2) := by decide +kernel
theorem dX8_ordersFrom_102 : decode cX8_ordersFrom 102 = .ok (.iadd, 1) := by decide +kernel
theorem dX8_ordersFrom_103 : decode cX8_ordersFrom 103 = .ok (.iaload, 1) := by decide +kernel
theorem dX8_ordersFrom_104 : decode cX8_ordersFrom 104 = .ok (.invokevirtual 204, 3) := by decide +kernel
theorem dX8_ordersFrom_107 : decode cX8_ordersFrom 107 = .ok (.istore 6, 2) := by decide +kernel
theorem dX8_ordersFrom_109 : decode cX8_ordersFrom 109 = .ok (.aload_n 0, 1) := by decide +kernel
theorem dX8_ordersFrom_110 : decode cX8_ordersFrom 110 = .ok (.iload_n 1, 1) := by decide +kernel
theorem dX8_ordersFrom_111 : decode cX8_ordersFrom 111 = .ok (.iload_n 2, 1) := by decide +kernel
theorem dX8_ordersFrom_112 : decode cX8_ordersFrom 112 = .ok (.iconst 1, 1) := by decide +kernel
theorem dX8_ordersFrom_113 : decode cX8_ordersFrom 113 = .ok (.iload 5, 2) := by decide +kernel
theorem dX8_ordersFrom_115 : decode cX8_ordersFrom 115 = .ok (.ishl, 1) := by decide +kernel
theorem dX8_ordersFrom_116 : decode cX8_ordersFrom 116 = .ok (.iconst (-1), 1) := by decide +kernel
theorem dX8_ordersFrom_117 : decode cX8_ordersFrom 117 = .ok (.ixor, 1) := by decide +kernel
theorem dX8_ordersFrom_118 : decode cX8_ordersFrom 118 = .ok (.iand, 1) := by decide +kernel
theorem dX8_ordersFrom_119 : decode cX8_ordersFrom 119 = .ok (.iload_n 3, 1) := by decide +kernel
theorem dX8_ordersFrom_120 : decode cX8_ordersFrom 120 = .ok (.iconst 1, 1) := by decide +kernel
theorem dX8_ordersFrom_121 : decode cX8_ordersFrom 121 = .ok (.iadd, 1) := by decide +kernel
theorem dX8_ordersFrom_122 : decode cX8_ordersFrom 122 = .ok (.iload 4, 2) := by decide +kernel
theorem dX8_ordersFrom_124 : decode cX8_ordersFrom 124 = .ok (.iload 6, 2) := by decide +kernel
theorem dX8_ordersFrom_126 : decode cX8_ordersFrom 126 = .ok (.ifCond .eq 16, 3) := by decide +kernel
theorem dX8_ordersFrom_129 : decode cX8_ordersFrom 129 = .ok (.aload_n 0, 1) := by decide +kernel
theorem dX8_ordersFrom_130 : decode cX8_ordersFrom 130 = .ok (.getfield 9, 3) := by decide +kernel
theorem dX8_ordersFrom_133 : decode cX8_ordersFrom 133 = .ok (.bipush 18, 2) := by decide +kernel
theorem dX8_ordersFrom_135 : decode cX8_ordersFrom 135 = .ok (.iload 5, 2) := by decide +kernel
theorem dX8_ordersFrom_137 : decode cX8_ordersFrom 137 = .ok (.iadd, 1) := by decide +kernel
theorem dX8_ordersFrom_138 : decode cX8_ordersFrom 138 = .ok (.iaload, 1) := by decide +kernel
theorem dX8_ordersFrom_139 : decode cX8_ordersFrom 139 = .ok (.goto 4, 3) := by decide +kernel
theorem dX8_ordersFrom_142 : decode cX8_ordersFrom 142 = .ok (.iconst 0, 1) := by decide +kernel
theorem dX8_ordersFrom_143 : decode cX8_ordersFrom 143 = .ok (.iadd, 1) := by decide +kernel
theorem dX8_ordersFrom_144 : decode cX8_ordersFrom 144 = .ok (.invokevirtual 207, 3) := by decide +kernel
theorem dX8_ordersFrom_147 : decode cX8_ordersFrom 147 = .ok (.aload_n 0, 1) := by decide +kernel
theorem dX8_ordersFrom_148 : decode cX8_ordersFrom 148 = .ok (.dup, 1) := by decide +kernel
theorem dX8_ordersFrom_149 : decode cX8_ordersFrom 149 = .ok (.getfield 161, 3) := by decide +kernel
theorem dX8_ordersFrom_152 : decode cX8_ordersFrom 152 = .ok (.iconst 1, 1) := by decide +kernel
theorem dX8_ordersFrom_153 : decode cX8_ordersFrom 153 = .ok (.isub, 1) := by decide +kernel
theorem dX8_ordersFrom_154 : decode cX8_ordersFrom 154 = .ok (.putfield 161, 3) := by decide +kernel
theorem dX8_ordersFrom_157 : decode cX8_ordersFrom 157 = .ok (.iinc 5 1, 3) := by decide +kernel
theorem dX8_ordersFrom_160 : decode cX8_ordersFrom 160 = .ok (.goto (-97), 3) := by decide +kernel
theorem dX8_ordersFrom_163 : decode cX8_ordersFrom 163 = .ok (.return_, 1) := by decide +kernel
theorem dX8_isSet_0 : decode cX8_isSet 0 = .ok (.iload_n 1, 1) := by decide +kernel
theorem dX8_isSet_1 : decode cX8_isSet 1 = .ok (.ifCond .lt 18, 3) := by decide +kernel
theorem dX8_isSet_4 : decode cX8_isSet 4 = .ok (.iload_n 1, 1) := by decide +kernel
theorem dX8_isSet_5 : decode cX8_isSet 5 = .ok (.aload_n 0, 1) := by decide +kernel
theorem dX8_isSet_6 : decode cX8_isSet 6 = .ok (.getfield 9, 3) := by decide +kernel
theorem dX8_isSet_9 : decode cX8_isSet 9 = .ok (.iconst 0, 1) := by decide +kernel
theorem dX8_isSet_10 : decode cX8_isSet 10 = .ok (.iaload, 1) := by decide +kernel
theorem dX8_isSet_11 : decode cX8_isSet 11 = .ok (.ishr, 1) := by decide +kernel
theorem dX8_isSet_12 : decode cX8_isSet 12 = .ok (.ifCond .ne 7, 3) := by decide +kernel
theorem dX8_isSet_15 : decode cX8_isSet 15 = .ok (.iconst 1, 1) := by decide +kernel
theorem dX8_isSet_16 : decode cX8_isSet 16 = .ok (.goto 4, 3) := by decide +kernel
theorem dX8_isSet_19 : decode cX8_isSet 19 = .ok (.iconst 0, 1) := by decide +kernel
theorem dX8_isSet_20 : decode cX8_isSet 20 = .ok (.ireturn, 1) := by decide +kernel
theorem dX8_best_0 : decode cX8_best 0 = .ok (.aload_n 0, 1) := by decide +kernel
theorem dX8_best_1 : decode cX8_best 1 = .ok (.iload_n 1, 1) := by decide +kernel
theorem dX8_best_2 : decode cX8_best 2 = .ok (.invokevirtual 137, 3) := by decide +kernel
theorem dX8_best_5 : decode cX8_best 5 = .ok (.ifCond .eq 12, 3) := by decide +kernel
theorem dX8_best_8 : decode cX8_best 8 = .ok (.iload_n 3, 1) := by decide +kernel
theorem dX8_best_9 : decode cX8_best 9 = .ok (.iconst (-1), 1) := by decide +kernel
theorem dX8_best_10 : decode cX8_best 10 = .ok (.iconst 5, 1) := by decide +kernel
theorem dX8_best_11 : decode cX8_best 11 = .ok (.invokestatic 53, 3) := by decide +kernel
theorem dX8_best_14 : decode cX8_best 14 = .ok (.ifCond .ne 6, 3) := by decide +kernel
theorem dX8_best_17 : decode cX8_best 17 = .ok (.ldc 153, 2) := by decide +kernel
theorem dX8_best_19 : decode cX8_best 19 = .ok (.ireturn, 1) := by decide +kernel
theorem dX8_best_20 : decode cX8_best 20 = .ok (.aload_n 0, 1) := by decide +kernel
theorem dX8_best_21 : decode cX8_best 21 = .ok (.iload_n 2, 1) := by decide +kernel
theorem dX8_best_22 : decode cX8_best 22 = .ok (.invokevirtual 211, 3) := by decide +kernel
theorem dX8_best_25 : decode cX8_best 25 = .ok (.ifCond .eq 12, 3) := by decide +kernel
theorem dX8_best_28 : decode cX8_best 28 = .ok (.iload_n 2, 1) := by decide +kernel
theorem dX8_best_29 : decode cX8_best 29 = .ok (.invokestatic 178, 3) := by decide +kernel
theorem dX8_best_32 : decode cX8_best 32 = .ok (.bipush 6, 2) := by decide +kernel
theorem dX8_best_34 : decode cX8_best 34 = .ok (.if_icmp .le 6, 3) := by decide +kernel
theorem dX8_best_37 : decode cX8_best 37 = .ok (.ldc 214, 2) := by decide +kernel
theorem dX8_best_39 : decode cX8_best 39 = .ok (.ireturn, 1) := by decide +kernel
theorem dX8_best_40 : decode cX8_best 40 = .ok (.aload_n 0, 1) := by decide +kernel
theorem dX8_best_41 : decode cX8_best 41 = .ok (.iload_n 1, 1) := by decide +kernel
theorem dX8_best_42 : decode cX8_best 42 = .ok (.invokevirtual 154, 3) := by decide +kernel
theorem dX8_best_45 : decode cX8_best 45 = .ok (.aload_n 0, 1) := by decide +kernel
theorem dX8_best_46 : decode cX8_best 46 = .ok (.invokevirtual 194, 3) := by decide +kernel
theorem dX8_best_49 : decode cX8_best 49 = .ok (.aload_n 0, 1) := by decide +kernel
theorem dX8_best_50 : decode cX8_best 50 = .ok (.iconst (-1), 1) := by decide +kernel
theorem dX8_best_51 : decode cX8_best 51 = .ok (.putfield 201, 3) := by decide +kernel
theorem dX8_best_54 : decode cX8_best 54 = .ok (.aload_n 0, 1) := by decide +kernel
theorem dX8_best_55 : decode cX8_best 55 = .ok (.iload_n 1, 1) := by decide +kernel
theorem dX8_best_56 : decode cX8_best 56 = .ok (.iload_n 2, 1) := by decide +kernel
theorem dX8_best_57 : decode cX8_best 57 = .ok (.iconst 0, 1) := by decide +kernel
theorem dX8_best_58 : decode cX8_best 58 = .ok (.iconst 0, 1) := by decide +kernel
theorem dX8_best_59 : decode cX8_best 59 = .ok (.invokevirtual 207, 3) := by decide +kernel
theorem dX8_best_62 : decode cX8_best 62 = .ok (.iload_n 3, 1) := by decide +kernel
theorem dX8_best_63 : decode cX8_best 63 = .ok (.iconst (-1), 1) := by decide +kernel
theorem dX8_best_64 : decode cX8_best 64 = .ok (.if_icmp .ne 10, 3) := by decide +kernel
theorem dX8_best_67 : decode cX8_best 67 = .ok (.aload_n 0, 1) := by decide +kernel
theorem dX8_best_68 : decode cX8_best 68 = .ok (.getfield 201, 3) := by decide +kernel
theorem dX8_best_71 : decode cX8_best 71 = .ok (.goto 9, 3) := by decide +kernel
theorem dX8_best_74 : decode cX8_best 74 = .ok (.aload_n 0, 1) := by decide +kernel
theorem dX8_best_75 : decode cX8_best 75 = .ok (.getfield 40, 3) := by decide +kernel
theorem dX8_best_78 : decode cX8_best 78 = .ok (.iload_n 3, 1) := by decide +kernel
theorem dX8_best_79 : decode cX8_best 79 = .ok (.iaload, 1) := by decide +kernel
theorem dX8_best_80 : decode cX8_best 80 = .ok (.ireturn, 1) := by decide +kernel
theorem dX8_looksForShams_0 : decode cX8_looksForShams 0 = .ok (.aload_n 0, 1) := by decide +kernel
theorem dX8_looksForShams_1 : decode cX8_looksForShams 1 = .ok (.iload_n 1, 1) := by decide +kernel
theorem dX8_looksForShams_2 : decode cX8_looksForShams 2 = .ok (.iload_n 2, 1) := by decide +kernel
theorem dX8_looksForShams_3 : decode cX8_looksForShams 3 = .ok (.invokevirtual 191, 3) := by decide +kernel
theorem dX8_looksForShams_6 : decode cX8_looksForShams 6 = .ok (.ifCond .eq 5, 3) := by decide +kernel
theorem dX8_looksForShams_9 : decode cX8_looksForShams 9 = .ok (.iconst 0, 1) := by decide +kernel
theorem dX8_looksForShams_10 : decode cX8_looksForShams 10 = .ok (.ireturn, 1) := by decide +kernel
theorem dX8_looksForShams_11 : decode cX8_looksForShams 11 = .ok (.iconst 0, 1) := by decide +kernel
theorem dX8_looksForShams_12 : decode cX8_looksForShams 12 = .ok (.istore_n 3, 1) := by decide +kernel
theorem dX8_looksForShams_13 : decode cX8_looksForShams 13 = .ok (.iload_n 3, 1) := by decide +kernel
theorem dX8_looksForShams_14 : decode cX8_looksForShams 14 = .ok (.bipush 64, 2) := by decide +kernel
theorem dX8_looksForShams_16 : decode cX8_looksForShams 16 = .ok (.if_icmp .ge 48, 3) := by decide +kernel
theorem dX8_looksForShams_19 : decode cX8_looksForShams 19 = .ok (.aload_n 0, 1) := by decide +kernel
theorem dX8_looksForShams_20 : decode cX8_looksForShams 20 = .ok (.iload_n 1, 1) := by decide +kernel
theorem dX8_looksForShams_21 : decode cX8_looksForShams 21 = .ok (.iload_n 3, 1) := by decide +kernel
theorem dX8_looksForShams_22 : decode cX8_looksForShams 22 = .ok (.invokevirtual 204, 3) := by decide +kernel
theorem dX8_looksForShams_25 : decode cX8_looksForShams 25 = .ok (.pop, 1) := by decide +kernel
theorem dX8_looksForShams_26 : decode cX8_looksForShams 26 = .ok (.aload_n 0, 1) := by decide +kernel
theorem dX8_looksForShams_27 : decode cX8_looksForShams 27 = .ok (.iload_n 1, 1) := by decide +kernel
theorem dX8_looksForShams_28 : decode cX8_looksForShams 28 = .ok (.iload_n 2, 1) := by decide +kernel
theorem dX8_looksForShams_29 : decode cX8_looksForShams 29 = .ok (.invokevirtual 191, 3) := by decide +kernel
theorem dX8_looksForShams_32 : decode cX8_looksForShams 32 = .ok (.istore 4, 2) := by decide +kernel
theorem dX8_looksForShams_34 : decode cX8_looksForShams 34 = .ok (.aload_n 0, 1) := by decide +kernel
theorem dX8_looksForShams_35 : decode cX8_looksForShams 35 = .ok (.dup, 1) := by decide +kernel
theorem dX8_looksForShams_36 : decode cX8_looksForShams 36 = .ok (.getfield 161, 3) := by decide +kernel
theorem dX8_looksForShams_39 : decode cX8_looksForShams 39 = .ok (.iconst 1, 1) := by decide +kernel
theorem dX8_looksForShams_40 : decode cX8_looksForShams 40 = .ok (.isub, 1) := by decide +kernel
theorem dX8_looksForShams_41 : decode cX8_looksForShams 41 = .ok (.putfield 161, 3) := by decide +kernel
theorem dX8_looksForShams_44 : decode cX8_looksForShams 44 = .ok (.iload 4, 2) := by decide +kernel
theorem dX8_looksForShams_46 : decode cX8_looksForShams 46 = .ok (.ifCond .eq 12, 3) := by decide +kernel
theorem dX8_looksForShams_49 : decode cX8_looksForShams 49 = .ok (.aload_n 0, 1) := by decide +kernel
theorem dX8_looksForShams_50 : decode cX8_looksForShams 50 = .ok (.getfield 43, 3) := by decide +kernel
theorem dX8_looksForShams_53 : decode cX8_looksForShams 53 = .ok (.iconst 0, 1) := by decide +kernel
theorem dX8_looksForShams_54 : decode cX8_looksForShams 54 = .ok (.iload_n 3, 1) := by decide +kernel
theorem dX8_looksForShams_55 : decode cX8_looksForShams 55 = .ok (.iastore, 1) := by decide +kernel
theorem dX8_looksForShams_56 : decode cX8_looksForShams 56 = .ok (.iconst 1, 1) := by decide +kernel
theorem dX8_looksForShams_57 : decode cX8_looksForShams 57 = .ok (.ireturn, 1) := by decide +kernel
theorem dX8_looksForShams_58 : decode cX8_looksForShams 58 = .ok (.iinc 3 1, 3) := by decide +kernel
theorem dX8_looksForShams_61 : decode cX8_looksForShams 61 = .ok (.goto (-48), 3) := by decide +kernel
theorem dX8_looksForShams_64 : decode cX8_looksForShams 64 = .ok (.iconst 0, 1) := by decide +kernel
theorem dX8_looksForShams_65 : decode cX8_looksForShams 65 = .ok (.istore_n 3, 1) := by decide +kernel
theorem dX8_looksForShams_66 : decode cX8_looksForShams 66 = .ok (.iload_n 3, 1) := by decide +kernel
theorem dX8_looksForShams_67 : decode cX8_looksForShams 67 = .ok (.bipush 64, 2) := by decide +kernel
theorem dX8_looksForShams_69 : decode cX8_looksForShams 69 = .ok (.if_icmp .ge 90, 3) := by decide +kernel
theorem dX8_looksForShams_72 : decode cX8_looksForShams 72 = .ok (.aload_n 0, 1) := by decide +kernel
theorem dX8_looksForShams_73 : decode cX8_looksForShams 73 = .ok (.iload_n 1, 1) := by decide +kernel
theorem dX8_looksForShams_74 : decode cX8_looksForShams 74 = .ok (.iload_n 3, 1) := by decide +kernel
theorem dX8_looksForShams_75 : decode cX8_looksForShams 75 = .ok (.invokevirtual 204, 3) := by decide +kernel
theorem dX8_looksForShams_78 : decode cX8_looksForShams 78 = .ok (.pop, 1) := by decide +kernel
theorem dX8_looksForShams_79 : decode cX8_looksForShams 79 = .ok (.iconst 0, 1) := by decide +kernel
theorem dX8_looksForShams_80 : decode cX8_looksForShams 80 = .ok (.istore 4, 2) := by decide +kernel
theorem dX8_looksForShams_82 : decode cX8_looksForShams 82 = .ok (.iload 4, 2) := by decide +kernel
theorem dX8_looksForShams_84 : decode cX8_looksForShams 84 = .ok (.bipush 64, 2) := by decide +kernel
theorem dX8_looksForShams_86 : decode cX8_looksForShams 86 = .ok (.if_icmp .ge 57, 3) := by decide +kernel
theorem dX8_looksForShams_89 : decode cX8_looksForShams 89 = .ok (.aload_n 0, 1) := by decide +kernel
theorem dX8_looksForShams_90 : decode cX8_looksForShams 90 = .ok (.iload_n 1, 1) := by decide +kernel
theorem dX8_looksForShams_91 : decode cX8_looksForShams 91 = .ok (.iload 4, 2) := by decide +kernel
theorem dX8_looksForShams_93 : decode cX8_looksForShams 93 = .ok (.invokevirtual 204, 3) := by decide +kernel
theorem dX8_looksForShams_96 : decode cX8_looksForShams 96 = .ok (.pop, 1) := by decide +kernel
theorem dX8_looksForShams_97 : decode cX8_looksForShams 97 = .ok (.aload_n 0, 1) := by decide +kernel
theorem dX8_looksForShams_98 : decode cX8_looksForShams 98 = .ok (.iload_n 1, 1) := by decide +kernel
theorem dX8_looksForShams_99 : decode cX8_looksForShams 99 = .ok (.iload_n 2, 1) := by decide +kernel
theorem dX8_looksForShams_100 : decode cX8_looksForShams 100 = .ok (.invokevirtual 191, 3) := by decide +kernel
theorem dX8_looksForShams_103 : decode cX8_looksForShams 103 = .ok (.istore 5, 2) := by decide +kernel
theorem dX8_looksForShams_105 : decode cX8_looksForShams 105 = .ok (.aload_n 0, 1) := by decide +kernel
theorem dX8_looksForShams_106 : decode cX8_looksForShams 106 = .ok (.dup, 1) := by decide +kernel
theorem dX8_looksForShams_107 : decode cX8_looksForShams 107 = .ok (.getfield 161, 3) := by decide +kernel
theorem dX8_looksForShams_110 : decode cX8_looksForShams 110 = .ok (.iconst 1, 1) := by decide +kernel
theorem dX8_looksForShams_111 : decode cX8_looksForShams 111 = .ok (.isub, 1) := by decide +kernel
theorem dX8_looksForShams_112 : decode cX8_looksForShams 112 = .ok (.putfield 161, 3) := by decide +kernel
theorem dX8_looksForShams_115 : decode cX8_looksForShams 115 = .ok (.iload 5, 2) := by decide +kernel
theorem dX8_looksForShams_117 : decode cX8_looksForShams 117 = .ok (.ifCond .eq 20, 3) := by decide +kernel
theorem dX8_looksForShams_120 : decode cX8_looksForShams 120 = .ok (.aload_n 0, 1) := by decide +kernel
theorem dX8_looksForShams_121 : decode cX8_looksForShams 121 = .ok (.getfield 43, 3) := by decide +kernel
theorem dX8_looksForShams_124 : decode cX8_looksForShams 124 = .ok (.iconst 0, 1) := by decide +kernel
theorem dX8_looksForShams_125 : decode cX8_looksForShams 125 = .ok (.iload_n 3, 1) := by decide +kernel
theorem dX8_looksForShams_126 : decode cX8_looksForShams 126 = .ok (.iastore, 1) := by decide +kernel
theorem dX8_looksForShams_127 : decode cX8_looksForShams 127 = .ok (.aload_n 0, 1) := by decide +kernel
theorem dX8_looksForShams_128 : decode cX8_looksForShams 128 = .ok (.getfield 43, 3) := by decide +kernel
theorem dX8_looksForShams_131 : decode cX8_looksForShams 131 = .ok (.iconst 1, 1) := by decide +kernel
theorem dX8_looksForShams_132 : decode cX8_looksForShams 132 = .ok (.iload 4, 2) := by decide +kernel
theorem dX8_looksForShams_134 : decode cX8_looksForShams 134 = .ok (.iastore, 1) := by decide +kernel
theorem dX8_looksForShams_135 : decode cX8_looksForShams 135 = .ok (.iconst 2, 1) := by decide +kernel
theorem dX8_looksForShams_136 : decode cX8_looksForShams 136 = .ok (.ireturn, 1) := by decide +kernel
theorem dX8_looksForShams_137 : decode cX8_looksForShams 137 = .ok (.iinc 4 1, 3) := by decide +kernel
theorem dX8_looksForShams_140 : decode cX8_looksForShams 140 = .ok (.goto (-58), 3) := by decide +kernel
theorem dX8_looksForShams_143 : decode cX8_looksForShams 143 = .ok (.aload_n 0, 1) := by decide +kernel
theorem dX8_looksForShams_144 : decode cX8_looksForShams 144 = .ok (.dup, 1) := by decide +kernel
theorem dX8_looksForShams_145 : decode cX8_looksForShams 145 = .ok (.getfield 161, 3) := by decide +kernel
theorem dX8_looksForShams_148 : decode cX8_looksForShams 148 = .ok (.iconst 1, 1) := by decide +kernel
theorem dX8_looksForShams_149 : decode cX8_looksForShams 149 = .ok (.isub, 1) := by decide +kernel
theorem dX8_looksForShams_150 : decode cX8_looksForShams 150 = .ok (.putfield 161, 3) := by decide +kernel
theorem dX8_looksForShams_153 : decode cX8_looksForShams 153 = .ok (.iinc 3 1, 3) := by decide +kernel
theorem dX8_looksForShams_156 : decode cX8_looksForShams 156 = .ok (.goto (-90), 3) := by decide +kernel
theorem dX8_looksForShams_159 : decode cX8_looksForShams 159 = .ok (.bipush (-5), 2) := by decide +kernel
theorem dX8_looksForShams_161 : decode cX8_looksForShams 161 = .ok (.ireturn, 1) := by decide +kernel
theorem dX8_shams_0 : decode cX8_shams 0 = .ok (.aload_n 0, 1) := by decide +kernel
theorem dX8_shams_1 : decode cX8_shams 1 = .ok (.iload_n 1, 1) := by decide +kernel
theorem dX8_shams_2 : decode cX8_shams 2 = .ok (.invokevirtual 137, 3) := by decide +kernel
theorem dX8_shams_5 : decode cX8_shams 5 = .ok (.ifCond .eq 20, 3) := by decide +kernel
theorem dX8_shams_8 : decode cX8_shams 8 = .ok (.aload_n 0, 1) := by decide +kernel
theorem dX8_shams_9 : decode cX8_shams 9 = .ok (.iload_n 2, 1) := by decide +kernel
theorem dX8_shams_10 : decode cX8_shams 10 = .ok (.invokevirtual 133, 3) := by decide +kernel
theorem dX8_shams_13 : decode cX8_shams 13 = .ok (.ifCond .eq 12, 3) := by decide +kernel
theorem dX8_shams_16 : decode cX8_shams 16 = .ok (.iload_n 3, 1) := by decide +kernel
theorem dX8_shams_17 : decode cX8_shams 17 = .ok (.iconst (-1), 1) := by decide +kernel
theorem dX8_shams_18 : decode cX8_shams 18 = .ok (.iconst 1, 1) := by decide +kernel
theorem dX8_shams_19 : decode cX8_shams 19 = .ok (.invokestatic 53, 3) := by decide +kernel
theorem dX8_shams_22 : decode cX8_shams 22 = .ok (.ifCond .ne 5, 3) := by decide +kernel
theorem dX8_shams_25 : decode cX8_shams 25 = .ok (.iconst (-1), 1) := by decide +kernel
theorem dX8_shams_26 : decode cX8_shams 26 = .ok (.ireturn, 1) := by decide +kernel
theorem dX8_shams_27 : decode cX8_shams 27 = .ok (.aload_n 0, 1) := by decide +kernel
theorem dX8_shams_28 : decode cX8_shams 28 = .ok (.iload_n 1, 1) := by decide +kernel
theorem dX8_shams_29 : decode cX8_shams 29 = .ok (.invokevirtual 154, 3) := by decide +kernel
theorem dX8_shams_32 : decode cX8_shams 32 = .ok (.aload_n 0, 1) := by decide +kernel
theorem dX8_shams_33 : decode cX8_shams 33 = .ok (.invokevirtual 194, 3) := by decide +kernel
theorem dX8_shams_36 : decode cX8_shams 36 = .ok (.aload_n 0, 1) := by decide +kernel
theorem dX8_shams_37 : decode cX8_shams 37 = .ok (.iload_n 1, 1) := by decide +kernel
theorem dX8_shams_38 : decode cX8_shams 38 = .ok (.aload_n 0, 1) := by decide +kernel
theorem dX8_shams_39 : decode cX8_shams 39 = .ok (.getfield 9, 3) := by decide +kernel
theorem dX8_shams_42 : decode cX8_shams 42 = .ok (.bipush 10, 2) := by decide +kernel
theorem dX8_shams_44 : decode cX8_shams 44 = .ok (.iload_n 2, 1) := by decide +kernel
theorem dX8_shams_45 : decode cX8_shams 45 = .ok (.iadd, 1) := by decide +kernel
theorem dX8_shams_46 : decode cX8_shams 46 = .ok (.iaload, 1) := by decide +kernel
theorem dX8_shams_47 : decode cX8_shams 47 = .ok (.invokevirtual 215, 3) := by decide +kernel
theorem dX8_shams_50 : decode cX8_shams 50 = .ok (.istore 4, 2) := by decide +kernel
theorem dX8_shams_52 : decode cX8_shams 52 = .ok (.iload_n 3, 1) := by decide +kernel
theorem dX8_shams_53 : decode cX8_shams 53 = .ok (.iconst (-1), 1) := by decide +kernel
theorem dX8_shams_54 : decode cX8_shams 54 = .ok (.if_icmp .ne 8, 3) := by decide +kernel
theorem dX8_shams_57 : decode cX8_shams 57 = .ok (.iload 4, 2) := by decide +kernel
theorem dX8_shams_59 : decode cX8_shams 59 = .ok (.goto 20, 3) := by decide +kernel
theorem dX8_shams_62 : decode cX8_shams 62 = .ok (.iload_n 3, 1) := by decide +kernel
theorem dX8_shams_63 : decode cX8_shams 63 = .ok (.iload 4, 2) := by decide +kernel
theorem dX8_shams_65 : decode cX8_shams 65 = .ok (.if_icmp .ge 12, 3) := by decide +kernel
theorem dX8_shams_68 : decode cX8_shams 68 = .ok (.aload_n 0, 1) := by decide +kernel
theorem dX8_shams_69 : decode cX8_shams 69 = .ok (.getfield 43, 3) := by decide +kernel
theorem dX8_shams_72 : decode cX8_shams 72 = .ok (.iload_n 3, 1) := by decide +kernel
theorem dX8_shams_73 : decode cX8_shams 73 = .ok (.iaload, 1) := by decide +kernel
theorem dX8_shams_74 : decode cX8_shams 74 = .ok (.goto 5, 3) := by decide +kernel
theorem dX8_shams_77 : decode cX8_shams 77 = .ok (.bipush (-5), 2) := by decide +kernel
theorem dX8_shams_79 : decode cX8_shams 79 = .ok (.ireturn, 1) := by decide +kernel
theorem dX8_point_0 : decode cX8_point 0 = .ok (.aload_n 0, 1) := by decide +kernel
theorem dX8_point_1 : decode cX8_point 1 = .ok (.iload_n 1, 1) := by decide +kernel
theorem dX8_point_2 : decode cX8_point 2 = .ok (.invokevirtual 137, 3) := by decide +kernel
theorem dX8_point_5 : decode cX8_point 5 = .ok (.ifCond .eq 20, 3) := by decide +kernel
theorem dX8_point_8 : decode cX8_point 8 = .ok (.aload_n 0, 1) := by decide +kernel
theorem dX8_point_9 : decode cX8_point 9 = .ok (.iload_n 2, 1) := by decide +kernel
theorem dX8_point_10 : decode cX8_point 10 = .ok (.invokevirtual 133, 3) := by decide +kernel
theorem dX8_point_13 : decode cX8_point 13 = .ok (.ifCond .eq 12, 3) := by decide +kernel
theorem dX8_point_16 : decode cX8_point 16 = .ok (.iload_n 3, 1) := by decide +kernel
theorem dX8_point_17 : decode cX8_point 17 = .ok (.iconst 0, 1) := by decide +kernel
theorem dX8_point_18 : decode cX8_point 18 = .ok (.iconst 1, 1) := by decide +kernel
theorem dX8_point_19 : decode cX8_point 19 = .ok (.invokestatic 53, 3) := by decide +kernel
theorem dX8_point_22 : decode cX8_point 22 = .ok (.ifCond .ne 5, 3) := by decide +kernel
theorem dX8_point_25 : decode cX8_point 25 = .ok (.iconst (-1), 1) := by decide +kernel
theorem dX8_point_26 : decode cX8_point 26 = .ok (.ireturn, 1) := by decide +kernel
theorem dX8_point_27 : decode cX8_point 27 = .ok (.aload_n 0, 1) := by decide +kernel
theorem dX8_point_28 : decode cX8_point 28 = .ok (.iload_n 1, 1) := by decide +kernel
theorem dX8_point_29 : decode cX8_point 29 = .ok (.invokevirtual 154, 3) := by decide +kernel
theorem dX8_point_32 : decode cX8_point 32 = .ok (.aload_n 0, 1) := by decide +kernel
theorem dX8_point_33 : decode cX8_point 33 = .ok (.invokevirtual 194, 3) := by decide +kernel
theorem dX8_point_36 : decode cX8_point 36 = .ok (.aload_n 0, 1) := by decide +kernel
theorem dX8_point_37 : decode cX8_point 37 = .ok (.getfield 9, 3) := by decide +kernel
theorem dX8_point_40 : decode cX8_point 40 = .ok (.bipush 10, 2) := by decide +kernel
theorem dX8_point_42 : decode cX8_point 42 = .ok (.iload_n 2, 1) := by decide +kernel
theorem dX8_point_43 : decode cX8_point 43 = .ok (.iadd, 1) := by decide +kernel
theorem dX8_point_44 : decode cX8_point 44 = .ok (.iaload, 1) := by decide +kernel
theorem dX8_point_45 : decode cX8_point 45 = .ok (.istore 4, 2) := by decide +kernel
theorem dX8_point_47 : decode cX8_point 47 = .ok (.aload_n 0, 1) := by decide +kernel
theorem dX8_point_48 : decode cX8_point 48 = .ok (.iload_n 1, 1) := by decide +kernel
theorem dX8_point_49 : decode cX8_point 49 = .ok (.iload 4, 2) := by decide +kernel
theorem dX8_point_51 : decode cX8_point 51 = .ok (.invokevirtual 191, 3) := by decide +kernel
theorem dX8_point_54 : decode cX8_point 54 = .ok (.ifCond .eq 6, 3) := by decide +kernel
theorem dX8_point_57 : decode cX8_point 57 = .ok (.bipush 8, 2) := by decide +kernel
theorem dX8_point_59 : decode cX8_point 59 = .ok (.ireturn, 1) := by decide +kernel
theorem dX8_point_60 : decode cX8_point 60 = .ok (.iconst 0, 1) := by decide +kernel
theorem dX8_point_61 : decode cX8_point 61 = .ok (.istore 5, 2) := by decide +kernel
theorem dX8_point_63 : decode cX8_point 63 = .ok (.iload 5, 2) := by decide +kernel
theorem dX8_point_65 : decode cX8_point 65 = .ok (.bipush 8, 2) := by decide +kernel
theorem dX8_point_67 : decode cX8_point 67 = .ok (.if_icmp .ge 38, 3) := by decide +kernel
theorem dX8_point_70 : decode cX8_point 70 = .ok (.iload 4, 2) := by decide +kernel
theorem dX8_point_72 : decode cX8_point 72 = .ok (.iload 5, 2) := by decide +kernel
theorem dX8_point_74 : decode cX8_point 74 = .ok (.ishr, 1) := by decide +kernel
theorem dX8_point_75 : decode cX8_point 75 = .ok (.iconst 1, 1) := by decide +kernel
theorem dX8_point_76 : decode cX8_point 76 = .ok (.iand, 1) := by decide +kernel
theorem dX8_point_77 : decode cX8_point 77 = .ok (.iload_n 3, 1) := by decide +kernel
theorem dX8_point_78 : decode cX8_point 78 = .ok (.if_icmp .ne 21, 3) := by decide +kernel
theorem dX8_point_81 : decode cX8_point 81 = .ok (.aload_n 0, 1) := by decide +kernel
theorem dX8_point_82 : decode cX8_point 82 = .ok (.iload_n 1, 1) := by decide +kernel
theorem dX8_point_83 : decode cX8_point 83 = .ok (.iload 4, 2) := by decide +kernel
theorem dX8_point_85 : decode cX8_point 85 = .ok (.iconst 1, 1) := by decide +kernel
theorem dX8_point_86 : decode cX8_point 86 = .ok (.iload 5, 2) := by decide +kernel
theorem dX8_point_88 : decode cX8_point 88 = .ok (.ishl, 1) := by decide +kernel
theorem dX8_point_89 : decode cX8_point 89 = .ok (.ixor, 1) := by decide +kernel
theorem dX8_point_90 : decode cX8_point 90 = .ok (.invokevirtual 191, 3) := by decide +kernel
theorem dX8_point_93 : decode cX8_point 93 = .ok (.ifCond .eq 6, 3) := by decide +kernel
theorem dX8_point_96 : decode cX8_point 96 = .ok (.iload 5, 2) := by decide +kernel
theorem dX8_point_98 : decode cX8_point 98 = .ok (.ireturn, 1) := by decide +kernel
theorem dX8_point_99 : decode cX8_point 99 = .ok (.iinc 5 1, 3) := by decide +kernel
theorem dX8_point_102 : decode cX8_point 102 = .ok (.goto (-39), 3) := by decide +kernel
theorem dX8_point_105 : decode cX8_point 105 = .ok (.bipush (-5), 2) := by decide +kernel
theorem dX8_point_107 : decode cX8_point 107 = .ok (.ireturn, 1) := by decide +kernel
theorem dX8_rivals_0 : decode cX8_rivals 0 = .ok (.iload_n 2, 1) := by decide +kernel
theorem dX8_rivals_1 : decode cX8_rivals 1 = .ok (.ifCond .ne 9, 3) := by decide +kernel
theorem dX8_rivals_4 : decode cX8_rivals 4 = .ok (.iload_n 3, 1) := by decide +kernel
theorem dX8_rivals_5 : decode cX8_rivals 5 = .ok (.ifCond .ne 5, 3) := by decide +kernel
theorem dX8_rivals_8 : decode cX8_rivals 8 = .ok (.iconst 0, 1) := by decide +kernel
theorem dX8_rivals_9 : decode cX8_rivals 9 = .ok (.ireturn, 1) := by decide +kernel
theorem dX8_rivals_10 : decode cX8_rivals 10 = .ok (.iload 4, 2) := by decide +kernel
theorem dX8_rivals_12 : decode cX8_rivals 12 = .ok (.ifCond .eq 15, 3) := by decide +kernel
theorem dX8_rivals_15 : decode cX8_rivals 15 = .ok (.iload_n 2, 1) := by decide +kernel
theorem dX8_rivals_16 : decode cX8_rivals 16 = .ok (.ifCond .eq 7, 3) := by decide +kernel
theorem dX8_rivals_19 : decode cX8_rivals 19 = .ok (.iconst 1, 1) := by decide +kernel
theorem dX8_rivals_20 : decode cX8_rivals 20 = .ok (.goto 16, 3) := by decide +kernel
theorem dX8_rivals_23 : decode cX8_rivals 23 = .ok (.iconst 0, 1) := by decide +kernel
theorem dX8_rivals_24 : decode cX8_rivals 24 = .ok (.goto 12, 3) := by decide +kernel
theorem dX8_rivals_27 : decode cX8_rivals 27 = .ok (.iload_n 3, 1) := by decide +kernel
theorem dX8_rivals_28 : decode cX8_rivals 28 = .ok (.ifCond .ne 7, 3) := by decide +kernel
theorem dX8_rivals_31 : decode cX8_rivals 31 = .ok (.iconst 1, 1) := by decide +kernel
theorem dX8_rivals_32 : decode cX8_rivals 32 = .ok (.goto 4, 3) := by decide +kernel
theorem dX8_rivals_35 : decode cX8_rivals 35 = .ok (.iconst 0, 1) := by decide +kernel
theorem dX8_rivals_36 : decode cX8_rivals 36 = .ok (.istore 6, 2) := by decide +kernel
theorem dX8_rivals_38 : decode cX8_rivals 38 = .ok (.iload 6, 2) := by decide +kernel
theorem dX8_rivals_40 : decode cX8_rivals 40 = .ok (.ifCond .eq 7, 3) := by decide +kernel
theorem dX8_rivals_43 : decode cX8_rivals 43 = .ok (.iload_n 2, 1) := by decide +kernel
theorem dX8_rivals_44 : decode cX8_rivals 44 = .ok (.goto 4, 3) := by decide +kernel
theorem dX8_rivals_47 : decode cX8_rivals 47 = .ok (.iload_n 3, 1) := by decide +kernel
theorem dX8_rivals_48 : decode cX8_rivals 48 = .ok (.istore 7, 2) := by decide +kernel
theorem dX8_rivals_50 : decode cX8_rivals 50 = .ok (.iconst 0, 1) := by decide +kernel
theorem dX8_rivals_51 : decode cX8_rivals 51 = .ok (.istore 8, 2) := by decide +kernel
theorem dX8_rivals_53 : decode cX8_rivals 53 = .ok (.iconst 0, 1) := by decide +kernel
theorem dX8_rivals_54 : decode cX8_rivals 54 = .ok (.istore 9, 2) := by decide +kernel
theorem dX8_rivals_56 : decode cX8_rivals 56 = .ok (.iconst 0, 1) := by decide +kernel
theorem dX8_rivals_57 : decode cX8_rivals 57 = .ok (.istore 10, 2) := by decide +kernel
theorem dX8_rivals_59 : decode cX8_rivals 59 = .ok (.iload 10, 2) := by decide +kernel
theorem dX8_rivals_61 : decode cX8_rivals 61 = .ok (.aload_n 0, 1) := by decide +kernel
theorem dX8_rivals_62 : decode cX8_rivals 62 = .ok (.getfield 9, 3) := by decide +kernel
theorem dX8_rivals_65 : decode cX8_rivals 65 = .ok (.iconst 0, 1) := by decide +kernel
theorem dX8_rivals_66 : decode cX8_rivals 66 = .ok (.iaload, 1) := by decide +kernel
theorem dX8_rivals_67 : decode cX8_rivals 67 = .ok (.if_icmp .ge 199, 3) := by decide +kernel
theorem dX8_rivals_70 : decode cX8_rivals 70 = .ok (.iload 7, 2) := by decide +kernel
theorem dX8_rivals_72 : decode cX8_rivals 72 = .ok (.iload 10, 2) := by decide +kernel
theorem dX8_rivals_74 : decode cX8_rivals 74 = .ok (.ishr, 1) := by decide +kernel
theorem dX8_rivals_75 : decode cX8_rivals 75 = .ok (.iconst 1, 1) := by decide +kernel
theorem dX8_rivals_76 : decode cX8_rivals 76 = .ok (.iand, 1) := by decide +kernel
theorem dX8_rivals_77 : decode cX8_rivals 77 = .ok (.iconst 1, 1) := by decide +kernel
theorem dX8_rivals_78 : decode cX8_rivals 78 = .ok (.if_icmp .ne 182, 3) := by decide +kernel
theorem dX8_rivals_81 : decode cX8_rivals 81 = .ok (.aload_n 0, 1) := by decide +kernel
theorem dX8_rivals_82 : decode cX8_rivals 82 = .ok (.iload_n 1, 1) := by decide +kernel
theorem dX8_rivals_83 : decode cX8_rivals 83 = .ok (.aload_n 0, 1) := by decide +kernel
theorem dX8_rivals_84 : decode cX8_rivals 84 = .ok (.getfield 9, 3) := by decide +kernel
theorem dX8_rivals_87 : decode cX8_rivals 87 = .ok (.bipush 10, 2) := by decide +kernel
theorem dX8_rivals_89 : decode cX8_rivals 89 = .ok (.iload 10, 2) := by decide +kernel
theorem dX8_rivals_91 : decode cX8_rivals 91 = .ok (.iadd, 1) := by decide +kernel
theorem dX8_rivals_92 : decode cX8_rivals 92 = .ok (.iaload, 1) := by decide +kernel
theorem dX8_rivals_93 : decode cX8_rivals 93 = .ok (.invokevirtual 204, 3) := by decide +kernel
theorem dX8_rivals_96 : decode cX8_rivals 96 = .ok (.istore 11, 2) := by decide +kernel
theorem dX8_rivals_98 : decode cX8_rivals 98 = .ok (.aload_n 0, 1) := by decide +kernel
theorem dX8_rivals_99 : decode cX8_rivals 99 = .ok (.iload_n 1, 1) := by decide +kernel
theorem dX8_rivals_100 : decode cX8_rivals 100 = .ok (.iload 6, 2) := by decide +kernel
theorem dX8_rivals_102 : decode cX8_rivals 102 = .ok (.ifCond .eq 14, 3) := by decide +kernel
theorem dX8_rivals_105 : decode cX8_rivals 105 = .ok (.iload_n 2, 1) := by decide +kernel
theorem dX8_rivals_106 : decode cX8_rivals 106 = .ok (.iconst 1, 1) := by decide +kernel
theorem dX8_rivals_107 : decode cX8_rivals 107 = .ok (.iload 10, 2) := by decide +kernel
theorem dX8_rivals_109 : decode cX8_rivals 109 = .ok (.ishl, 1) := by decide +kernel
theorem dX8_rivals_110 : decode cX8_rivals 110 = .ok (.iconst (-1), 1) := by decide +kernel
theorem dX8_rivals_111 : decode cX8_rivals 111 = .ok (.ixor, 1) := by decide +kernel
theorem dX8_rivals_112 : decode cX8_rivals 112 = .ok (.iand, 1) := by decide +kernel
theorem dX8_rivals_113 : decode cX8_rivals 113 = .ok (.goto 4, 3) := by decide +kernel
theorem dX8_rivals_116 : decode cX8_rivals 116 = .ok (.iload_n 2, 1) := by decide +kernel
theorem dX8_rivals_117 : decode cX8_rivals 117 = .ok (.iload 6, 2) := by decide +kernel
theorem dX8_rivals_119 : decode cX8_rivals 119 = .ok (.ifCond .eq 7, 3) := by decide +kernel
theorem dX8_rivals_122 : decode cX8_rivals 122 = .ok (.iload_n 3, 1) := by decide +kernel
theorem dX8_rivals_123 : decode cX8_rivals 123 = .ok (.goto 11, 3) := by decide +kernel
theorem dX8_rivals_126 : decode cX8_rivals 126 = .ok (.iload_n 3, 1) := by decide +kernel
theorem dX8_rivals_127 : decode cX8_rivals 127 = .ok (.iconst 1, 1) := by decide +kernel
theorem dX8_rivals_128 : decode cX8_rivals 128 = .ok (.iload 10, 2) := by decide +kernel
theorem dX8_rivals_130 : decode cX8_rivals 130 = .ok (.ishl, 1) := by decide +kernel
theorem dX8_rivals_131 : decode cX8_rivals 131 = .ok (.iconst (-1), 1) := by decide +kernel
theorem dX8_rivals_132 : decode cX8_rivals 132 = .ok (.ixor, 1) := by decide +kernel
theorem dX8_rivals_133 : decode cX8_rivals 133 = .ok (.iand, 1) := by decide +kernel
theorem dX8_rivals_134 : decode cX8_rivals 134 = .ok (.iload 6, 2) := by decide +kernel
theorem dX8_rivals_136 : decode cX8_rivals 136 = .ok (.ifCond .ne 7, 3) := by decide +kernel
theorem dX8_rivals_139 : decode cX8_rivals 139 = .ok (.iconst 1, 1) := by decide +kernel
theorem dX8_rivals_140 : decode cX8_rivals 140 = .ok (.goto 4, 3) := by decide +kernel
theorem dX8_rivals_143 : decode cX8_rivals 143 = .ok (.iconst 0, 1) := by decide +kernel
theorem dX8_rivals_144 : decode cX8_rivals 144 = .ok (.iconst 0, 1) := by decide +kernel
theorem dX8_rivals_145 : decode cX8_rivals 145 = .ok (.invokevirtual 218, 3) := by decide +kernel
theorem dX8_rivals_148 : decode cX8_rivals 148 = .ok (.istore 12, 2) := by decide +kernel
theorem dX8_rivals_150 : decode cX8_rivals 150 = .ok (.aload_n 0, 1) := by decide +kernel
theorem dX8_rivals_151 : decode cX8_rivals 151 = .ok (.dup, 1) := by decide +kernel
theorem dX8_rivals_152 : decode cX8_rivals 152 = .ok (.getfield 161, 3) := by decide +kernel
theorem dX8_rivals_155 : decode cX8_rivals 155 = .ok (.iconst 1, 1) := by decide +kernel
theorem dX8_rivals_156 : decode cX8_rivals 156 = .ok (.isub, 1) := by decide +kernel
theorem dX8_rivals_157 : decode cX8_rivals 157 = .ok (.putfield 161, 3) := by decide +kernel
theorem dX8_rivals_160 : decode cX8_rivals 160 = .ok (.iload 12, 2) := by decide +kernel
theorem dX8_rivals_162 : decode cX8_rivals 162 = .ok (.iload 11, 2) := by decide +kernel
theorem dX8_rivals_164 : decode cX8_rivals 164 = .ok (.ifCond .eq 35, 3) := by decide +kernel
theorem dX8_rivals_167 : decode cX8_rivals 167 = .ok (.iload 6, 2) := by decide +kernel
theorem dX8_rivals_169 : decode cX8_rivals 169 = .ok (.ifCond .eq 16, 3) := by decide +kernel
theorem dX8_rivals_172 : decode cX8_rivals 172 = .ok (.aload_n 0, 1) := by decide +kernel
theorem dX8_rivals_173 : decode cX8_rivals 173 = .ok (.getfield 9, 3) := by decide +kernel
theorem dX8_rivals_176 : decode cX8_rivals 176 = .ok (.bipush 18, 2) := by decide +kernel
theorem dX8_rivals_178 : decode cX8_rivals 178 = .ok (.iload 10, 2) := by decide +kernel
theorem dX8_rivals_180 : decode cX8_rivals 180 = .ok (.iadd, 1) := by decide +kernel
theorem dX8_rivals_181 : decode cX8_rivals 181 = .ok (.iaload, 1) := by decide +kernel
theorem dX8_rivals_182 : decode cX8_rivals 182 = .ok (.goto 18, 3) := by decide +kernel
theorem dX8_rivals_185 : decode cX8_rivals 185 = .ok (.aload_n 0, 1) := by decide +kernel
theorem dX8_rivals_186 : decode cX8_rivals 186 = .ok (.getfield 9, 3) := by decide +kernel
theorem dX8_rivals_189 : decode cX8_rivals 189 = .ok (.bipush 18, 2) := by decide +kernel
theorem dX8_rivals_191 : decode cX8_rivals 191 = .ok (.iload 10, 2) := by decide +kernel
theorem dX8_rivals_193 : decode cX8_rivals 193 = .ok (.iadd, 1) := by decide +kernel
theorem dX8_rivals_194 : decode cX8_rivals 194 = .ok (.iaload, 1) := by decide +kernel
theorem dX8_rivals_195 : decode cX8_rivals 195 = .ok (.ineg, 1) := by decide +kernel
theorem dX8_rivals_196 : decode cX8_rivals 196 = .ok (.goto 4, 3) := by decide +kernel
theorem dX8_rivals_199 : decode cX8_rivals 199 = .ok (.iconst 0, 1) := by decide +kernel
theorem dX8_rivals_200 : decode cX8_rivals 200 = .ok (.iadd, 1) := by decide +kernel
theorem dX8_rivals_201 : decode cX8_rivals 201 = .ok (.istore 12, 2) := by decide +kernel
theorem dX8_rivals_203 : decode cX8_rivals 203 = .ok (.iload 9, 2) := by decide +kernel
theorem dX8_rivals_205 : decode cX8_rivals 205 = .ok (.ifCond .eq 25, 3) := by decide +kernel
theorem dX8_rivals_208 : decode cX8_rivals 208 = .ok (.iload 6, 2) := by decide +kernel
theorem dX8_rivals_210 : decode cX8_rivals 210 = .ok (.ifCond .eq 13, 3) := by decide +kernel
theorem dX8_rivals_213 : decode cX8_rivals 213 = .ok (.iload 12, 2) := by decide +kernel
theorem dX8_rivals_215 : decode cX8_rivals 215 = .ok (.iload 8, 2) := by decide +kernel
theorem dX8_rivals_217 : decode cX8_rivals 217 = .ok (.if_icmp .le 43, 3) := by decide +kernel
theorem dX8_rivals_220 : decode cX8_rivals 220 = .ok (.goto 10, 3) := by decide +kernel
theorem dX8_rivals_223 : decode cX8_rivals 223 = .ok (.iload 12, 2) := by decide +kernel
theorem dX8_rivals_225 : decode cX8_rivals 225 = .ok (.iload 8, 2) := by decide +kernel
theorem dX8_rivals_227 : decode cX8_rivals 227 = .ok (.if_icmp .ge 33, 3) := by decide +kernel
theorem dX8_rivals_230 : decode cX8_rivals 230 = .ok (.iload 12, 2) := by decide +kernel
theorem dX8_rivals_232 : decode cX8_rivals 232 = .ok (.istore 8, 2) := by decide +kernel
theorem dX8_rivals_234 : decode cX8_rivals 234 = .ok (.iconst 1, 1) := by decide +kernel
theorem dX8_rivals_235 : decode cX8_rivals 235 = .ok (.istore 9, 2) := by decide +kernel
theorem dX8_rivals_237 : decode cX8_rivals 237 = .ok (.aload_n 0, 1) := by decide +kernel
theorem dX8_rivals_238 : decode cX8_rivals 238 = .ok (.iload 5, 2) := by decide +kernel
theorem dX8_rivals_240 : decode cX8_rivals 240 = .ok (.ifCond .eq 13, 3) := by decide +kernel
theorem dX8_rivals_243 : decode cX8_rivals 243 = .ok (.iload 6, 2) := by decide +kernel
theorem dX8_rivals_245 : decode cX8_rivals 245 = .ok (.ifCond .eq 8, 3) := by decide +kernel
theorem dX8_rivals_248 : decode cX8_rivals 248 = .ok (.iload 10, 2) := by decide +kernel
theorem dX8_rivals_250 : decode cX8_rivals 250 = .ok (.goto 7, 3) := by decide +kernel
theorem dX8_rivals_253 : decode cX8_rivals 253 = .ok (.aload_n 0, 1) := by decide +kernel
theorem dX8_rivals_254 : decode cX8_rivals 254 = .ok (.getfield 222, 3) := by decide +kernel
theorem dX8_rivals_257 : decode cX8_rivals 257 = .ok (.putfield 222, 3) := by decide +kernel
theorem dX8_rivals_260 : decode cX8_rivals 260 = .ok (.iinc 10 1, 3) := by decide +kernel
theorem dX8_rivals_263 : decode cX8_rivals 263 = .ok (.goto (-204), 3) := by decide +kernel
theorem dX8_rivals_266 : decode cX8_rivals 266 = .ok (.iload 8, 2) := by decide +kernel
theorem dX8_rivals_268 : decode cX8_rivals 268 = .ok (.ireturn, 1) := by decide +kernel
theorem dX8_rival_0 : decode cX8_rival 0 = .ok (.aload_n 0, 1) := by decide +kernel
theorem dX8_rival_1 : decode cX8_rival 1 = .ok (.iload_n 1, 1) := by decide +kernel
theorem dX8_rival_2 : decode cX8_rival 2 = .ok (.invokevirtual 137, 3) := by decide +kernel
theorem dX8_rival_5 : decode cX8_rival 5 = .ok (.ifCond .eq 13, 3) := by decide +kernel
theorem dX8_rival_8 : decode cX8_rival 8 = .ok (.iload 4, 2) := by decide +kernel
theorem dX8_rival_10 : decode cX8_rival 10 = .ok (.iconst 0, 1) := by decide +kernel
theorem dX8_rival_11 : decode cX8_rival 11 = .ok (.iconst 1, 1) := by decide +kernel
theorem dX8_rival_12 : decode cX8_rival 12 = .ok (.invokestatic 53, 3) := by decide +kernel
theorem dX8_rival_15 : decode cX8_rival 15 = .ok (.ifCond .ne 6, 3) := by decide +kernel
theorem dX8_rival_18 : decode cX8_rival 18 = .ok (.ldc 153, 2) := by decide +kernel
theorem dX8_rival_20 : decode cX8_rival 20 = .ok (.ireturn, 1) := by decide +kernel
theorem dX8_rival_21 : decode cX8_rival 21 = .ok (.aload_n 0, 1) := by decide +kernel
theorem dX8_rival_22 : decode cX8_rival 22 = .ok (.iload_n 2, 1) := by decide +kernel
theorem dX8_rival_23 : decode cX8_rival 23 = .ok (.invokevirtual 211, 3) := by decide +kernel
theorem dX8_rival_26 : decode cX8_rival 26 = .ok (.ifCond .eq 28, 3) := by decide +kernel
theorem dX8_rival_29 : decode cX8_rival 29 = .ok (.aload_n 0, 1) := by decide +kernel
theorem dX8_rival_30 : decode cX8_rival 30 = .ok (.iload_n 3, 1) := by decide +kernel
theorem dX8_rival_31 : decode cX8_rival 31 = .ok (.invokevirtual 211, 3) := by decide +kernel
theorem dX8_rival_34 : decode cX8_rival 34 = .ok (.ifCond .eq 20, 3) := by decide +kernel
theorem dX8_rival_37 : decode cX8_rival 37 = .ok (.iload_n 2, 1) := by decide +kernel
theorem dX8_rival_38 : decode cX8_rival 38 = .ok (.iload_n 3, 1) := by decide +kernel
theorem dX8_rival_39 : decode cX8_rival 39 = .ok (.iand, 1) := by decide +kernel
theorem dX8_rival_40 : decode cX8_rival 40 = .ok (.ifCond .ne 14, 3) := by decide +kernel
theorem dX8_rival_43 : decode cX8_rival 43 = .ok (.iload_n 2, 1) := by decide +kernel
theorem dX8_rival_44 : decode cX8_rival 44 = .ok (.iload_n 3, 1) := by decide +kernel
theorem dX8_rival_45 : decode cX8_rival 45 = .ok (.ior, 1) := by decide +kernel
theorem dX8_rival_46 : decode cX8_rival 46 = .ok (.invokestatic 178, 3) := by decide +kernel
theorem dX8_rival_49 : decode cX8_rival 49 = .ok (.bipush 6, 2) := by decide +kernel
theorem dX8_rival_51 : decode cX8_rival 51 = .ok (.if_icmp .le 6, 3) := by decide +kernel
theorem dX8_rival_54 : decode cX8_rival 54 = .ok (.ldc 214, 2) := by decide +kernel
theorem dX8_rival_56 : decode cX8_rival 56 = .ok (.ireturn, 1) := by decide +kernel
theorem dX8_rival_57 : decode cX8_rival 57 = .ok (.aload_n 0, 1) := by decide +kernel
theorem dX8_rival_58 : decode cX8_rival 58 = .ok (.iload_n 1, 1) := by decide +kernel
theorem dX8_rival_59 : decode cX8_rival 59 = .ok (.invokevirtual 154, 3) := by decide +kernel
theorem dX8_rival_62 : decode cX8_rival 62 = .ok (.aload_n 0, 1) := by decide +kernel
theorem dX8_rival_63 : decode cX8_rival 63 = .ok (.invokevirtual 194, 3) := by decide +kernel
theorem dX8_rival_66 : decode cX8_rival 66 = .ok (.aload_n 0, 1) := by decide +kernel
theorem dX8_rival_67 : decode cX8_rival 67 = .ok (.bipush (-5), 2) := by decide +kernel
theorem dX8_rival_69 : decode cX8_rival 69 = .ok (.putfield 222, 3) := by decide +kernel
theorem dX8_rival_72 : decode cX8_rival 72 = .ok (.aload_n 0, 1) := by decide +kernel
theorem dX8_rival_73 : decode cX8_rival 73 = .ok (.iload_n 1, 1) := by decide +kernel
theorem dX8_rival_74 : decode cX8_rival 74 = .ok (.iload_n 2, 1) := by decide +kernel
theorem dX8_rival_75 : decode cX8_rival 75 = .ok (.iload_n 3, 1) := by decide +kernel
theorem dX8_rival_76 : decode cX8_rival 76 = .ok (.iconst 1, 1) := by decide +kernel
theorem dX8_rival_77 : decode cX8_rival 77 = .ok (.iconst 1, 1) := by decide +kernel
theorem dX8_rival_78 : decode cX8_rival 78 = .ok (.invokevirtual 218, 3) := by decide +kernel
theorem dX8_rival_81 : decode cX8_rival 81 = .ok (.istore 5, 2) := by decide +kernel
theorem dX8_rival_83 : decode cX8_rival 83 = .ok (.iload 4, 2) := by decide +kernel
theorem dX8_rival_85 : decode cX8_rival 85 = .ok (.ifCond .ne 8, 3) := by decide +kernel
theorem dX8_rival_88 : decode cX8_rival 88 = .ok (.iload 5, 2) := by decide +kernel
theorem dX8_rival_90 : decode cX8_rival 90 = .ok (.goto 7, 3) := by decide +kernel
theorem dX8_rival_93 : decode cX8_rival 93 = .ok (.aload_n 0, 1) := by decide +kernel
theorem dX8_rival_94 : decode cX8_rival 94 = .ok (.getfield 222, 3) := by decide +kernel
theorem dX8_rival_97 : decode cX8_rival 97 = .ok (.ireturn, 1) := by decide +kernel
theorem dX8_again_0 : decode cX8_again 0 = .ok (.aload_n 0, 1) := by decide +kernel
theorem dX8_again_1 : decode cX8_again 1 = .ok (.iload_n 1, 1) := by decide +kernel
theorem dX8_again_2 : decode cX8_again 2 = .ok (.invokevirtual 137, 3) := by decide +kernel
theorem dX8_again_5 : decode cX8_again 5 = .ok (.ifCond .eq 11, 3) := by decide +kernel
theorem dX8_again_8 : decode cX8_again 8 = .ok (.aload_n 0, 1) := by decide +kernel
theorem dX8_again_9 : decode cX8_again 9 = .ok (.iload_n 2, 1) := by decide +kernel
theorem dX8_again_10 : decode cX8_again 10 = .ok (.invokevirtual 133, 3) := by decide +kernel
theorem dX8_again_13 : decode cX8_again 13 = .ok (.ifCond .ne 5, 3) := by decide +kernel
theorem dX8_again_16 : decode cX8_again 16 = .ok (.iconst (-1), 1) := by decide +kernel
theorem dX8_again_17 : decode cX8_again 17 = .ok (.ireturn, 1) := by decide +kernel
theorem dX8_again_18 : decode cX8_again 18 = .ok (.iload_n 3, 1) := by decide +kernel
theorem dX8_again_19 : decode cX8_again 19 = .ok (.iconst 0, 1) := by decide +kernel
theorem dX8_again_20 : decode cX8_again 20 = .ok (.bipush 60, 2) := by decide +kernel
theorem dX8_again_22 : decode cX8_again 22 = .ok (.invokestatic 53, 3) := by decide +kernel
theorem dX8_again_25 : decode cX8_again 25 = .ok (.ifCond .ne 6, 3) := by decide +kernel
theorem dX8_again_28 : decode cX8_again 28 = .ok (.bipush (-2), 2) := by decide +kernel
theorem dX8_again_30 : decode cX8_again 30 = .ok (.ireturn, 1) := by decide +kernel
theorem dX8_again_31 : decode cX8_again 31 = .ok (.aload_n 0, 1) := by decide +kernel
theorem dX8_again_32 : decode cX8_again 32 = .ok (.iload_n 1, 1) := by decide +kernel
theorem dX8_again_33 : decode cX8_again 33 = .ok (.invokevirtual 154, 3) := by decide +kernel
theorem dX8_again_36 : decode cX8_again 36 = .ok (.aload_n 0, 1) := by decide +kernel
theorem dX8_again_37 : decode cX8_again 37 = .ok (.invokevirtual 194, 3) := by decide +kernel
theorem dX8_again_40 : decode cX8_again 40 = .ok (.iconst 0, 1) := by decide +kernel
theorem dX8_again_41 : decode cX8_again 41 = .ok (.istore 4, 2) := by decide +kernel
theorem dX8_again_43 : decode cX8_again 43 = .ok (.iconst 0, 1) := by decide +kernel
theorem dX8_again_44 : decode cX8_again 44 = .ok (.istore 5, 2) := by decide +kernel
theorem dX8_again_46 : decode cX8_again 46 = .ok (.iload 5, 2) := by decide +kernel
theorem dX8_again_48 : decode cX8_again 48 = .ok (.iload_n 3, 1) := by decide +kernel
theorem dX8_again_49 : decode cX8_again 49 = .ok (.if_icmp .ge 36, 3) := by decide +kernel
theorem dX8_again_52 : decode cX8_again 52 = .ok (.iload 4, 2) := by decide +kernel
theorem dX8_again_54 : decode cX8_again 54 = .ok (.aload_n 0, 1) := by decide +kernel
theorem dX8_again_55 : decode cX8_again 55 = .ok (.iload_n 1, 1) := by decide +kernel
theorem dX8_again_56 : decode cX8_again 56 = .ok (.aload_n 0, 1) := by decide +kernel
theorem dX8_again_57 : decode cX8_again 57 = .ok (.getfield 9, 3) := by decide +kernel
theorem dX8_again_60 : decode cX8_again 60 = .ok (.bipush 10, 2) := by decide +kernel
theorem dX8_again_62 : decode cX8_again 62 = .ok (.iload_n 2, 1) := by decide +kernel
theorem dX8_again_63 : decode cX8_again 63 = .ok (.iadd, 1) := by decide +kernel
theorem dX8_again_64 : decode cX8_again 64 = .ok (.iaload, 1) := by decide +kernel
theorem dX8_again_65 : decode cX8_again 65 = .ok (.invokevirtual 204, 3) := by decide +kernel
theorem dX8_again_68 : decode cX8_again 68 = .ok (.ifCond .eq 7, 3) := by decide +kernel
theorem dX8_again_71 : decode cX8_again 71 = .ok (.iconst 1, 1) := by decide +kernel
theorem dX8_again_72 : decode cX8_again 72 = .ok (.goto 4, 3) := by decide +kernel
theorem dX8_again_75 : decode cX8_again 75 = .ok (.iconst 0, 1) := by decide +kernel
theorem dX8_again_76 : decode cX8_again 76 = .ok (.iadd, 1) := by decide +kernel
theorem dX8_again_77 : decode cX8_again 77 = .ok (.istore 4, 2) := by decide +kernel
theorem dX8_again_79 : decode cX8_again 79 = .ok (.iinc 5 1, 3) := by decide +kernel
theorem dX8_again_82 : decode cX8_again 82 = .ok (.goto (-36), 3) := by decide +kernel
theorem dX8_again_85 : decode cX8_again 85 = .ok (.iload 4, 2) := by decide +kernel
theorem dX8_again_87 : decode cX8_again 87 = .ok (.ireturn, 1) := by decide +kernel
theorem dX8_swing_0 : decode cX8_swing 0 = .ok (.aload_n 0, 1) := by decide +kernel
theorem dX8_swing_1 : decode cX8_swing 1 = .ok (.iload_n 1, 1) := by decide +kernel
theorem dX8_swing_2 : decode cX8_swing 2 = .ok (.invokevirtual 137, 3) := by decide +kernel
theorem dX8_swing_5 : decode cX8_swing 5 = .ok (.ifCond .eq 11, 3) := by decide +kernel
theorem dX8_swing_8 : decode cX8_swing 8 = .ok (.aload_n 0, 1) := by decide +kernel
theorem dX8_swing_9 : decode cX8_swing 9 = .ok (.iload_n 2, 1) := by decide +kernel
theorem dX8_swing_10 : decode cX8_swing 10 = .ok (.invokevirtual 133, 3) := by decide +kernel
theorem dX8_swing_13 : decode cX8_swing 13 = .ok (.ifCond .ne 5, 3) := by decide +kernel
theorem dX8_swing_16 : decode cX8_swing 16 = .ok (.iconst (-1), 1) := by decide +kernel
theorem dX8_swing_17 : decode cX8_swing 17 = .ok (.ireturn, 1) := by decide +kernel
theorem dX8_swing_18 : decode cX8_swing 18 = .ok (.aload_n 0, 1) := by decide +kernel
theorem dX8_swing_19 : decode cX8_swing 19 = .ok (.iload_n 1, 1) := by decide +kernel
theorem dX8_swing_20 : decode cX8_swing 20 = .ok (.invokevirtual 154, 3) := by decide +kernel
theorem dX8_swing_23 : decode cX8_swing 23 = .ok (.aload_n 0, 1) := by decide +kernel
theorem dX8_swing_24 : decode cX8_swing 24 = .ok (.invokevirtual 194, 3) := by decide +kernel
theorem dX8_swing_27 : decode cX8_swing 27 = .ok (.aload_n 0, 1) := by decide +kernel
theorem dX8_swing_28 : decode cX8_swing 28 = .ok (.iload_n 1, 1) := by decide +kernel
theorem dX8_swing_29 : decode cX8_swing 29 = .ok (.aload_n 0, 1) := by decide +kernel
theorem dX8_swing_30 : decode cX8_swing 30 = .ok (.getfield 9, 3) := by decide +kernel
theorem dX8_swing_33 : decode cX8_swing 33 = .ok (.bipush 10, 2) := by decide +kernel
theorem dX8_swing_35 : decode cX8_swing 35 = .ok (.iload_n 2, 1) := by decide +kernel
theorem dX8_swing_36 : decode cX8_swing 36 = .ok (.iadd, 1) := by decide +kernel
theorem dX8_swing_37 : decode cX8_swing 37 = .ok (.iaload, 1) := by decide +kernel
theorem dX8_swing_38 : decode cX8_swing 38 = .ok (.invokevirtual 204, 3) := by decide +kernel
theorem dX8_swing_41 : decode cX8_swing 41 = .ok (.istore_n 3, 1) := by decide +kernel
theorem dX8_swing_42 : decode cX8_swing 42 = .ok (.iconst 1, 1) := by decide +kernel
theorem dX8_swing_43 : decode cX8_swing 43 = .ok (.istore 4, 2) := by decide +kernel
theorem dX8_swing_45 : decode cX8_swing 45 = .ok (.iload 4, 2) := by decide +kernel
theorem dX8_swing_47 : decode cX8_swing 47 = .ok (.bipush 60, 2) := by decide +kernel
theorem dX8_swing_49 : decode cX8_swing 49 = .ok (.if_icmp .gt 30, 3) := by decide +kernel
theorem dX8_swing_52 : decode cX8_swing 52 = .ok (.aload_n 0, 1) := by decide +kernel
theorem dX8_swing_53 : decode cX8_swing 53 = .ok (.iload_n 1, 1) := by decide +kernel
theorem dX8_swing_54 : decode cX8_swing 54 = .ok (.aload_n 0, 1) := by decide +kernel
theorem dX8_swing_55 : decode cX8_swing 55 = .ok (.getfield 9, 3) := by decide +kernel
theorem dX8_swing_58 : decode cX8_swing 58 = .ok (.bipush 10, 2) := by decide +kernel
theorem dX8_swing_60 : decode cX8_swing 60 = .ok (.iload_n 2, 1) := by decide +kernel
theorem dX8_swing_61 : decode cX8_swing 61 = .ok (.iadd, 1) := by decide +kernel
theorem dX8_swing_62 : decode cX8_swing 62 = .ok (.iaload, 1) := by decide +kernel
theorem dX8_swing_63 : decode cX8_swing 63 = .ok (.invokevirtual 204, 3) := by decide +kernel
theorem dX8_swing_66 : decode cX8_swing 66 = .ok (.iload_n 3, 1) := by decide +kernel
theorem dX8_swing_67 : decode cX8_swing 67 = .ok (.if_icmp .eq 6, 3) := by decide +kernel
theorem dX8_swing_70 : decode cX8_swing 70 = .ok (.iload 4, 2) := by decide +kernel
theorem dX8_swing_72 : decode cX8_swing 72 = .ok (.ireturn, 1) := by decide +kernel
theorem dX8_swing_73 : decode cX8_swing 73 = .ok (.iinc 4 1, 3) := by decide +kernel
theorem dX8_swing_76 : decode cX8_swing 76 = .ok (.goto (-31), 3) := by decide +kernel
theorem dX8_swing_79 : decode cX8_swing 79 = .ok (.bipush (-5), 2) := by decide +kernel
theorem dX8_swing_81 : decode cX8_swing 81 = .ok (.ireturn, 1) := by decide +kernel
theorem dX8_firstUnlawful_0 : decode cX8_firstUnlawful 0 = .ok (.aload_n 0, 1) := by decide +kernel
theorem dX8_firstUnlawful_1 : decode cX8_firstUnlawful 1 = .ok (.iconst 0, 1) := by decide +kernel
theorem dX8_firstUnlawful_2 : decode cX8_firstUnlawful 2 = .ok (.putfield 161, 3) := by decide +kernel
theorem dX8_firstUnlawful_5 : decode cX8_firstUnlawful 5 = .ok (.iconst 0, 1) := by decide +kernel
theorem dX8_firstUnlawful_6 : decode cX8_firstUnlawful 6 = .ok (.istore_n 3, 1) := by decide +kernel
theorem dX8_firstUnlawful_7 : decode cX8_firstUnlawful 7 = .ok (.iload_n 3, 1) := by decide +kernel
theorem dX8_firstUnlawful_8 : decode cX8_firstUnlawful 8 = .ok (.aload_n 0, 1) := by decide +kernel
theorem dX8_firstUnlawful_9 : decode cX8_firstUnlawful 9 = .ok (.getfield 9, 3) := by decide +kernel
theorem dX8_firstUnlawful_12 : decode cX8_firstUnlawful 12 = .ok (.iconst 3, 1) := by decide +kernel
theorem dX8_firstUnlawful_13 : decode cX8_firstUnlawful 13 = .ok (.iaload, 1) := by decide +kernel
theorem dX8_firstUnlawful_14 : decode cX8_firstUnlawful 14 = .ok (.if_icmp .ge 88, 3) := by decide +kernel
theorem dX8_firstUnlawful_17 : decode cX8_firstUnlawful 17 = .ok (.aload_n 0, 1) := by decide +kernel
theorem dX8_firstUnlawful_18 : decode cX8_firstUnlawful 18 = .ok (.getfield 9, 3) := by decide +kernel
theorem dX8_firstUnlawful_21 : decode cX8_firstUnlawful 21 = .ok (.bipush 10, 2) := by decide +kernel
theorem dX8_firstUnlawful_23 : decode cX8_firstUnlawful 23 = .ok (.aload_n 0, 1) := by decide +kernel
theorem dX8_firstUnlawful_24 : decode cX8_firstUnlawful 24 = .ok (.getfield 9, 3) := by decide +kernel
theorem dX8_firstUnlawful_27 : decode cX8_firstUnlawful 27 = .ok (.bipush 50, 2) := by decide +kernel
theorem dX8_firstUnlawful_29 : decode cX8_firstUnlawful 29 = .ok (.iload_n 3, 1) := by decide +kernel
theorem dX8_firstUnlawful_30 : decode cX8_firstUnlawful 30 = .ok (.iadd, 1) := by decide +kernel
theorem dX8_firstUnlawful_31 : decode cX8_firstUnlawful 31 = .ok (.iaload, 1) := by decide +kernel
theorem dX8_firstUnlawful_32 : decode cX8_firstUnlawful 32 = .ok (.iadd, 1) := by decide +kernel
theorem dX8_firstUnlawful_33 : decode cX8_firstUnlawful 33 = .ok (.iaload, 1) := by decide +kernel
theorem dX8_firstUnlawful_34 : decode cX8_firstUnlawful 34 = .ok (.istore 4, 2) := by decide +kernel
theorem dX8_firstUnlawful_36 : decode cX8_firstUnlawful 36 = .ok (.aload_n 0, 1) := by decide +kernel
theorem dX8_firstUnlawful_37 : decode cX8_firstUnlawful 37 = .ok (.getfield 9, 3) := by decide +kernel
theorem dX8_firstUnlawful_40 : decode cX8_firstUnlawful 40 = .ok (.bipush 74, 2) := by decide +kernel
theorem dX8_firstUnlawful_42 : decode cX8_firstUnlawful 42 = .ok (.iload_n 3, 1) := by decide +kernel
theorem dX8_firstUnlawful_43 : decode cX8_firstUnlawful 43 = .ok (.iadd, 1) := by decide +kernel
theorem dX8_firstUnlawful_44 : decode cX8_firstUnlawful 44 = .ok (.iaload, 1) := by decide +kernel
theorem dX8_firstUnlawful_45 : decode cX8_firstUnlawful 45 = .ok (.iconst 1, 1) := by decide +kernel
theorem dX8_firstUnlawful_46 : decode cX8_firstUnlawful 46 = .ok (.if_icmp .ne 7, 3) := by decide +kernel
theorem dX8_firstUnlawful_49 : decode cX8_firstUnlawful 49 = .ok (.iconst 1, 1) := by decide +kernel
theorem dX8_firstUnlawful_50 : decode cX8_firstUnlawful 50 = .ok (.goto 4, 3) := by decide +kernel
theorem dX8_firstUnlawful_53 : decode cX8_firstUnlawful 53 = .ok (.iconst 0, 1) := by decide +kernel
theorem dX8_firstUnlawful_54 : decode cX8_firstUnlawful 54 = .ok (.iload_n 3, 1) := by decide +kernel
theorem dX8_firstUnlawful_55 : decode cX8_firstUnlawful 55 = .ok (.iload_n 2, 1) := by decide +kernel
theorem dX8_firstUnlawful_56 : decode cX8_firstUnlawful 56 = .ok (.if_icmp .ne 7, 3) := by decide +kernel
theorem dX8_firstUnlawful_59 : decode cX8_firstUnlawful 59 = .ok (.iconst 1, 1) := by decide +kernel
theorem dX8_firstUnlawful_60 : decode cX8_firstUnlawful 60 = .ok (.goto 4, 3) := by decide +kernel
theorem dX8_firstUnlawful_63 : decode cX8_firstUnlawful 63 = .ok (.iconst 0, 1) := by decide +kernel
theorem dX8_firstUnlawful_64 : decode cX8_firstUnlawful 64 = .ok (.if_icmp .eq 7, 3) := by decide +kernel
theorem dX8_firstUnlawful_67 : decode cX8_firstUnlawful 67 = .ok (.iconst 1, 1) := by decide +kernel
theorem dX8_firstUnlawful_68 : decode cX8_firstUnlawful 68 = .ok (.goto 4, 3) := by decide +kernel
theorem dX8_firstUnlawful_71 : decode cX8_firstUnlawful 71 = .ok (.iconst 0, 1) := by decide +kernel
theorem dX8_firstUnlawful_72 : decode cX8_firstUnlawful 72 = .ok (.istore 5, 2) := by decide +kernel
theorem dX8_firstUnlawful_74 : decode cX8_firstUnlawful 74 = .ok (.aload_n 0, 1) := by decide +kernel
theorem dX8_firstUnlawful_75 : decode cX8_firstUnlawful 75 = .ok (.iload_n 1, 1) := by decide +kernel
theorem dX8_firstUnlawful_76 : decode cX8_firstUnlawful 76 = .ok (.iload 4, 2) := by decide +kernel
theorem dX8_firstUnlawful_78 : decode cX8_firstUnlawful 78 = .ok (.invokevirtual 191, 3) := by decide +kernel
theorem dX8_firstUnlawful_81 : decode cX8_firstUnlawful 81 = .ok (.iload 5, 2) := by decide +kernel
theorem dX8_firstUnlawful_83 : decode cX8_firstUnlawful 83 = .ok (.if_icmp .eq 5, 3) := by decide +kernel
theorem dX8_firstUnlawful_86 : decode cX8_firstUnlawful 86 = .ok (.iload_n 3, 1) := by decide +kernel
theorem dX8_firstUnlawful_87 : decode cX8_firstUnlawful 87 = .ok (.ireturn, 1) := by decide +kernel
theorem dX8_firstUnlawful_88 : decode cX8_firstUnlawful 88 = .ok (.aload_n 0, 1) := by decide +kernel
theorem dX8_firstUnlawful_89 : decode cX8_firstUnlawful 89 = .ok (.iload 4, 2) := by decide +kernel
theorem dX8_firstUnlawful_91 : decode cX8_firstUnlawful 91 = .ok (.iload 5, 2) := by decide +kernel
theorem dX8_firstUnlawful_93 : decode cX8_firstUnlawful 93 = .ok (.invokevirtual 164, 3) := by decide +kernel
theorem dX8_firstUnlawful_96 : decode cX8_firstUnlawful 96 = .ok (.iinc 3 1, 3) := by decide +kernel
theorem dX8_firstUnlawful_99 : decode cX8_firstUnlawful 99 = .ok (.goto (-92), 3) := by decide +kernel
theorem dX8_firstUnlawful_102 : decode cX8_firstUnlawful 102 = .ok (.bipush (-5), 2) := by decide +kernel
theorem dX8_firstUnlawful_104 : decode cX8_firstUnlawful 104 = .ok (.ireturn, 1) := by decide +kernel
theorem dX8_unlawful_0 : decode cX8_unlawful 0 = .ok (.aload_n 0, 1) := by decide +kernel
theorem dX8_unlawful_1 : decode cX8_unlawful 1 = .ok (.iload_n 1, 1) := by decide +kernel
theorem dX8_unlawful_2 : decode cX8_unlawful 2 = .ok (.invokevirtual 137, 3) := by decide +kernel
theorem dX8_unlawful_5 : decode cX8_unlawful 5 = .ok (.ifCond .ne 5, 3) := by decide +kernel
theorem dX8_unlawful_8 : decode cX8_unlawful 8 = .ok (.iconst (-1), 1) := by decide +kernel
theorem dX8_unlawful_9 : decode cX8_unlawful 9 = .ok (.ireturn, 1) := by decide +kernel
theorem dX8_unlawful_10 : decode cX8_unlawful 10 = .ok (.aload_n 0, 1) := by decide +kernel
theorem dX8_unlawful_11 : decode cX8_unlawful 11 = .ok (.iload_n 1, 1) := by decide +kernel
theorem dX8_unlawful_12 : decode cX8_unlawful 12 = .ok (.invokevirtual 154, 3) := by decide +kernel
theorem dX8_unlawful_15 : decode cX8_unlawful 15 = .ok (.aload_n 0, 1) := by decide +kernel
theorem dX8_unlawful_16 : decode cX8_unlawful 16 = .ok (.iload_n 1, 1) := by decide +kernel
theorem dX8_unlawful_17 : decode cX8_unlawful 17 = .ok (.iconst (-1), 1) := by decide +kernel
theorem dX8_unlawful_18 : decode cX8_unlawful 18 = .ok (.invokevirtual 225, 3) := by decide +kernel
theorem dX8_unlawful_21 : decode cX8_unlawful 21 = .ok (.ireturn, 1) := by decide +kernel
theorem dX8_wrong_0 : decode cX8_wrong 0 = .ok (.aload_n 0, 1) := by decide +kernel
theorem dX8_wrong_1 : decode cX8_wrong 1 = .ok (.iload_n 1, 1) := by decide +kernel
theorem dX8_wrong_2 : decode cX8_wrong 2 = .ok (.invokevirtual 137, 3) := by decide +kernel
theorem dX8_wrong_5 : decode cX8_wrong 5 = .ok (.ifCond .ne 5, 3) := by decide +kernel
theorem dX8_wrong_8 : decode cX8_wrong 8 = .ok (.iconst (-1), 1) := by decide +kernel
theorem dX8_wrong_9 : decode cX8_wrong 9 = .ok (.ireturn, 1) := by decide +kernel
theorem dX8_wrong_10 : decode cX8_wrong 10 = .ok (.aload_n 0, 1) := by decide +kernel
theorem dX8_wrong_11 : decode cX8_wrong 11 = .ok (.iload_n 1, 1) := by decide +kernel
theorem dX8_wrong_12 : decode cX8_wrong 12 = .ok (.invokevirtual 154, 3) := by decide +kernel
theorem dX8_wrong_15 : decode cX8_wrong 15 = .ok (.iconst 0, 1) := by decide +kernel
theorem dX8_wrong_16 : decode cX8_wrong 16 = .ok (.istore_n 2, 1) := by decide +kernel
theorem dX8_wrong_17 : decode cX8_wrong 17 = .ok (.iconst 0, 1) := by decide +kernel
theorem dX8_wrong_18 : decode cX8_wrong 18 = .ok (.istore_n 3, 1) := by decide +kernel
theorem dX8_wrong_19 : decode cX8_wrong 19 = .ok (.iload_n 3, 1) := by decide +kernel
theorem dX8_wrong_20 : decode cX8_wrong 20 = .ok (.aload_n 0, 1) := by decide +kernel
theorem dX8_wrong_21 : decode cX8_wrong 21 = .ok (.getfield 9, 3) := by decide +kernel
theorem dX8_wrong_24 : decode cX8_wrong 24 = .ok (.iconst 3, 1) := by decide +kernel
theorem dX8_wrong_25 : decode cX8_wrong 25 = .ok (.iaload, 1) := by decide +kernel
theorem dX8_wrong_26 : decode cX8_wrong 26 = .ok (.if_icmp .ge 30, 3) := by decide +kernel
theorem dX8_wrong_29 : decode cX8_wrong 29 = .ok (.iload_n 2, 1) := by decide +kernel
theorem dX8_wrong_30 : decode cX8_wrong 30 = .ok (.aload_n 0, 1) := by decide +kernel
theorem dX8_wrong_31 : decode cX8_wrong 31 = .ok (.iload_n 1, 1) := by decide +kernel
theorem dX8_wrong_32 : decode cX8_wrong 32 = .ok (.iload_n 3, 1) := by decide +kernel
theorem dX8_wrong_33 : decode cX8_wrong 33 = .ok (.invokevirtual 225, 3) := by decide +kernel
theorem dX8_wrong_36 : decode cX8_wrong 36 = .ok (.bipush (-5), 2) := by decide +kernel
theorem dX8_wrong_38 : decode cX8_wrong 38 = .ok (.if_icmp .ne 9, 3) := by decide +kernel
theorem dX8_wrong_41 : decode cX8_wrong 41 = .ok (.iconst 1, 1) := by decide +kernel
theorem dX8_wrong_42 : decode cX8_wrong 42 = .ok (.iload_n 3, 1) := by decide +kernel
theorem dX8_wrong_43 : decode cX8_wrong 43 = .ok (.ishl, 1) := by decide +kernel
theorem dX8_wrong_44 : decode cX8_wrong 44 = .ok (.goto 4, 3) := by decide +kernel
theorem dX8_wrong_47 : decode cX8_wrong 47 = .ok (.iconst 0, 1) := by decide +kernel
theorem dX8_wrong_48 : decode cX8_wrong 48 = .ok (.ior, 1) := by decide +kernel
theorem dX8_wrong_49 : decode cX8_wrong 49 = .ok (.istore_n 2, 1) := by decide +kernel
theorem dX8_wrong_50 : decode cX8_wrong 50 = .ok (.iinc 3 1, 3) := by decide +kernel
theorem dX8_wrong_53 : decode cX8_wrong 53 = .ok (.goto (-34), 3) := by decide +kernel
theorem dX8_wrong_56 : decode cX8_wrong 56 = .ok (.iload_n 2, 1) := by decide +kernel
theorem dX8_wrong_57 : decode cX8_wrong 57 = .ok (.ireturn, 1) := by decide +kernel
theorem dX8_bars_0 : decode cX8_bars 0 = .ok (.aload_n 0, 1) := by decide +kernel
theorem dX8_bars_1 : decode cX8_bars 1 = .ok (.iload_n 1, 1) := by decide +kernel
theorem dX8_bars_2 : decode cX8_bars 2 = .ok (.invokevirtual 137, 3) := by decide +kernel
theorem dX8_bars_5 : decode cX8_bars 5 = .ok (.ifCond .eq 12, 3) := by decide +kernel
theorem dX8_bars_8 : decode cX8_bars 8 = .ok (.iload_n 2, 1) := by decide +kernel
theorem dX8_bars_9 : decode cX8_bars 9 = .ok (.iconst 0, 1) := by decide +kernel
theorem dX8_bars_10 : decode cX8_bars 10 = .ok (.iconst 2, 1) := by decide +kernel
theorem dX8_bars_11 : decode cX8_bars 11 = .ok (.invokestatic 53, 3) := by decide +kernel
theorem dX8_bars_14 : decode cX8_bars 14 = .ok (.ifCond .ne 5, 3) := by decide +kernel
theorem dX8_bars_17 : decode cX8_bars 17 = .ok (.iconst (-1), 1) := by decide +kernel
theorem dX8_bars_18 : decode cX8_bars 18 = .ok (.ireturn, 1) := by decide +kernel
theorem dX8_bars_19 : decode cX8_bars 19 = .ok (.aload_n 0, 1) := by decide +kernel
theorem dX8_bars_20 : decode cX8_bars 20 = .ok (.iload_n 1, 1) := by decide +kernel
theorem dX8_bars_21 : decode cX8_bars 21 = .ok (.invokevirtual 154, 3) := by decide +kernel
theorem dX8_bars_24 : decode cX8_bars 24 = .ok (.aload_n 0, 1) := by decide +kernel
theorem dX8_bars_25 : decode cX8_bars 25 = .ok (.getfield 150, 3) := by decide +kernel
theorem dX8_bars_28 : decode cX8_bars 28 = .ok (.aload_n 0, 1) := by decide +kernel
theorem dX8_bars_29 : decode cX8_bars 29 = .ok (.invokevirtual 130, 3) := by decide +kernel
theorem dX8_bars_32 : decode cX8_bars 32 = .ok (.isub, 1) := by decide +kernel
theorem dX8_bars_33 : decode cX8_bars 33 = .ok (.istore_n 3, 1) := by decide +kernel
theorem dX8_bars_34 : decode cX8_bars 34 = .ok (.iconst 0, 1) := by decide +kernel
theorem dX8_bars_35 : decode cX8_bars 35 = .ok (.istore 4, 2) := by decide +kernel
theorem dX8_bars_37 : decode cX8_bars 37 = .ok (.bipush (-5), 2) := by decide +kernel
theorem dX8_bars_39 : decode cX8_bars 39 = .ok (.istore 5, 2) := by decide +kernel
theorem dX8_bars_41 : decode cX8_bars 41 = .ok (.bipush (-5), 2) := by decide +kernel
theorem dX8_bars_43 : decode cX8_bars 43 = .ok (.istore 6, 2) := by decide +kernel
theorem dX8_bars_45 : decode cX8_bars 45 = .ok (.iconst 0, 1) := by decide +kernel
theorem dX8_bars_46 : decode cX8_bars 46 = .ok (.istore 7, 2) := by decide +kernel
theorem dX8_bars_48 : decode cX8_bars 48 = .ok (.iload 7, 2) := by decide +kernel
theorem dX8_bars_50 : decode cX8_bars 50 = .ok (.bipush 40, 2) := by decide +kernel
theorem dX8_bars_52 : decode cX8_bars 52 = .ok (.if_icmp .gt 85, 3) := by decide +kernel
theorem dX8_bars_55 : decode cX8_bars 55 = .ok (.aload_n 0, 1) := by decide +kernel
theorem dX8_bars_56 : decode cX8_bars 56 = .ok (.iload 7, 2) := by decide +kernel
theorem dX8_bars_58 : decode cX8_bars 58 = .ok (.iload_n 3, 1) := by decide +kernel
theorem dX8_bars_59 : decode cX8_bars 59 = .ok (.iadd, 1) := by decide +kernel
theorem dX8_bars_60 : decode cX8_bars 60 = .ok (.putfield 150, 3) := by decide +kernel
theorem dX8_bars_63 : decode cX8_bars 63 = .ok (.aload_n 0, 1) := by decide +kernel
theorem dX8_bars_64 : decode cX8_bars 64 = .ok (.iload_n 1, 1) := by decide +kernel
theorem dX8_bars_65 : decode cX8_bars 65 = .ok (.iconst (-1), 1) := by decide +kernel
theorem dX8_bars_66 : decode cX8_bars 66 = .ok (.invokevirtual 225, 3) := by decide +kernel
theorem dX8_bars_69 : decode cX8_bars 69 = .ok (.bipush (-5), 2) := by decide +kernel
theorem dX8_bars_71 : decode cX8_bars 71 = .ok (.if_icmp .ne 7, 3) := by decide +kernel
theorem dX8_bars_74 : decode cX8_bars 74 = .ok (.iconst 1, 1) := by decide +kernel
theorem dX8_bars_75 : decode cX8_bars 75 = .ok (.goto 4, 3) := by decide +kernel
theorem dX8_bars_78 : decode cX8_bars 78 = .ok (.iconst 0, 1) := by decide +kernel
theorem dX8_bars_79 : decode cX8_bars 79 = .ok (.istore 8, 2) := by decide +kernel
theorem dX8_bars_81 : decode cX8_bars 81 = .ok (.iload 4, 2) := by decide +kernel
theorem dX8_bars_83 : decode cX8_bars 83 = .ok (.iload 8, 2) := by decide +kernel
theorem dX8_bars_85 : decode cX8_bars 85 = .ok (.ifCond .eq 7, 3) := by decide +kernel
theorem dX8_bars_88 : decode cX8_bars 88 = .ok (.iconst 1, 1) := by decide +kernel
theorem dX8_bars_89 : decode cX8_bars 89 = .ok (.goto 4, 3) := by decide +kernel
theorem dX8_bars_92 : decode cX8_bars 92 = .ok (.iconst 0, 1) := by decide +kernel
theorem dX8_bars_93 : decode cX8_bars 93 = .ok (.iadd, 1) := by decide +kernel
theorem dX8_bars_94 : decode cX8_bars 94 = .ok (.istore 4, 2) := by decide +kernel
theorem dX8_bars_96 : decode cX8_bars 96 = .ok (.iload 8, 2) := by decide +kernel
theorem dX8_bars_98 : decode cX8_bars 98 = .ok (.ifCond .eq 15, 3) := by decide +kernel
theorem dX8_bars_101 : decode cX8_bars 101 = .ok (.iload 5, 2) := by decide +kernel
theorem dX8_bars_103 : decode cX8_bars 103 = .ok (.bipush (-5), 2) := by decide +kernel
theorem dX8_bars_105 : decode cX8_bars 105 = .ok (.if_icmp .ne 8, 3) := by decide +kernel
theorem dX8_bars_108 : decode cX8_bars 108 = .ok (.iload 7, 2) := by decide +kernel
theorem dX8_bars_110 : decode cX8_bars 110 = .ok (.goto 5, 3) := by decide +kernel
theorem dX8_bars_113 : decode cX8_bars 113 = .ok (.iload 5, 2) := by decide +kernel
theorem dX8_bars_115 : decode cX8_bars 115 = .ok (.istore 5, 2) := by decide +kernel
theorem dX8_bars_117 : decode cX8_bars 117 = .ok (.iload 8, 2) := by decide +kernel
theorem dX8_bars_119 : decode cX8_bars 119 = .ok (.ifCond .eq 8, 3) := by decide +kernel
theorem dX8_bars_122 : decode cX8_bars 122 = .ok (.iload 7, 2) := by decide +kernel
theorem dX8_bars_124 : decode cX8_bars 124 = .ok (.goto 5, 3) := by decide +kernel
theorem dX8_bars_127 : decode cX8_bars 127 = .ok (.iload 6, 2) := by decide +kernel
theorem dX8_bars_129 : decode cX8_bars 129 = .ok (.istore 6, 2) := by decide +kernel
theorem dX8_bars_131 : decode cX8_bars 131 = .ok (.iinc 7 1, 3) := by decide +kernel
theorem dX8_bars_134 : decode cX8_bars 134 = .ok (.goto (-86), 3) := by decide +kernel
theorem dX8_bars_137 : decode cX8_bars 137 = .ok (.iload_n 2, 1) := by decide +kernel
theorem dX8_bars_138 : decode cX8_bars 138 = .ok (.ifCond .ne 8, 3) := by decide +kernel
theorem dX8_bars_141 : decode cX8_bars 141 = .ok (.iload 4, 2) := by decide +kernel
theorem dX8_bars_143 : decode cX8_bars 143 = .ok (.goto 15, 3) := by decide +kernel
theorem dX8_bars_146 : decode cX8_bars 146 = .ok (.iload_n 2, 1) := by decide +kernel
theorem dX8_bars_147 : decode cX8_bars 147 = .ok (.iconst 1, 1) := by decide +kernel
theorem dX8_bars_148 : decode cX8_bars 148 = .ok (.if_icmp .ne 8, 3) := by decide +kernel
theorem dX8_bars_151 : decode cX8_bars 151 = .ok (.iload 5, 2) := by decide +kernel
theorem dX8_bars_153 : decode cX8_bars 153 = .ok (.goto 5, 3) := by decide +kernel
theorem dX8_bars_156 : decode cX8_bars 156 = .ok (.iload 6, 2) := by decide +kernel
theorem dX8_bars_158 : decode cX8_bars 158 = .ok (.ireturn, 1) := by decide +kernel
theorem dX8_queue_0 : decode cX8_queue 0 = .ok (.iload_n 1, 1) := by decide +kernel
theorem dX8_queue_1 : decode cX8_queue 1 = .ok (.iconst (-1), 1) := by decide +kernel
theorem dX8_queue_2 : decode cX8_queue 2 = .ok (.if_icmp .ne 12, 3) := by decide +kernel
theorem dX8_queue_5 : decode cX8_queue 5 = .ok (.aload_n 0, 1) := by decide +kernel
theorem dX8_queue_6 : decode cX8_queue 6 = .ok (.getfield 9, 3) := by decide +kernel
theorem dX8_queue_9 : decode cX8_queue 9 = .ok (.iconst 4, 1) := by decide +kernel
theorem dX8_queue_10 : decode cX8_queue 10 = .ok (.iconst 0, 1) := by decide +kernel
theorem dX8_queue_11 : decode cX8_queue 11 = .ok (.iastore, 1) := by decide +kernel
theorem dX8_queue_12 : decode cX8_queue 12 = .ok (.iconst 0, 1) := by decide +kernel
theorem dX8_queue_13 : decode cX8_queue 13 = .ok (.ireturn, 1) := by decide +kernel
theorem dX8_queue_14 : decode cX8_queue 14 = .ok (.aload_n 0, 1) := by decide +kernel
theorem dX8_queue_15 : decode cX8_queue 15 = .ok (.iload_n 1, 1) := by decide +kernel
theorem dX8_queue_16 : decode cX8_queue 16 = .ok (.invokevirtual 133, 3) := by decide +kernel
theorem dX8_queue_19 : decode cX8_queue 19 = .ok (.ifCond .ne 5, 3) := by decide +kernel
theorem dX8_queue_22 : decode cX8_queue 22 = .ok (.iconst (-1), 1) := by decide +kernel
theorem dX8_queue_23 : decode cX8_queue 23 = .ok (.ireturn, 1) := by decide +kernel
theorem dX8_queue_24 : decode cX8_queue 24 = .ok (.aload_n 0, 1) := by decide +kernel
theorem dX8_queue_25 : decode cX8_queue 25 = .ok (.getfield 9, 3) := by decide +kernel
theorem dX8_queue_28 : decode cX8_queue 28 = .ok (.iconst 4, 1) := by decide +kernel
theorem dX8_queue_29 : decode cX8_queue 29 = .ok (.iaload, 1) := by decide +kernel
theorem dX8_queue_30 : decode cX8_queue 30 = .ok (.bipush 8, 2) := by decide +kernel
theorem dX8_queue_32 : decode cX8_queue 32 = .ok (.if_icmp .ne 6, 3) := by decide +kernel
theorem dX8_queue_35 : decode cX8_queue 35 = .ok (.bipush (-4), 2) := by decide +kernel
theorem dX8_queue_37 : decode cX8_queue 37 = .ok (.ireturn, 1) := by decide +kernel
theorem dX8_queue_38 : decode cX8_queue 38 = .ok (.aload_n 0, 1) := by decide +kernel
theorem dX8_queue_39 : decode cX8_queue 39 = .ok (.getfield 9, 3) := by decide +kernel
theorem dX8_queue_42 : decode cX8_queue 42 = .ok (.bipush 98, 2) := by decide +kernel
theorem dX8_queue_44 : decode cX8_queue 44 = .ok (.aload_n 0, 1) := by decide +kernel
theorem dX8_queue_45 : decode cX8_queue 45 = .ok (.getfield 9, 3) := by decide +kernel
theorem dX8_queue_48 : decode cX8_queue 48 = .ok (.iconst 4, 1) := by decide +kernel
theorem dX8_queue_49 : decode cX8_queue 49 = .ok (.iaload, 1) := by decide +kernel
theorem dX8_queue_50 : decode cX8_queue 50 = .ok (.iadd, 1) := by decide +kernel
theorem dX8_queue_51 : decode cX8_queue 51 = .ok (.iload_n 1, 1) := by decide +kernel
theorem dX8_queue_52 : decode cX8_queue 52 = .ok (.iastore, 1) := by decide +kernel
theorem dX8_queue_53 : decode cX8_queue 53 = .ok (.aload_n 0, 1) := by decide +kernel
theorem dX8_queue_54 : decode cX8_queue 54 = .ok (.getfield 9, 3) := by decide +kernel
theorem dX8_queue_57 : decode cX8_queue 57 = .ok (.iconst 4, 1) := by decide +kernel
theorem dX8_queue_58 : decode cX8_queue 58 = .ok (.dup2, 1) := by decide +kernel
theorem dX8_queue_59 : decode cX8_queue 59 = .ok (.iaload, 1) := by decide +kernel
theorem dX8_queue_60 : decode cX8_queue 60 = .ok (.iconst 1, 1) := by decide +kernel
theorem dX8_queue_61 : decode cX8_queue 61 = .ok (.iadd, 1) := by decide +kernel
theorem dX8_queue_62 : decode cX8_queue 62 = .ok (.iastore, 1) := by decide +kernel
theorem dX8_queue_63 : decode cX8_queue 63 = .ok (.aload_n 0, 1) := by decide +kernel
theorem dX8_queue_64 : decode cX8_queue 64 = .ok (.getfield 9, 3) := by decide +kernel
theorem dX8_queue_67 : decode cX8_queue 67 = .ok (.iconst 4, 1) := by decide +kernel
theorem dX8_queue_68 : decode cX8_queue 68 = .ok (.iaload, 1) := by decide +kernel
theorem dX8_queue_69 : decode cX8_queue 69 = .ok (.ireturn, 1) := by decide +kernel
theorem dX8_falls_0 : decode cX8_falls 0 = .ok (.iload_n 2, 1) := by decide +kernel
theorem dX8_falls_1 : decode cX8_falls 1 = .ok (.aload_n 0, 1) := by decide +kernel
theorem dX8_falls_2 : decode cX8_falls 2 = .ok (.getfield 9, 3) := by decide +kernel
theorem dX8_falls_5 : decode cX8_falls 5 = .ok (.iconst 4, 1) := by decide +kernel
theorem dX8_falls_6 : decode cX8_falls 6 = .ok (.iaload, 1) := by decide +kernel
theorem dX8_falls_7 : decode cX8_falls 7 = .ok (.if_icmp .ne 5, 3) := by decide +kernel
theorem dX8_falls_10 : decode cX8_falls 10 = .ok (.lconst 0, 1) := by decide +kernel
theorem dX8_falls_11 : decode cX8_falls 11 = .ok (.lreturn, 1) := by decide +kernel
theorem dX8_falls_12 : decode cX8_falls 12 = .ok (.aload_n 0, 1) := by decide +kernel
theorem dX8_falls_13 : decode cX8_falls 13 = .ok (.getfield 9, 3) := by decide +kernel
theorem dX8_falls_16 : decode cX8_falls 16 = .ok (.bipush 98, 2) := by decide +kernel
theorem dX8_falls_18 : decode cX8_falls 18 = .ok (.iload_n 2, 1) := by decide +kernel
theorem dX8_falls_19 : decode cX8_falls 19 = .ok (.iadd, 1) := by decide +kernel
theorem dX8_falls_20 : decode cX8_falls 20 = .ok (.iaload, 1) := by decide +kernel
theorem dX8_falls_21 : decode cX8_falls 21 = .ok (.istore 5, 2) := by decide +kernel
theorem dX8_falls_23 : decode cX8_falls 23 = .ok (.aload_n 0, 1) := by decide +kernel
theorem dX8_falls_24 : decode cX8_falls 24 = .ok (.iload_n 1, 1) := by decide +kernel
theorem dX8_falls_25 : decode cX8_falls 25 = .ok (.aload_n 0, 1) := by decide +kernel
theorem dX8_falls_26 : decode cX8_falls 26 = .ok (.getfield 9, 3) := by decide +kernel
theorem dX8_falls_29 : decode cX8_falls 29 = .ok (.bipush 10, 2) := by decide +kernel
theorem dX8_falls_31 : decode cX8_falls 31 = .ok (.iload 5, 2) := by decide +kernel
theorem dX8_falls_33 : decode cX8_falls 33 = .ok (.iadd, 1) := by decide +kernel
theorem dX8_falls_34 : decode cX8_falls 34 = .ok (.iaload, 1) := by decide +kernel
theorem dX8_falls_35 : decode cX8_falls 35 = .ok (.invokevirtual 188, 3) := by decide +kernel
theorem dX8_falls_38 : decode cX8_falls 38 = .ok (.istore 6, 2) := by decide +kernel
theorem dX8_falls_40 : decode cX8_falls 40 = .ok (.lconst 0, 1) := by decide +kernel
theorem dX8_falls_41 : decode cX8_falls 41 = .ok (.lstore 7, 2) := by decide +kernel
theorem dX8_falls_43 : decode cX8_falls 43 = .ok (.iconst 0, 1) := by decide +kernel
theorem dX8_falls_44 : decode cX8_falls 44 = .ok (.istore 9, 2) := by decide +kernel
theorem dX8_falls_46 : decode cX8_falls 46 = .ok (.iload 9, 2) := by decide +kernel
theorem dX8_falls_48 : decode cX8_falls 48 = .ok (.iconst 2, 1) := by decide +kernel
theorem dX8_falls_49 : decode cX8_falls 49 = .ok (.if_icmp .ge 140, 3) := by decide +kernel
theorem dX8_falls_52 : decode cX8_falls 52 = .ok (.iload 6, 2) := by decide +kernel
theorem dX8_falls_54 : decode cX8_falls 54 = .ok (.iconst 2, 1) := by decide +kernel
theorem dX8_falls_55 : decode cX8_falls 55 = .ok (.if_icmp .eq 10, 3) := by decide +kernel
theorem dX8_falls_58 : decode cX8_falls 58 = .ok (.iload 6, 2) := by decide +kernel
theorem dX8_falls_60 : decode cX8_falls 60 = .ok (.iload 9, 2) := by decide +kernel
theorem dX8_falls_62 : decode cX8_falls 62 = .ok (.if_icmp .ne 121, 3) := by decide +kernel
theorem dX8_falls_65 : decode cX8_falls 65 = .ok (.iload 6, 2) := by decide +kernel
theorem dX8_falls_67 : decode cX8_falls 67 = .ok (.iconst 2, 1) := by decide +kernel
theorem dX8_falls_68 : decode cX8_falls 68 = .ok (.if_icmp .ne 9, 3) := by decide +kernel
theorem dX8_falls_71 : decode cX8_falls 71 = .ok (.iload_n 3, 1) := by decide +kernel
theorem dX8_falls_72 : decode cX8_falls 72 = .ok (.iconst 2, 1) := by decide +kernel
theorem dX8_falls_73 : decode cX8_falls 73 = .ok (.idiv, 1) := by decide +kernel
theorem dX8_falls_74 : decode cX8_falls 74 = .ok (.goto 4, 3) := by decide +kernel
theorem dX8_falls_77 : decode cX8_falls 77 = .ok (.iload_n 3, 1) := by decide +kernel
theorem dX8_falls_78 : decode cX8_falls 78 = .ok (.istore 10, 2) := by decide +kernel
theorem dX8_falls_80 : decode cX8_falls 80 = .ok (.aload_n 0, 1) := by decide +kernel
theorem dX8_falls_81 : decode cX8_falls 81 = .ok (.aload_n 0, 1) := by decide +kernel
theorem dX8_falls_82 : decode cX8_falls 82 = .ok (.getfield 9, 3) := by decide +kernel
theorem dX8_falls_85 : decode cX8_falls 85 = .ok (.bipush 10, 2) := by decide +kernel
theorem dX8_falls_87 : decode cX8_falls 87 = .ok (.iload 5, 2) := by decide +kernel
theorem dX8_falls_89 : decode cX8_falls 89 = .ok (.iadd, 1) := by decide +kernel
theorem dX8_falls_90 : decode cX8_falls 90 = .ok (.iaload, 1) := by decide +kernel
theorem dX8_falls_91 : decode cX8_falls 91 = .ok (.iload 9, 2) := by decide +kernel
theorem dX8_falls_93 : decode cX8_falls 93 = .ok (.iconst 1, 1) := by decide +kernel
theorem dX8_falls_94 : decode cX8_falls 94 = .ok (.if_icmp .ne 7, 3) := by decide +kernel
theorem dX8_falls_97 : decode cX8_falls 97 = .ok (.iconst 1, 1) := by decide +kernel
theorem dX8_falls_98 : decode cX8_falls 98 = .ok (.goto 4, 3) := by decide +kernel
theorem dX8_falls_101 : decode cX8_falls 101 = .ok (.iconst 0, 1) := by decide +kernel
theorem dX8_falls_102 : decode cX8_falls 102 = .ok (.invokevirtual 164, 3) := by decide +kernel
theorem dX8_falls_105 : decode cX8_falls 105 = .ok (.lload 7, 2) := by decide +kernel
theorem dX8_falls_107 : decode cX8_falls 107 = .ok (.aload_n 0, 1) := by decide +kernel
theorem dX8_falls_108 : decode cX8_falls 108 = .ok (.iload_n 1, 1) := by decide +kernel
theorem dX8_falls_109 : decode cX8_falls 109 = .ok (.iload_n 2, 1) := by decide +kernel
theorem dX8_falls_110 : decode cX8_falls 110 = .ok (.iconst 1, 1) := by decide +kernel
theorem dX8_falls_111 : decode cX8_falls 111 = .ok (.iadd, 1) := by decide +kernel
theorem dX8_falls_112 : decode cX8_falls 112 = .ok (.iload 10, 2) := by decide +kernel
theorem dX8_falls_114 : decode cX8_falls 114 = .ok (.iload 4, 2) := by decide +kernel
theorem dX8_falls_116 : decode cX8_falls 116 = .ok (.invokevirtual 228, 3) := by decide +kernel
theorem dX8_falls_119 : decode cX8_falls 119 = .ok (.ladd, 1) := by decide +kernel
theorem dX8_falls_120 : decode cX8_falls 120 = .ok (.lstore 7, 2) := by decide +kernel
theorem dX8_falls_122 : decode cX8_falls 122 = .ok (.aload_n 0, 1) := by decide +kernel
theorem dX8_falls_123 : decode cX8_falls 123 = .ok (.dup, 1) := by decide +kernel
theorem dX8_falls_124 : decode cX8_falls 124 = .ok (.getfield 161, 3) := by decide +kernel
theorem dX8_falls_127 : decode cX8_falls 127 = .ok (.iconst 1, 1) := by decide +kernel
theorem dX8_falls_128 : decode cX8_falls 128 = .ok (.isub, 1) := by decide +kernel
theorem dX8_falls_129 : decode cX8_falls 129 = .ok (.putfield 161, 3) := by decide +kernel
theorem dX8_falls_132 : decode cX8_falls 132 = .ok (.lload 7, 2) := by decide +kernel
theorem dX8_falls_134 : decode cX8_falls 134 = .ok (.iload 9, 2) := by decide +kernel
theorem dX8_falls_136 : decode cX8_falls 136 = .ok (.ifCond .ne 7, 3) := by decide +kernel
theorem dX8_falls_139 : decode cX8_falls 139 = .ok (.lconst 0, 1) := by decide +kernel
theorem dX8_falls_140 : decode cX8_falls 140 = .ok (.goto 40, 3) := by decide +kernel
theorem dX8_falls_143 : decode cX8_falls 143 = .ok (.iload 4, 2) := by decide +kernel
theorem dX8_falls_145 : decode cX8_falls 145 = .ok (.iconst (-1), 1) := by decide +kernel
theorem dX8_falls_146 : decode cX8_falls 146 = .ok (.if_icmp .ne 21, 3) := by decide +kernel
theorem dX8_falls_149 : decode cX8_falls 149 = .ok (.iload 10, 2) := by decide +kernel
theorem dX8_falls_151 : decode cX8_falls 151 = .ok (.i2l, 1) := by decide +kernel
theorem dX8_falls_152 : decode cX8_falls 152 = .ok (.aload_n 0, 1) := by decide +kernel
theorem dX8_falls_153 : decode cX8_falls 153 = .ok (.getfield 9, 3) := by decide +kernel
theorem dX8_falls_156 : decode cX8_falls 156 = .ok (.bipush 18, 2) := by decide +kernel
theorem dX8_falls_158 : decode cX8_falls 158 = .ok (.iload 5, 2) := by decide +kernel
theorem dX8_falls_160 : decode cX8_falls 160 = .ok (.iadd, 1) := by decide +kernel
theorem dX8_falls_161 : decode cX8_falls 161 = .ok (.iaload, 1) := by decide +kernel
theorem dX8_falls_162 : decode cX8_falls 162 = .ok (.i2l, 1) := by decide +kernel
theorem dX8_falls_163 : decode cX8_falls 163 = .ok (.lmul, 1) := by decide +kernel
theorem dX8_falls_164 : decode cX8_falls 164 = .ok (.goto 16, 3) := by decide +kernel
theorem dX8_falls_167 : decode cX8_falls 167 = .ok (.iload 4, 2) := by decide +kernel
theorem dX8_falls_169 : decode cX8_falls 169 = .ok (.iload_n 2, 1) := by decide +kernel
theorem dX8_falls_170 : decode cX8_falls 170 = .ok (.if_icmp .ne 9, 3) := by decide +kernel
theorem dX8_falls_173 : decode cX8_falls 173 = .ok (.iload 10, 2) := by decide +kernel
theorem dX8_falls_175 : decode cX8_falls 175 = .ok (.i2l, 1) := by decide +kernel
theorem dX8_falls_176 : decode cX8_falls 176 = .ok (.goto 4, 3) := by decide +kernel
theorem dX8_falls_179 : decode cX8_falls 179 = .ok (.lconst 0, 1) := by decide +kernel
theorem dX8_falls_180 : decode cX8_falls 180 = .ok (.ladd, 1) := by decide +kernel
theorem dX8_falls_181 : decode cX8_falls 181 = .ok (.lstore 7, 2) := by decide +kernel
theorem dX8_falls_183 : decode cX8_falls 183 = .ok (.iinc 9 1, 3) := by decide +kernel
theorem dX8_falls_186 : decode cX8_falls 186 = .ok (.goto (-140), 3) := by decide +kernel
theorem dX8_falls_189 : decode cX8_falls 189 = .ok (.lload 7, 2) := by decide +kernel
theorem dX8_falls_191 : decode cX8_falls 191 = .ok (.lreturn, 1) := by decide +kernel
theorem dX8_lowest_0 : decode cX8_lowest 0 = .ok (.lload_n 0, 1) := by decide +kernel
theorem dX8_lowest_1 : decode cX8_lowest 1 = .ok (.lstore 5, 2) := by decide +kernel
theorem dX8_lowest_3 : decode cX8_lowest 3 = .ok (.lload_n 2, 1) := by decide +kernel
theorem dX8_lowest_4 : decode cX8_lowest 4 = .ok (.lstore 7, 2) := by decide +kernel
theorem dX8_lowest_6 : decode cX8_lowest 6 = .ok (.lload 7, 2) := by decide +kernel
theorem dX8_lowest_8 : decode cX8_lowest 8 = .ok (.lconst 0, 1) := by decide +kernel
theorem dX8_lowest_9 : decode cX8_lowest 9 = .ok (.lcmp, 1) := by decide +kernel
theorem dX8_lowest_10 : decode cX8_lowest 10 = .ok (.ifCond .eq 21, 3) := by decide +kernel
theorem dX8_lowest_13 : decode cX8_lowest 13 = .ok (.lload 5, 2) := by decide +kernel
theorem dX8_lowest_15 : decode cX8_lowest 15 = .ok (.lload 7, 2) := by decide +kernel
theorem dX8_lowest_17 : decode cX8_lowest 17 = .ok (.lrem, 1) := by decide +kernel
theorem dX8_lowest_18 : decode cX8_lowest 18 = .ok (.lstore 9, 2) := by decide +kernel
theorem dX8_lowest_20 : decode cX8_lowest 20 = .ok (.lload 7, 2) := by decide +kernel
theorem dX8_lowest_22 : decode cX8_lowest 22 = .ok (.lstore 5, 2) := by decide +kernel
theorem dX8_lowest_24 : decode cX8_lowest 24 = .ok (.lload 9, 2) := by decide +kernel
theorem dX8_lowest_26 : decode cX8_lowest 26 = .ok (.lstore 7, 2) := by decide +kernel
theorem dX8_lowest_28 : decode cX8_lowest 28 = .ok (.goto (-22), 3) := by decide +kernel
theorem dX8_lowest_31 : decode cX8_lowest 31 = .ok (.iload 4, 2) := by decide +kernel
theorem dX8_lowest_33 : decode cX8_lowest 33 = .ok (.ifCond .ne 7, 3) := by decide +kernel
theorem dX8_lowest_36 : decode cX8_lowest 36 = .ok (.lload_n 0, 1) := by decide +kernel
theorem dX8_lowest_37 : decode cX8_lowest 37 = .ok (.goto 4, 3) := by decide +kernel
theorem dX8_lowest_40 : decode cX8_lowest 40 = .ok (.lload_n 2, 1) := by decide +kernel
theorem dX8_lowest_41 : decode cX8_lowest 41 = .ok (.lload 5, 2) := by decide +kernel
theorem dX8_lowest_43 : decode cX8_lowest 43 = .ok (.ldiv, 1) := by decide +kernel
theorem dX8_lowest_44 : decode cX8_lowest 44 = .ok (.lreturn, 1) := by decide +kernel
theorem dX8_odds_0 : decode cX8_odds 0 = .ok (.aload_n 0, 1) := by decide +kernel
theorem dX8_odds_1 : decode cX8_odds 1 = .ok (.iload_n 1, 1) := by decide +kernel
theorem dX8_odds_2 : decode cX8_odds 2 = .ok (.invokevirtual 137, 3) := by decide +kernel
theorem dX8_odds_5 : decode cX8_odds 5 = .ok (.ifCond .eq 28, 3) := by decide +kernel
theorem dX8_odds_8 : decode cX8_odds 8 = .ok (.iload_n 2, 1) := by decide +kernel
theorem dX8_odds_9 : decode cX8_odds 9 = .ok (.iconst 0, 1) := by decide +kernel
theorem dX8_odds_10 : decode cX8_odds 10 = .ok (.aload_n 0, 1) := by decide +kernel
theorem dX8_odds_11 : decode cX8_odds 11 = .ok (.getfield 9, 3) := by decide +kernel
theorem dX8_odds_14 : decode cX8_odds 14 = .ok (.iconst 4, 1) := by decide +kernel
theorem dX8_odds_15 : decode cX8_odds 15 = .ok (.iaload, 1) := by decide +kernel
theorem dX8_odds_16 : decode cX8_odds 16 = .ok (.iconst 1, 1) := by decide +kernel
theorem dX8_odds_17 : decode cX8_odds 17 = .ok (.isub, 1) := by decide +kernel
theorem dX8_odds_18 : decode cX8_odds 18 = .ok (.invokestatic 53, 3) := by decide +kernel
theorem dX8_odds_21 : decode cX8_odds 21 = .ok (.ifCond .eq 12, 3) := by decide +kernel
theorem dX8_odds_24 : decode cX8_odds 24 = .ok (.iload_n 3, 1) := by decide +kernel
theorem dX8_odds_25 : decode cX8_odds 25 = .ok (.iconst 0, 1) := by decide +kernel
theorem dX8_odds_26 : decode cX8_odds 26 = .ok (.iconst 1, 1) := by decide +kernel
theorem dX8_odds_27 : decode cX8_odds 27 = .ok (.invokestatic 53, 3) := by decide +kernel
theorem dX8_odds_30 : decode cX8_odds 30 = .ok (.ifCond .ne 7, 3) := by decide +kernel
theorem dX8_odds_33 : decode cX8_odds 33 = .ok (.ldc2_w 232, 3) := by decide +kernel
theorem dX8_odds_36 : decode cX8_odds 36 = .ok (.lreturn, 1) := by decide +kernel
theorem dX8_odds_37 : decode cX8_odds 37 = .ok (.aload_n 0, 1) := by decide +kernel
theorem dX8_odds_38 : decode cX8_odds 38 = .ok (.iload_n 1, 1) := by decide +kernel
theorem dX8_odds_39 : decode cX8_odds 39 = .ok (.invokevirtual 154, 3) := by decide +kernel
theorem dX8_odds_42 : decode cX8_odds 42 = .ok (.aload_n 0, 1) := by decide +kernel
theorem dX8_odds_43 : decode cX8_odds 43 = .ok (.invokevirtual 194, 3) := by decide +kernel
theorem dX8_odds_46 : decode cX8_odds 46 = .ok (.aload_n 0, 1) := by decide +kernel
theorem dX8_odds_47 : decode cX8_odds 47 = .ok (.iload_n 1, 1) := by decide +kernel
theorem dX8_odds_48 : decode cX8_odds 48 = .ok (.iconst 0, 1) := by decide +kernel
theorem dX8_odds_49 : decode cX8_odds 49 = .ok (.sipush 256, 3) := by decide +kernel
theorem dX8_odds_52 : decode cX8_odds 52 = .ok (.iload_n 2, 1) := by decide +kernel
theorem dX8_odds_53 : decode cX8_odds 53 = .ok (.invokevirtual 228, 3) := by decide +kernel
theorem dX8_odds_56 : decode cX8_odds 56 = .ok (.ldc2_w 234, 3) := by decide +kernel
theorem dX8_odds_59 : decode cX8_odds 59 = .ok (.iload_n 3, 1) := by decide +kernel
theorem dX8_odds_60 : decode cX8_odds 60 = .ok (.invokestatic 236, 3) := by decide +kernel
theorem dX8_odds_63 : decode cX8_odds 63 = .ok (.lreturn, 1) := by decide +kernel
theorem dX8_expects_0 : decode cX8_expects 0 = .ok (.aload_n 0, 1) := by decide +kernel
theorem dX8_expects_1 : decode cX8_expects 1 = .ok (.iload_n 1, 1) := by decide +kernel
theorem dX8_expects_2 : decode cX8_expects 2 = .ok (.invokevirtual 137, 3) := by decide +kernel
theorem dX8_expects_5 : decode cX8_expects 5 = .ok (.ifCond .eq 12, 3) := by decide +kernel
theorem dX8_expects_8 : decode cX8_expects 8 = .ok (.iload_n 2, 1) := by decide +kernel
theorem dX8_expects_9 : decode cX8_expects 9 = .ok (.iconst 0, 1) := by decide +kernel
theorem dX8_expects_10 : decode cX8_expects 10 = .ok (.iconst 1, 1) := by decide +kernel
theorem dX8_expects_11 : decode cX8_expects 11 = .ok (.invokestatic 53, 3) := by decide +kernel
theorem dX8_expects_14 : decode cX8_expects 14 = .ok (.ifCond .ne 7, 3) := by decide +kernel
theorem dX8_expects_17 : decode cX8_expects 17 = .ok (.ldc2_w 232, 3) := by decide +kernel
theorem dX8_expects_20 : decode cX8_expects 20 = .ok (.lreturn, 1) := by decide +kernel
theorem dX8_expects_21 : decode cX8_expects 21 = .ok (.aload_n 0, 1) := by decide +kernel
theorem dX8_expects_22 : decode cX8_expects 22 = .ok (.iload_n 1, 1) := by decide +kernel
theorem dX8_expects_23 : decode cX8_expects 23 = .ok (.invokevirtual 154, 3) := by decide +kernel
theorem dX8_expects_26 : decode cX8_expects 26 = .ok (.aload_n 0, 1) := by decide +kernel
theorem dX8_expects_27 : decode cX8_expects 27 = .ok (.invokevirtual 194, 3) := by decide +kernel
theorem dX8_expects_30 : decode cX8_expects 30 = .ok (.aload_n 0, 1) := by decide +kernel
theorem dX8_expects_31 : decode cX8_expects 31 = .ok (.iload_n 1, 1) := by decide +kernel
theorem dX8_expects_32 : decode cX8_expects 32 = .ok (.iconst 0, 1) := by decide +kernel
theorem dX8_expects_33 : decode cX8_expects 33 = .ok (.sipush 256, 3) := by decide +kernel
theorem dX8_expects_36 : decode cX8_expects 36 = .ok (.iconst (-1), 1) := by decide +kernel
theorem dX8_expects_37 : decode cX8_expects 37 = .ok (.invokevirtual 228, 3) := by decide +kernel
theorem dX8_expects_40 : decode cX8_expects 40 = .ok (.ldc2_w 234, 3) := by decide +kernel
theorem dX8_expects_43 : decode cX8_expects 43 = .ok (.iload_n 2, 1) := by decide +kernel
theorem dX8_expects_44 : decode cX8_expects 44 = .ok (.invokestatic 236, 3) := by decide +kernel
theorem dX8_expects_47 : decode cX8_expects 47 = .ok (.lreturn, 1) := by decide +kernel
theorem dX8_ranBody_0 : decode cX8_ranBody 0 = .ok (.aload_n 0, 1) := by decide +kernel
theorem dX8_ranBody_1 : decode cX8_ranBody 1 = .ok (.getfield 240, 3) := by decide +kernel
theorem dX8_ranBody_4 : decode cX8_ranBody 4 = .ok (.bipush 20, 2) := by decide +kernel
theorem dX8_ranBody_6 : decode cX8_ranBody 6 = .ok (.if_icmp .ge 13, 3) := by decide +kernel
theorem dX8_ranBody_9 : decode cX8_ranBody 9 = .ok (.aload_n 0, 1) := by decide +kernel
theorem dX8_ranBody_10 : decode cX8_ranBody 10 = .ok (.getfield 46, 3) := by decide +kernel
theorem dX8_ranBody_13 : decode cX8_ranBody 13 = .ok (.aload_n 0, 1) := by decide +kernel
theorem dX8_ranBody_14 : decode cX8_ranBody 14 = .ok (.getfield 240, 3) := by decide +kernel
theorem dX8_ranBody_17 : decode cX8_ranBody 17 = .ok (.iload_n 1, 1) := by decide +kernel
theorem dX8_ranBody_18 : decode cX8_ranBody 18 = .ok (.iastore, 1) := by decide +kernel
theorem dX8_ranBody_19 : decode cX8_ranBody 19 = .ok (.aload_n 0, 1) := by decide +kernel
theorem dX8_ranBody_20 : decode cX8_ranBody 20 = .ok (.dup, 1) := by decide +kernel
theorem dX8_ranBody_21 : decode cX8_ranBody 21 = .ok (.getfield 240, 3) := by decide +kernel
theorem dX8_ranBody_24 : decode cX8_ranBody 24 = .ok (.iconst 1, 1) := by decide +kernel
theorem dX8_ranBody_25 : decode cX8_ranBody 25 = .ok (.iadd, 1) := by decide +kernel
theorem dX8_ranBody_26 : decode cX8_ranBody 26 = .ok (.putfield 240, 3) := by decide +kernel
theorem dX8_ranBody_29 : decode cX8_ranBody 29 = .ok (.return_, 1) := by decide +kernel
theorem dX8_isUnder_0 : decode cX8_isUnder 0 = .ok (.iload_n 1, 1) := by decide +kernel
theorem dX8_isUnder_1 : decode cX8_isUnder 1 = .ok (.ifCond .eq 24, 3) := by decide +kernel
theorem dX8_isUnder_4 : decode cX8_isUnder 4 = .ok (.iload_n 1, 1) := by decide +kernel
theorem dX8_isUnder_5 : decode cX8_isUnder 5 = .ok (.iload_n 0, 1) := by decide +kernel
theorem dX8_isUnder_6 : decode cX8_isUnder 6 = .ok (.if_icmp .eq 19, 3) := by decide +kernel
theorem dX8_isUnder_9 : decode cX8_isUnder 9 = .ok (.iload_n 1, 1) := by decide +kernel
theorem dX8_isUnder_10 : decode cX8_isUnder 10 = .ok (.ifCond .le 19, 3) := by decide +kernel
theorem dX8_isUnder_13 : decode cX8_isUnder 13 = .ok (.iload_n 1, 1) := by decide +kernel
theorem dX8_isUnder_14 : decode cX8_isUnder 14 = .ok (.iconst 4, 1) := by decide +kernel
theorem dX8_isUnder_15 : decode cX8_isUnder 15 = .ok (.if_icmp .ge 14, 3) := by decide +kernel
theorem dX8_isUnder_18 : decode cX8_isUnder 18 = .ok (.iload_n 0, 1) := by decide +kernel
theorem dX8_isUnder_19 : decode cX8_isUnder 19 = .ok (.iload_n 1, 1) := by decide +kernel
theorem dX8_isUnder_20 : decode cX8_isUnder 20 = .ok (.iconst 3, 1) := by decide +kernel
theorem dX8_isUnder_21 : decode cX8_isUnder 21 = .ok (.iadd, 1) := by decide +kernel
theorem dX8_isUnder_22 : decode cX8_isUnder 22 = .ok (.if_icmp .ne 7, 3) := by decide +kernel
theorem dX8_isUnder_25 : decode cX8_isUnder 25 = .ok (.iconst 1, 1) := by decide +kernel
theorem dX8_isUnder_26 : decode cX8_isUnder 26 = .ok (.goto 4, 3) := by decide +kernel
theorem dX8_isUnder_29 : decode cX8_isUnder 29 = .ok (.iconst 0, 1) := by decide +kernel
theorem dX8_isUnder_30 : decode cX8_isUnder 30 = .ok (.ireturn, 1) := by decide +kernel
theorem dX8_plainHears_0 : decode cX8_plainHears 0 = .ok (.aload_n 0, 1) := by decide +kernel
theorem dX8_plainHears_1 : decode cX8_plainHears 1 = .ok (.iconst 1, 1) := by decide +kernel
theorem dX8_plainHears_2 : decode cX8_plainHears 2 = .ok (.invokevirtual 243, 3) := by decide +kernel
theorem dX8_plainHears_5 : decode cX8_plainHears 5 = .ok (.iload_n 1, 1) := by decide +kernel
theorem dX8_plainHears_6 : decode cX8_plainHears 6 = .ok (.aload_n 0, 1) := by decide +kernel
theorem dX8_plainHears_7 : decode cX8_plainHears 7 = .ok (.getfield 246, 3) := by decide +kernel
theorem dX8_plainHears_10 : decode cX8_plainHears 10 = .ok (.iadd, 1) := by decide +kernel
theorem dX8_plainHears_11 : decode cX8_plainHears 11 = .ok (.ireturn, 1) := by decide +kernel
theorem dX8_hearsActs_0 : decode cX8_hearsActs 0 = .ok (.aload_n 0, 1) := by decide +kernel
theorem dX8_hearsActs_1 : decode cX8_hearsActs 1 = .ok (.getfield 249, 3) := by decide +kernel
theorem dX8_hearsActs_4 : decode cX8_hearsActs 4 = .ok (.iconst 1, 1) := by decide +kernel
theorem dX8_hearsActs_5 : decode cX8_hearsActs 5 = .ok (.invokestatic 252, 3) := by decide +kernel
theorem dX8_hearsActs_8 : decode cX8_hearsActs 8 = .ok (.ifCond .eq 17, 3) := by decide +kernel
theorem dX8_hearsActs_11 : decode cX8_hearsActs 11 = .ok (.aload_n 0, 1) := by decide +kernel
theorem dX8_hearsActs_12 : decode cX8_hearsActs 12 = .ok (.bipush 11, 2) := by decide +kernel
theorem dX8_hearsActs_14 : decode cX8_hearsActs 14 = .ok (.invokevirtual 243, 3) := by decide +kernel
theorem dX8_hearsActs_17 : decode cX8_hearsActs 17 = .ok (.aload_n 0, 1) := by decide +kernel
theorem dX8_hearsActs_18 : decode cX8_hearsActs 18 = .ok (.iload_n 1, 1) := by decide +kernel
theorem dX8_hearsActs_19 : decode cX8_hearsActs 19 = .ok (.iconst 3, 1) := by decide +kernel
theorem dX8_hearsActs_20 : decode cX8_hearsActs 20 = .ok (.imul, 1) := by decide +kernel
theorem dX8_hearsActs_21 : decode cX8_hearsActs 21 = .ok (.invokevirtual 255, 3) := by decide +kernel
theorem dX8_hearsActs_24 : decode cX8_hearsActs 24 = .ok (.ireturn, 1) := by decide +kernel
theorem dX8_hearsActs_25 : decode cX8_hearsActs 25 = .ok (.aload_n 0, 1) := by decide +kernel
theorem dX8_hearsActs_26 : decode cX8_hearsActs 26 = .ok (.getfield 249, 3) := by decide +kernel
theorem dX8_hearsActs_29 : decode cX8_hearsActs 29 = .ok (.iconst 5, 1) := by decide +kernel
theorem dX8_hearsActs_30 : decode cX8_hearsActs 30 = .ok (.if_icmp .ne 20, 3) := by decide +kernel
theorem dX8_hearsActs_33 : decode cX8_hearsActs 33 = .ok (.aload_n 0, 1) := by decide +kernel
theorem dX8_hearsActs_34 : decode cX8_hearsActs 34 = .ok (.bipush 51, 2) := by decide +kernel
theorem dX8_hearsActs_36 : decode cX8_hearsActs 36 = .ok (.invokevirtual 243, 3) := by decide +kernel
theorem dX8_hearsActs_39 : decode cX8_hearsActs 39 = .ok (.aload_n 0, 1) := by decide +kernel
theorem dX8_hearsActs_40 : decode cX8_hearsActs 40 = .ok (.iload_n 1, 1) := by decide +kernel
theorem dX8_hearsActs_41 : decode cX8_hearsActs 41 = .ok (.invokevirtual 255, 3) := by decide +kernel
theorem dX8_hearsActs_44 : decode cX8_hearsActs 44 = .ok (.aload_n 0, 1) := by decide +kernel
theorem dX8_hearsActs_45 : decode cX8_hearsActs 45 = .ok (.getfield 246, 3) := by decide +kernel
theorem dX8_hearsActs_48 : decode cX8_hearsActs 48 = .ok (.ixor, 1) := by decide +kernel
theorem dX8_hearsActs_49 : decode cX8_hearsActs 49 = .ok (.ireturn, 1) := by decide +kernel
theorem dX8_hearsActs_50 : decode cX8_hearsActs 50 = .ok (.aload_n 0, 1) := by decide +kernel
theorem dX8_hearsActs_51 : decode cX8_hearsActs 51 = .ok (.iload_n 1, 1) := by decide +kernel
theorem dX8_hearsActs_52 : decode cX8_hearsActs 52 = .ok (.invokevirtual 255, 3) := by decide +kernel
theorem dX8_hearsActs_55 : decode cX8_hearsActs 55 = .ok (.ireturn, 1) := by decide +kernel
theorem dX8_plainWeighs_0 : decode cX8_plainWeighs 0 = .ok (.aload_n 0, 1) := by decide +kernel
theorem dX8_plainWeighs_1 : decode cX8_plainWeighs 1 = .ok (.iconst 2, 1) := by decide +kernel
theorem dX8_plainWeighs_2 : decode cX8_plainWeighs 2 = .ok (.invokevirtual 243, 3) := by decide +kernel
theorem dX8_plainWeighs_5 : decode cX8_plainWeighs 5 = .ok (.aload_n 0, 1) := by decide +kernel
theorem dX8_plainWeighs_6 : decode cX8_plainWeighs 6 = .ok (.iload_n 1, 1) := by decide +kernel
theorem dX8_plainWeighs_7 : decode cX8_plainWeighs 7 = .ok (.invokevirtual 258, 3) := by decide +kernel
theorem dX8_plainWeighs_10 : decode cX8_plainWeighs 10 = .ok (.aload_n 0, 1) := by decide +kernel
theorem dX8_plainWeighs_11 : decode cX8_plainWeighs 11 = .ok (.getfield 261, 3) := by decide +kernel
theorem dX8_plainWeighs_14 : decode cX8_plainWeighs 14 = .ok (.isub, 1) := by decide +kernel
theorem dX8_plainWeighs_15 : decode cX8_plainWeighs 15 = .ok (.ireturn, 1) := by decide +kernel
theorem dX8_weighsActs_0 : decode cX8_weighsActs 0 = .ok (.aload_n 0, 1) := by decide +kernel
theorem dX8_weighsActs_1 : decode cX8_weighsActs 1 = .ok (.getfield 249, 3) := by decide +kernel
theorem dX8_weighsActs_4 : decode cX8_weighsActs 4 = .ok (.iconst 2, 1) := by decide +kernel
theorem dX8_weighsActs_5 : decode cX8_weighsActs 5 = .ok (.invokestatic 252, 3) := by decide +kernel
theorem dX8_weighsActs_8 : decode cX8_weighsActs 8 = .ok (.ifCond .eq 16, 3) := by decide +kernel
theorem dX8_weighsActs_11 : decode cX8_weighsActs 11 = .ok (.aload_n 0, 1) := by decide +kernel
theorem dX8_weighsActs_12 : decode cX8_weighsActs 12 = .ok (.bipush 21, 2) := by decide +kernel
theorem dX8_weighsActs_14 : decode cX8_weighsActs 14 = .ok (.invokevirtual 243, 3) := by decide +kernel
theorem dX8_weighsActs_17 : decode cX8_weighsActs 17 = .ok (.aload_n 0, 1) := by decide +kernel
theorem dX8_weighsActs_18 : decode cX8_weighsActs 18 = .ok (.iload_n 1, 1) := by decide +kernel
theorem dX8_weighsActs_19 : decode cX8_weighsActs 19 = .ok (.invokevirtual 264, 3) := by decide +kernel
theorem dX8_weighsActs_22 : decode cX8_weighsActs 22 = .ok (.ineg, 1) := by decide +kernel
theorem dX8_weighsActs_23 : decode cX8_weighsActs 23 = .ok (.ireturn, 1) := by decide +kernel
theorem dX8_weighsActs_24 : decode cX8_weighsActs 24 = .ok (.aload_n 0, 1) := by decide +kernel
theorem dX8_weighsActs_25 : decode cX8_weighsActs 25 = .ok (.getfield 249, 3) := by decide +kernel
theorem dX8_weighsActs_28 : decode cX8_weighsActs 28 = .ok (.bipush 6, 2) := by decide +kernel
theorem dX8_weighsActs_30 : decode cX8_weighsActs 30 = .ok (.if_icmp .ne 20, 3) := by decide +kernel
theorem dX8_weighsActs_33 : decode cX8_weighsActs 33 = .ok (.aload_n 0, 1) := by decide +kernel
theorem dX8_weighsActs_34 : decode cX8_weighsActs 34 = .ok (.bipush 61, 2) := by decide +kernel
theorem dX8_weighsActs_36 : decode cX8_weighsActs 36 = .ok (.invokevirtual 243, 3) := by decide +kernel
theorem dX8_weighsActs_39 : decode cX8_weighsActs 39 = .ok (.aload_n 0, 1) := by decide +kernel
theorem dX8_weighsActs_40 : decode cX8_weighsActs 40 = .ok (.iload_n 1, 1) := by decide +kernel
theorem dX8_weighsActs_41 : decode cX8_weighsActs 41 = .ok (.invokevirtual 264, 3) := by decide +kernel
theorem dX8_weighsActs_44 : decode cX8_weighsActs 44 = .ok (.aload_n 0, 1) := by decide +kernel
theorem dX8_weighsActs_45 : decode cX8_weighsActs 45 = .ok (.getfield 261, 3) := by decide +kernel
theorem dX8_weighsActs_48 : decode cX8_weighsActs 48 = .ok (.iadd, 1) := by decide +kernel
theorem dX8_weighsActs_49 : decode cX8_weighsActs 49 = .ok (.ireturn, 1) := by decide +kernel
theorem dX8_weighsActs_50 : decode cX8_weighsActs 50 = .ok (.aload_n 0, 1) := by decide +kernel
theorem dX8_weighsActs_51 : decode cX8_weighsActs 51 = .ok (.iload_n 1, 1) := by decide +kernel
theorem dX8_weighsActs_52 : decode cX8_weighsActs 52 = .ok (.invokevirtual 264, 3) := by decide +kernel
theorem dX8_weighsActs_55 : decode cX8_weighsActs 55 = .ok (.ireturn, 1) := by decide +kernel
theorem dX8_plainSays_0 : decode cX8_plainSays 0 = .ok (.aload_n 0, 1) := by decide +kernel
theorem dX8_plainSays_1 : decode cX8_plainSays 1 = .ok (.iconst 3, 1) := by decide +kernel
theorem dX8_plainSays_2 : decode cX8_plainSays 2 = .ok (.invokevirtual 243, 3) := by decide +kernel
theorem dX8_plainSays_5 : decode cX8_plainSays 5 = .ok (.aload_n 0, 1) := by decide +kernel
theorem dX8_plainSays_6 : decode cX8_plainSays 6 = .ok (.iload_n 1, 1) := by decide +kernel
theorem dX8_plainSays_7 : decode cX8_plainSays 7 = .ok (.invokevirtual 267, 3) := by decide +kernel
theorem dX8_plainSays_10 : decode cX8_plainSays 10 = .ok (.iconst 2, 1) := by decide +kernel
theorem dX8_plainSays_11 : decode cX8_plainSays 11 = .ok (.imul, 1) := by decide +kernel
theorem dX8_plainSays_12 : decode cX8_plainSays 12 = .ok (.ireturn, 1) := by decide +kernel
theorem dX8_saysActs_0 : decode cX8_saysActs 0 = .ok (.aload_n 0, 1) := by decide +kernel
theorem dX8_saysActs_1 : decode cX8_saysActs 1 = .ok (.getfield 249, 3) := by decide +kernel
theorem dX8_saysActs_4 : decode cX8_saysActs 4 = .ok (.iconst 3, 1) := by decide +kernel
theorem dX8_saysActs_5 : decode cX8_saysActs 5 = .ok (.invokestatic 252, 3) := by decide +kernel
theorem dX8_saysActs_8 : decode cX8_saysActs 8 = .ok (.ifCond .eq 18, 3) := by decide +kernel
theorem dX8_saysActs_11 : decode cX8_saysActs 11 = .ok (.aload_n 0, 1) := by decide +kernel
theorem dX8_saysActs_12 : decode cX8_saysActs 12 = .ok (.bipush 31, 2) := by decide +kernel
theorem dX8_saysActs_14 : decode cX8_saysActs 14 = .ok (.invokevirtual 243, 3) := by decide +kernel
theorem dX8_saysActs_17 : decode cX8_saysActs 17 = .ok (.aload_n 0, 1) := by decide +kernel
theorem dX8_saysActs_18 : decode cX8_saysActs 18 = .ok (.iload_n 1, 1) := by decide +kernel
theorem dX8_saysActs_19 : decode cX8_saysActs 19 = .ok (.invokevirtual 270, 3) := by decide +kernel
theorem dX8_saysActs_22 : decode cX8_saysActs 22 = .ok (.bipush 7, 2) := by decide +kernel
theorem dX8_saysActs_24 : decode cX8_saysActs 24 = .ok (.ixor, 1) := by decide +kernel
theorem dX8_saysActs_25 : decode cX8_saysActs 25 = .ok (.ireturn, 1) := by decide +kernel
theorem dX8_saysActs_26 : decode cX8_saysActs 26 = .ok (.aload_n 0, 1) := by decide +kernel
theorem dX8_saysActs_27 : decode cX8_saysActs 27 = .ok (.getfield 249, 3) := by decide +kernel
theorem dX8_saysActs_30 : decode cX8_saysActs 30 = .ok (.iconst 4, 1) := by decide +kernel
theorem dX8_saysActs_31 : decode cX8_saysActs 31 = .ok (.if_icmp .ne 25, 3) := by decide +kernel
theorem dX8_saysActs_34 : decode cX8_saysActs 34 = .ok (.aload_n 0, 1) := by decide +kernel
theorem dX8_saysActs_35 : decode cX8_saysActs 35 = .ok (.bipush 41, 2) := by decide +kernel
theorem dX8_saysActs_37 : decode cX8_saysActs 37 = .ok (.invokevirtual 243, 3) := by decide +kernel
theorem dX8_saysActs_40 : decode cX8_saysActs 40 = .ok (.aload_n 0, 1) := by decide +kernel
theorem dX8_saysActs_41 : decode cX8_saysActs 41 = .ok (.iload_n 1, 1) := by decide +kernel
theorem dX8_saysActs_42 : decode cX8_saysActs 42 = .ok (.iconst 1, 1) := by decide +kernel
theorem dX8_saysActs_43 : decode cX8_saysActs 43 = .ok (.isub, 1) := by decide +kernel
theorem dX8_saysActs_44 : decode cX8_saysActs 44 = .ok (.invokevirtual 270, 3) := by decide +kernel
theorem dX8_saysActs_47 : decode cX8_saysActs 47 = .ok (.istore_n 2, 1) := by decide +kernel
theorem dX8_saysActs_48 : decode cX8_saysActs 48 = .ok (.iload_n 2, 1) := by decide +kernel
theorem dX8_saysActs_49 : decode cX8_saysActs 49 = .ok (.aload_n 0, 1) := by decide +kernel
theorem dX8_saysActs_50 : decode cX8_saysActs 50 = .ok (.iconst 2, 1) := by decide +kernel
theorem dX8_saysActs_51 : decode cX8_saysActs 51 = .ok (.invokevirtual 258, 3) := by decide +kernel
theorem dX8_saysActs_54 : decode cX8_saysActs 54 = .ok (.iadd, 1) := by decide +kernel
theorem dX8_saysActs_55 : decode cX8_saysActs 55 = .ok (.ireturn, 1) := by decide +kernel
theorem dX8_saysActs_56 : decode cX8_saysActs 56 = .ok (.aload_n 0, 1) := by decide +kernel
theorem dX8_saysActs_57 : decode cX8_saysActs 57 = .ok (.iload_n 1, 1) := by decide +kernel
theorem dX8_saysActs_58 : decode cX8_saysActs 58 = .ok (.invokevirtual 270, 3) := by decide +kernel
theorem dX8_saysActs_61 : decode cX8_saysActs 61 = .ok (.ireturn, 1) := by decide +kernel
theorem dX8_act_0 : decode cX8_act 0 = .ok (.aload_n 0, 1) := by decide +kernel
theorem dX8_act_1 : decode cX8_act 1 = .ok (.iconst 0, 1) := by decide +kernel
theorem dX8_act_2 : decode cX8_act 2 = .ok (.putfield 240, 3) := by decide +kernel
theorem dX8_act_5 : decode cX8_act 5 = .ok (.aload_n 0, 1) := by decide +kernel
theorem dX8_act_6 : decode cX8_act 6 = .ok (.iload_n 1, 1) := by decide +kernel
theorem dX8_act_7 : decode cX8_act 7 = .ok (.invokevirtual 137, 3) := by decide +kernel
theorem dX8_act_10 : decode cX8_act 10 = .ok (.ifCond .eq 12, 3) := by decide +kernel
theorem dX8_act_13 : decode cX8_act 13 = .ok (.iload_n 2, 1) := by decide +kernel
theorem dX8_act_14 : decode cX8_act 14 = .ok (.iconst 0, 1) := by decide +kernel
theorem dX8_act_15 : decode cX8_act 15 = .ok (.iconst 2, 1) := by decide +kernel
theorem dX8_act_16 : decode cX8_act 16 = .ok (.invokestatic 53, 3) := by decide +kernel
theorem dX8_act_19 : decode cX8_act 19 = .ok (.ifCond .ne 5, 3) := by decide +kernel
theorem dX8_act_22 : decode cX8_act 22 = .ok (.iconst 0, 1) := by decide +kernel
theorem dX8_act_23 : decode cX8_act 23 = .ok (.ireturn, 1) := by decide +kernel
theorem dX8_act_24 : decode cX8_act 24 = .ok (.aload_n 0, 1) := by decide +kernel
theorem dX8_act_25 : decode cX8_act 25 = .ok (.aload_n 0, 1) := by decide +kernel
theorem dX8_act_26 : decode cX8_act 26 = .ok (.getfield 9, 3) := by decide +kernel
theorem dX8_act_29 : decode cX8_act 29 = .ok (.bipush 26, 2) := by decide +kernel
theorem dX8_act_31 : decode cX8_act 31 = .ok (.iload_n 1, 1) := by decide +kernel
theorem dX8_act_32 : decode cX8_act 32 = .ok (.iadd, 1) := by decide +kernel
theorem dX8_act_33 : decode cX8_act 33 = .ok (.iaload, 1) := by decide +kernel
theorem dX8_act_34 : decode cX8_act 34 = .ok (.putfield 249, 3) := by decide +kernel
theorem dX8_act_37 : decode cX8_act 37 = .ok (.aload_n 0, 1) := by decide +kernel
theorem dX8_act_38 : decode cX8_act 38 = .ok (.iload_n 1, 1) := by decide +kernel
theorem dX8_act_39 : decode cX8_act 39 = .ok (.putfield 246, 3) := by decide +kernel
theorem dX8_act_42 : decode cX8_act 42 = .ok (.aload_n 0, 1) := by decide +kernel
theorem dX8_act_43 : decode cX8_act 43 = .ok (.aload_n 0, 1) := by decide +kernel
theorem dX8_act_44 : decode cX8_act 44 = .ok (.getfield 9, 3) := by decide +kernel
theorem dX8_act_47 : decode cX8_act 47 = .ok (.bipush 30, 2) := by decide +kernel
theorem dX8_act_49 : decode cX8_act 49 = .ok (.iload_n 1, 1) := by decide +kernel
theorem dX8_act_50 : decode cX8_act 50 = .ok (.iadd, 1) := by decide +kernel
theorem dX8_act_51 : decode cX8_act 51 = .ok (.iaload, 1) := by decide +kernel
theorem dX8_act_52 : decode cX8_act 52 = .ok (.putfield 261, 3) := by decide +kernel
theorem dX8_act_55 : decode cX8_act 55 = .ok (.iload_n 2, 1) := by decide +kernel
theorem dX8_act_56 : decode cX8_act 56 = .ok (.ifCond .ne 11, 3) := by decide +kernel
theorem dX8_act_59 : decode cX8_act 59 = .ok (.aload_n 0, 1) := by decide +kernel
theorem dX8_act_60 : decode cX8_act 60 = .ok (.iload_n 3, 1) := by decide +kernel
theorem dX8_act_61 : decode cX8_act 61 = .ok (.invokevirtual 258, 3) := by decide +kernel
theorem dX8_act_64 : decode cX8_act 64 = .ok (.goto 21, 3) := by decide +kernel
theorem dX8_act_67 : decode cX8_act 67 = .ok (.iload_n 2, 1) := by decide +kernel
theorem dX8_act_68 : decode cX8_act 68 = .ok (.iconst 1, 1) := by decide +kernel
theorem dX8_act_69 : decode cX8_act 69 = .ok (.if_icmp .ne 11, 3) := by decide +kernel
theorem dX8_act_72 : decode cX8_act 72 = .ok (.aload_n 0, 1) := by decide +kernel
theorem dX8_act_73 : decode cX8_act 73 = .ok (.iload_n 3, 1) := by decide +kernel
theorem dX8_act_74 : decode cX8_act 74 = .ok (.invokevirtual 267, 3) := by decide +kernel
theorem dX8_act_77 : decode cX8_act 77 = .ok (.goto 8, 3) := by decide +kernel
theorem dX8_act_80 : decode cX8_act 80 = .ok (.aload_n 0, 1) := by decide +kernel
theorem dX8_act_81 : decode cX8_act 81 = .ok (.iload_n 3, 1) := by decide +kernel
theorem dX8_act_82 : decode cX8_act 82 = .ok (.invokevirtual 273, 3) := by decide +kernel
theorem dX8_act_85 : decode cX8_act 85 = .ok (.ireturn, 1) := by decide +kernel
theorem dX8_trace_0 : decode cX8_trace 0 = .ok (.iload_n 1, 1) := by decide +kernel
theorem dX8_trace_1 : decode cX8_trace 1 = .ok (.iconst 0, 1) := by decide +kernel
theorem dX8_trace_2 : decode cX8_trace 2 = .ok (.aload_n 0, 1) := by decide +kernel
theorem dX8_trace_3 : decode cX8_trace 3 = .ok (.getfield 240, 3) := by decide +kernel
theorem dX8_trace_6 : decode cX8_trace 6 = .ok (.bipush 20, 2) := by decide +kernel
theorem dX8_trace_8 : decode cX8_trace 8 = .ok (.if_icmp .ge 10, 3) := by decide +kernel
theorem dX8_trace_11 : decode cX8_trace 11 = .ok (.aload_n 0, 1) := by decide +kernel
theorem dX8_trace_12 : decode cX8_trace 12 = .ok (.getfield 240, 3) := by decide +kernel
theorem dX8_trace_15 : decode cX8_trace 15 = .ok (.goto 5, 3) := by decide +kernel
theorem dX8_trace_18 : decode cX8_trace 18 = .ok (.bipush 20, 2) := by decide +kernel
theorem dX8_trace_20 : decode cX8_trace 20 = .ok (.iconst 1, 1) := by decide +kernel
theorem dX8_trace_21 : decode cX8_trace 21 = .ok (.isub, 1) := by decide +kernel
theorem dX8_trace_22 : decode cX8_trace 22 = .ok (.invokestatic 53, 3) := by decide +kernel
theorem dX8_trace_25 : decode cX8_trace 25 = .ok (.ifCond .eq 12, 3) := by decide +kernel
theorem dX8_trace_28 : decode cX8_trace 28 = .ok (.aload_n 0, 1) := by decide +kernel
theorem dX8_trace_29 : decode cX8_trace 29 = .ok (.getfield 46, 3) := by decide +kernel
theorem dX8_trace_32 : decode cX8_trace 32 = .ok (.iload_n 1, 1) := by decide +kernel
theorem dX8_trace_33 : decode cX8_trace 33 = .ok (.iaload, 1) := by decide +kernel
theorem dX8_trace_34 : decode cX8_trace 34 = .ok (.goto 4, 3) := by decide +kernel
theorem dX8_trace_37 : decode cX8_trace 37 = .ok (.iconst (-1), 1) := by decide +kernel
theorem dX8_trace_38 : decode cX8_trace 38 = .ok (.ireturn, 1) := by decide +kernel
theorem dX8_as_0 : decode cX8_as 0 = .ok (.aload_n 0, 1) := by decide +kernel
theorem dX8_as_1 : decode cX8_as 1 = .ok (.iload_n 1, 1) := by decide +kernel
theorem dX8_as_2 : decode cX8_as 2 = .ok (.invokevirtual 137, 3) := by decide +kernel
theorem dX8_as_5 : decode cX8_as 5 = .ok (.ifCond .eq 13, 3) := by decide +kernel
theorem dX8_as_8 : decode cX8_as 8 = .ok (.iload_n 2, 1) := by decide +kernel
theorem dX8_as_9 : decode cX8_as 9 = .ok (.iconst 0, 1) := by decide +kernel
theorem dX8_as_10 : decode cX8_as 10 = .ok (.bipush 6, 2) := by decide +kernel
theorem dX8_as_12 : decode cX8_as 12 = .ok (.invokestatic 53, 3) := by decide +kernel
theorem dX8_as_15 : decode cX8_as 15 = .ok (.ifCond .ne 5, 3) := by decide +kernel
theorem dX8_as_18 : decode cX8_as 18 = .ok (.iconst (-1), 1) := by decide +kernel
theorem dX8_as_19 : decode cX8_as 19 = .ok (.ireturn, 1) := by decide +kernel
theorem dX8_as_20 : decode cX8_as 20 = .ok (.aload_n 0, 1) := by decide +kernel
theorem dX8_as_21 : decode cX8_as 21 = .ok (.getfield 9, 3) := by decide +kernel
theorem dX8_as_24 : decode cX8_as 24 = .ok (.bipush 26, 2) := by decide +kernel
theorem dX8_as_26 : decode cX8_as 26 = .ok (.iload_n 1, 1) := by decide +kernel
theorem dX8_as_27 : decode cX8_as 27 = .ok (.iadd, 1) := by decide +kernel
theorem dX8_as_28 : decode cX8_as 28 = .ok (.iaload, 1) := by decide +kernel
theorem dX8_as_29 : decode cX8_as 29 = .ok (.iload_n 2, 1) := by decide +kernel
theorem dX8_as_30 : decode cX8_as 30 = .ok (.invokestatic 252, 3) := by decide +kernel
theorem dX8_as_33 : decode cX8_as 33 = .ok (.ifCond .eq 15, 3) := by decide +kernel
theorem dX8_as_36 : decode cX8_as 36 = .ok (.aload_n 0, 1) := by decide +kernel
theorem dX8_as_37 : decode cX8_as 37 = .ok (.getfield 9, 3) := by decide +kernel
theorem dX8_as_40 : decode cX8_as 40 = .ok (.bipush 30, 2) := by decide +kernel
theorem dX8_as_42 : decode cX8_as 42 = .ok (.iload_n 1, 1) := by decide +kernel
theorem dX8_as_43 : decode cX8_as 43 = .ok (.iadd, 1) := by decide +kernel
theorem dX8_as_44 : decode cX8_as 44 = .ok (.iaload, 1) := by decide +kernel
theorem dX8_as_45 : decode cX8_as 45 = .ok (.goto 5, 3) := by decide +kernel
theorem dX8_as_48 : decode cX8_as 48 = .ok (.bipush (-6), 2) := by decide +kernel
theorem dX8_as_50 : decode cX8_as 50 = .ok (.ireturn, 1) := by decide +kernel
theorem dX8_image_0 : decode cX8_image 0 = .ok (.iconst 0, 1) := by decide +kernel
theorem dX8_image_1 : decode cX8_image 1 = .ok (.istore_n 1, 1) := by decide +kernel
theorem dX8_image_2 : decode cX8_image 2 = .ok (.iload_n 1, 1) := by decide +kernel
theorem dX8_image_3 : decode cX8_image 3 = .ok (.sipush 916, 3) := by decide +kernel
theorem dX8_image_6 : decode cX8_image 6 = .ok (.if_icmp .ge 21, 3) := by decide +kernel
theorem dX8_image_9 : decode cX8_image 9 = .ok (.aload_n 0, 1) := by decide +kernel
theorem dX8_image_10 : decode cX8_image 10 = .ok (.getfield 15, 3) := by decide +kernel
theorem dX8_image_13 : decode cX8_image 13 = .ok (.iload_n 1, 1) := by decide +kernel
theorem dX8_image_14 : decode cX8_image 14 = .ok (.aload_n 0, 1) := by decide +kernel
theorem dX8_image_15 : decode cX8_image 15 = .ok (.getfield 9, 3) := by decide +kernel
theorem dX8_image_18 : decode cX8_image 18 = .ok (.iload_n 1, 1) := by decide +kernel
theorem dX8_image_19 : decode cX8_image 19 = .ok (.iaload, 1) := by decide +kernel
theorem dX8_image_20 : decode cX8_image 20 = .ok (.iastore, 1) := by decide +kernel
theorem dX8_image_21 : decode cX8_image 21 = .ok (.iinc 1 1, 3) := by decide +kernel
theorem dX8_image_24 : decode cX8_image 24 = .ok (.goto (-22), 3) := by decide +kernel
theorem dX8_image_27 : decode cX8_image 27 = .ok (.aload_n 0, 1) := by decide +kernel
theorem dX8_image_28 : decode cX8_image 28 = .ok (.iconst 1, 1) := by decide +kernel
theorem dX8_image_29 : decode cX8_image 29 = .ok (.putfield 276, 3) := by decide +kernel
theorem dX8_image_32 : decode cX8_image 32 = .ok (.aload_n 0, 1) := by decide +kernel
theorem dX8_image_33 : decode cX8_image 33 = .ok (.getfield 9, 3) := by decide +kernel
theorem dX8_image_36 : decode cX8_image 36 = .ok (.iconst 0, 1) := by decide +kernel
theorem dX8_image_37 : decode cX8_image 37 = .ok (.iaload, 1) := by decide +kernel
theorem dX8_image_38 : decode cX8_image 38 = .ok (.ireturn, 1) := by decide +kernel
theorem dX8_undo_0 : decode cX8_undo 0 = .ok (.aload_n 0, 1) := by decide +kernel
theorem dX8_undo_1 : decode cX8_undo 1 = .ok (.getfield 276, 3) := by decide +kernel
theorem dX8_undo_4 : decode cX8_undo 4 = .ok (.ifCond .ne 6, 3) := by decide +kernel
theorem dX8_undo_7 : decode cX8_undo 7 = .ok (.bipush (-3), 2) := by decide +kernel
theorem dX8_undo_9 : decode cX8_undo 9 = .ok (.ireturn, 1) := by decide +kernel
theorem dX8_undo_10 : decode cX8_undo 10 = .ok (.iconst 0, 1) := by decide +kernel
theorem dX8_undo_11 : decode cX8_undo 11 = .ok (.istore_n 1, 1) := by decide +kernel
theorem dX8_undo_12 : decode cX8_undo 12 = .ok (.iload_n 1, 1) := by decide +kernel
theorem dX8_undo_13 : decode cX8_undo 13 = .ok (.sipush 916, 3) := by decide +kernel
theorem dX8_undo_16 : decode cX8_undo 16 = .ok (.if_icmp .ge 21, 3) := by decide +kernel
theorem dX8_undo_19 : decode cX8_undo 19 = .ok (.aload_n 0, 1) := by decide +kernel
theorem dX8_undo_20 : decode cX8_undo 20 = .ok (.getfield 9, 3) := by decide +kernel
theorem dX8_undo_23 : decode cX8_undo 23 = .ok (.iload_n 1, 1) := by decide +kernel
theorem dX8_undo_24 : decode cX8_undo 24 = .ok (.aload_n 0, 1) := by decide +kernel
theorem dX8_undo_25 : decode cX8_undo 25 = .ok (.getfield 15, 3) := by decide +kernel
theorem dX8_undo_28 : decode cX8_undo 28 = .ok (.iload_n 1, 1) := by decide +kernel
theorem dX8_undo_29 : decode cX8_undo 29 = .ok (.iaload, 1) := by decide +kernel
theorem dX8_undo_30 : decode cX8_undo 30 = .ok (.iastore, 1) := by decide +kernel
theorem dX8_undo_31 : decode cX8_undo 31 = .ok (.iinc 1 1, 3) := by decide +kernel
theorem dX8_undo_34 : decode cX8_undo 34 = .ok (.goto (-22), 3) := by decide +kernel
theorem dX8_undo_37 : decode cX8_undo 37 = .ok (.aload_n 0, 1) := by decide +kernel
theorem dX8_undo_38 : decode cX8_undo 38 = .ok (.getfield 9, 3) := by decide +kernel
theorem dX8_undo_41 : decode cX8_undo 41 = .ok (.iconst 0, 1) := by decide +kernel
theorem dX8_undo_42 : decode cX8_undo 42 = .ok (.iaload, 1) := by decide +kernel
theorem dX8_undo_43 : decode cX8_undo 43 = .ok (.ireturn, 1) := by decide +kernel
theorem dX8_count_0 : decode cX8_count 0 = .ok (.iload_n 1, 1) := by decide +kernel
theorem dX8_count_1 : decode cX8_count 1 = .ok (.tableswitch 90 0 6 #[43, 50, 57, 64, 71, 78, 85], 43) := by decide +kernel
theorem dX8_count_44 : decode cX8_count 44 = .ok (.aload_n 0, 1) := by decide +kernel
theorem dX8_count_45 : decode cX8_count 45 = .ok (.getfield 9, 3) := by decide +kernel
theorem dX8_count_48 : decode cX8_count 48 = .ok (.iconst 0, 1) := by decide +kernel
theorem dX8_count_49 : decode cX8_count 49 = .ok (.iaload, 1) := by decide +kernel
theorem dX8_count_50 : decode cX8_count 50 = .ok (.ireturn, 1) := by decide +kernel
theorem dX8_count_51 : decode cX8_count 51 = .ok (.aload_n 0, 1) := by decide +kernel
theorem dX8_count_52 : decode cX8_count 52 = .ok (.getfield 9, 3) := by decide +kernel
theorem dX8_count_55 : decode cX8_count 55 = .ok (.iconst 1, 1) := by decide +kernel
theorem dX8_count_56 : decode cX8_count 56 = .ok (.iaload, 1) := by decide +kernel
theorem dX8_count_57 : decode cX8_count 57 = .ok (.ireturn, 1) := by decide +kernel
theorem dX8_count_58 : decode cX8_count 58 = .ok (.aload_n 0, 1) := by decide +kernel
theorem dX8_count_59 : decode cX8_count 59 = .ok (.getfield 9, 3) := by decide +kernel
theorem dX8_count_62 : decode cX8_count 62 = .ok (.iconst 2, 1) := by decide +kernel
theorem dX8_count_63 : decode cX8_count 63 = .ok (.iaload, 1) := by decide +kernel
theorem dX8_count_64 : decode cX8_count 64 = .ok (.ireturn, 1) := by decide +kernel
theorem dX8_count_65 : decode cX8_count 65 = .ok (.aload_n 0, 1) := by decide +kernel
theorem dX8_count_66 : decode cX8_count 66 = .ok (.getfield 9, 3) := by decide +kernel
theorem dX8_count_69 : decode cX8_count 69 = .ok (.iconst 3, 1) := by decide +kernel
theorem dX8_count_70 : decode cX8_count 70 = .ok (.iaload, 1) := by decide +kernel
theorem dX8_count_71 : decode cX8_count 71 = .ok (.ireturn, 1) := by decide +kernel
theorem dX8_count_72 : decode cX8_count 72 = .ok (.aload_n 0, 1) := by decide +kernel
theorem dX8_count_73 : decode cX8_count 73 = .ok (.getfield 9, 3) := by decide +kernel
theorem dX8_count_76 : decode cX8_count 76 = .ok (.iconst 4, 1) := by decide +kernel
theorem dX8_count_77 : decode cX8_count 77 = .ok (.iaload, 1) := by decide +kernel
theorem dX8_count_78 : decode cX8_count 78 = .ok (.ireturn, 1) := by decide +kernel
theorem dX8_count_79 : decode cX8_count 79 = .ok (.aload_n 0, 1) := by decide +kernel
theorem dX8_count_80 : decode cX8_count 80 = .ok (.getfield 9, 3) := by decide +kernel
theorem dX8_count_83 : decode cX8_count 83 = .ok (.iconst 5, 1) := by decide +kernel
theorem dX8_count_84 : decode cX8_count 84 = .ok (.iaload, 1) := by decide +kernel
theorem dX8_count_85 : decode cX8_count 85 = .ok (.ireturn, 1) := by decide +kernel
theorem dX8_count_86 : decode cX8_count 86 = .ok (.aload_n 0, 1) := by decide +kernel
theorem dX8_count_87 : decode cX8_count 87 = .ok (.getfield 240, 3) := by decide +kernel
theorem dX8_count_90 : decode cX8_count 90 = .ok (.ireturn, 1) := by decide +kernel
theorem dX8_count_91 : decode cX8_count 91 = .ok (.iconst (-1), 1) := by decide +kernel
theorem dX8_count_92 : decode cX8_count 92 = .ok (.ireturn, 1) := by decide +kernel
theorem dJ6_bitCount_0f7a4_0 : decode cJ6_bitCount_0f7a4 0 = .ok (.iload_n 0, 1) := by decide +kernel
theorem dJ6_bitCount_0f7a4_1 : decode cJ6_bitCount_0f7a4 1 = .ok (.iload_n 0, 1) := by decide +kernel
theorem dJ6_bitCount_0f7a4_2 : decode cJ6_bitCount_0f7a4 2 = .ok (.iconst 1, 1) := by decide +kernel
theorem dJ6_bitCount_0f7a4_3 : decode cJ6_bitCount_0f7a4 3 = .ok (.iushr, 1) := by decide +kernel
theorem dJ6_bitCount_0f7a4_4 : decode cJ6_bitCount_0f7a4 4 = .ok (.ldc_w 265, 3) := by decide +kernel
theorem dJ6_bitCount_0f7a4_7 : decode cJ6_bitCount_0f7a4 7 = .ok (.iand, 1) := by decide +kernel
theorem dJ6_bitCount_0f7a4_8 : decode cJ6_bitCount_0f7a4 8 = .ok (.isub, 1) := by decide +kernel
theorem dJ6_bitCount_0f7a4_9 : decode cJ6_bitCount_0f7a4 9 = .ok (.istore_n 0, 1) := by decide +kernel
theorem dJ6_bitCount_0f7a4_10 : decode cJ6_bitCount_0f7a4 10 = .ok (.iload_n 0, 1) := by decide +kernel
theorem dJ6_bitCount_0f7a4_11 : decode cJ6_bitCount_0f7a4 11 = .ok (.ldc_w 266, 3) := by decide +kernel
theorem dJ6_bitCount_0f7a4_14 : decode cJ6_bitCount_0f7a4 14 = .ok (.iand, 1) := by decide +kernel
theorem dJ6_bitCount_0f7a4_15 : decode cJ6_bitCount_0f7a4 15 = .ok (.iload_n 0, 1) := by decide +kernel
theorem dJ6_bitCount_0f7a4_16 : decode cJ6_bitCount_0f7a4 16 = .ok (.iconst 2, 1) := by decide +kernel
theorem dJ6_bitCount_0f7a4_17 : decode cJ6_bitCount_0f7a4 17 = .ok (.iushr, 1) := by decide +kernel
theorem dJ6_bitCount_0f7a4_18 : decode cJ6_bitCount_0f7a4 18 = .ok (.ldc_w 266, 3) := by decide +kernel
theorem dJ6_bitCount_0f7a4_21 : decode cJ6_bitCount_0f7a4 21 = .ok (.iand, 1) := by decide +kernel
theorem dJ6_bitCount_0f7a4_22 : decode cJ6_bitCount_0f7a4 22 = .ok (.iadd, 1) := by decide +kernel
theorem dJ6_bitCount_0f7a4_23 : decode cJ6_bitCount_0f7a4 23 = .ok (.istore_n 0, 1) := by decide +kernel
theorem dJ6_bitCount_0f7a4_24 : decode cJ6_bitCount_0f7a4 24 = .ok (.iload_n 0, 1) := by decide +kernel
theorem dJ6_bitCount_0f7a4_25 : decode cJ6_bitCount_0f7a4 25 = .ok (.iload_n 0, 1) := by decide +kernel
theorem dJ6_bitCount_0f7a4_26 : decode cJ6_bitCount_0f7a4 26 = .ok (.iconst 4, 1) := by decide +kernel
theorem dJ6_bitCount_0f7a4_27 : decode cJ6_bitCount_0f7a4 27 = .ok (.iushr, 1) := by decide +kernel
theorem dJ6_bitCount_0f7a4_28 : decode cJ6_bitCount_0f7a4 28 = .ok (.iadd, 1) := by decide +kernel
theorem dJ6_bitCount_0f7a4_29 : decode cJ6_bitCount_0f7a4 29 = .ok (.ldc_w 267, 3) := by decide +kernel
theorem dJ6_bitCount_0f7a4_32 : decode cJ6_bitCount_0f7a4 32 = .ok (.iand, 1) := by decide +kernel
theorem dJ6_bitCount_0f7a4_33 : decode cJ6_bitCount_0f7a4 33 = .ok (.istore_n 0, 1) := by decide +kernel
theorem dJ6_bitCount_0f7a4_34 : decode cJ6_bitCount_0f7a4 34 = .ok (.iload_n 0, 1) := by decide +kernel
theorem dJ6_bitCount_0f7a4_35 : decode cJ6_bitCount_0f7a4 35 = .ok (.iload_n 0, 1) := by decide +kernel
theorem dJ6_bitCount_0f7a4_36 : decode cJ6_bitCount_0f7a4 36 = .ok (.bipush 8, 2) := by decide +kernel
theorem dJ6_bitCount_0f7a4_38 : decode cJ6_bitCount_0f7a4 38 = .ok (.iushr, 1) := by decide +kernel
theorem dJ6_bitCount_0f7a4_39 : decode cJ6_bitCount_0f7a4 39 = .ok (.iadd, 1) := by decide +kernel
theorem dJ6_bitCount_0f7a4_40 : decode cJ6_bitCount_0f7a4 40 = .ok (.istore_n 0, 1) := by decide +kernel
theorem dJ6_bitCount_0f7a4_41 : decode cJ6_bitCount_0f7a4 41 = .ok (.iload_n 0, 1) := by decide +kernel
theorem dJ6_bitCount_0f7a4_42 : decode cJ6_bitCount_0f7a4 42 = .ok (.iload_n 0, 1) := by decide +kernel
theorem dJ6_bitCount_0f7a4_43 : decode cJ6_bitCount_0f7a4 43 = .ok (.bipush 16, 2) := by decide +kernel
theorem dJ6_bitCount_0f7a4_45 : decode cJ6_bitCount_0f7a4 45 = .ok (.iushr, 1) := by decide +kernel
theorem dJ6_bitCount_0f7a4_46 : decode cJ6_bitCount_0f7a4 46 = .ok (.iadd, 1) := by decide +kernel
theorem dJ6_bitCount_0f7a4_47 : decode cJ6_bitCount_0f7a4 47 = .ok (.istore_n 0, 1) := by decide +kernel
theorem dJ6_bitCount_0f7a4_48 : decode cJ6_bitCount_0f7a4 48 = .ok (.iload_n 0, 1) := by decide +kernel
theorem dJ6_bitCount_0f7a4_49 : decode cJ6_bitCount_0f7a4 49 = .ok (.bipush 63, 2) := by decide +kernel
theorem dJ6_bitCount_0f7a4_51 : decode cJ6_bitCount_0f7a4 51 = .ok (.iand, 1) := by decide +kernel
theorem dJ6_bitCount_0f7a4_52 : decode cJ6_bitCount_0f7a4 52 = .ok (.ireturn, 1) := by decide +kernel
theorem dJ9_max_7cf53_0 : decode cJ9_max_7cf53 0 = .ok (.iload_n 0, 1) := by decide +kernel
theorem dJ9_max_7cf53_1 : decode cJ9_max_7cf53 1 = .ok (.iload_n 1, 1) := by decide +kernel
theorem dJ9_max_7cf53_2 : decode cJ9_max_7cf53 2 = .ok (.if_icmp .lt 7, 3) := by decide +kernel
theorem dJ9_max_7cf53_5 : decode cJ9_max_7cf53 5 = .ok (.iload_n 0, 1) := by decide +kernel
theorem dJ9_max_7cf53_6 : decode cJ9_max_7cf53 6 = .ok (.goto 4, 3) := by decide +kernel
theorem dJ9_max_7cf53_9 : decode cJ9_max_7cf53 9 = .ok (.iload_n 1, 1) := by decide +kernel
theorem dJ9_max_7cf53_10 : decode cJ9_max_7cf53 10 = .ok (.ireturn, 1) := by decide +kernel
theorem dJ9_min_7cf53_0 : decode cJ9_min_7cf53 0 = .ok (.iload_n 0, 1) := by decide +kernel
theorem dJ9_min_7cf53_1 : decode cJ9_min_7cf53 1 = .ok (.iload_n 1, 1) := by decide +kernel
theorem dJ9_min_7cf53_2 : decode cJ9_min_7cf53 2 = .ok (.if_icmp .gt 7, 3) := by decide +kernel
theorem dJ9_min_7cf53_5 : decode cJ9_min_7cf53 5 = .ok (.iload_n 0, 1) := by decide +kernel
theorem dJ9_min_7cf53_6 : decode cJ9_min_7cf53 6 = .ok (.goto 4, 3) := by decide +kernel
theorem dJ9_min_7cf53_9 : decode cJ9_min_7cf53 9 = .ok (.iload_n 1, 1) := by decide +kernel
theorem dJ9_min_7cf53_10 : decode cJ9_min_7cf53 10 = .ok (.ireturn, 1) := by decide +kernel
theorem dJ0_length_8abf5_0 : decode cJ0_length_8abf5 0 = .ok (.aload_n 0, 1) := by decide +kernel
theorem dJ0_length_8abf5_1 : decode cJ0_length_8abf5 1 = .ok (.getfield 9, 3) := by decide +kernel
theorem dJ0_length_8abf5_4 : decode cJ0_length_8abf5 4 = .ok (.arraylength, 1) := by decide +kernel
theorem dJ0_length_8abf5_5 : decode cJ0_length_8abf5 5 = .ok (.aload_n 0, 1) := by decide +kernel
theorem dJ0_length_8abf5_6 : decode cJ0_length_8abf5 6 = .ok (.invokevirtual 335, 3) := by decide +kernel
theorem dJ0_length_8abf5_9 : decode cJ0_length_8abf5 9 = .ok (.ishr, 1) := by decide +kernel
theorem dJ0_length_8abf5_10 : decode cJ0_length_8abf5 10 = .ok (.ireturn, 1) := by decide +kernel
theorem dJ0_charAt_5068e_0 : decode cJ0_charAt_5068e 0 = .ok (.aload_n 0, 1) := by decide +kernel
theorem dJ0_charAt_5068e_1 : decode cJ0_charAt_5068e 1 = .ok (.invokevirtual 492, 3) := by decide +kernel
theorem dJ0_charAt_5068e_4 : decode cJ0_charAt_5068e 4 = .ok (.ifCond .eq 12, 3) := by decide +kernel
theorem dJ0_charAt_5068e_7 : decode cJ0_charAt_5068e 7 = .ok (.aload_n 0, 1) := by decide +kernel
theorem dJ0_charAt_5068e_8 : decode cJ0_charAt_5068e 8 = .ok (.getfield 9, 3) := by decide +kernel
theorem dJ0_charAt_5068e_11 : decode cJ0_charAt_5068e 11 = .ok (.iload_n 1, 1) := by decide +kernel
theorem dJ0_charAt_5068e_12 : decode cJ0_charAt_5068e 12 = .ok (.invokestatic 495, 3) := by decide +kernel
theorem dJ0_charAt_5068e_15 : decode cJ0_charAt_5068e 15 = .ok (.ireturn, 1) := by decide +kernel
theorem dJ0_charAt_5068e_16 : decode cJ0_charAt_5068e 16 = .ok (.aload_n 0, 1) := by decide +kernel
theorem dJ0_charAt_5068e_17 : decode cJ0_charAt_5068e 17 = .ok (.getfield 9, 3) := by decide +kernel
theorem dJ0_charAt_5068e_20 : decode cJ0_charAt_5068e 20 = .ok (.iload_n 1, 1) := by decide +kernel
theorem dJ0_charAt_5068e_21 : decode cJ0_charAt_5068e 21 = .ok (.invokestatic 498, 3) := by decide +kernel
theorem dJ0_charAt_5068e_24 : decode cJ0_charAt_5068e 24 = .ok (.ireturn, 1) := by decide +kernel
theorem dJ0_coder_7d493_0 : decode cJ0_coder_7d493 0 = .ok (.getstatic 38, 3) := by decide +kernel
theorem dJ0_coder_7d493_3 : decode cJ0_coder_7d493 3 = .ok (.ifCond .eq 10, 3) := by decide +kernel
theorem dJ0_coder_7d493_6 : decode cJ0_coder_7d493 6 = .ok (.aload_n 0, 1) := by decide +kernel
theorem dJ0_coder_7d493_7 : decode cJ0_coder_7d493 7 = .ok (.getfield 15, 3) := by decide +kernel
theorem dJ0_coder_7d493_10 : decode cJ0_coder_7d493 10 = .ok (.goto 4, 3) := by decide +kernel
theorem dJ0_coder_7d493_13 : decode cJ0_coder_7d493 13 = .ok (.iconst 1, 1) := by decide +kernel
theorem dJ0_coder_7d493_14 : decode cJ0_coder_7d493 14 = .ok (.ireturn, 1) := by decide +kernel
theorem dJ0_isLatin1_aae02_0 : decode cJ0_isLatin1_aae02 0 = .ok (.getstatic 38, 3) := by decide +kernel
theorem dJ0_isLatin1_aae02_3 : decode cJ0_isLatin1_aae02 3 = .ok (.ifCond .eq 14, 3) := by decide +kernel
theorem dJ0_isLatin1_aae02_6 : decode cJ0_isLatin1_aae02 6 = .ok (.aload_n 0, 1) := by decide +kernel
theorem dJ0_isLatin1_aae02_7 : decode cJ0_isLatin1_aae02 7 = .ok (.getfield 15, 3) := by decide +kernel
theorem dJ0_isLatin1_aae02_10 : decode cJ0_isLatin1_aae02 10 = .ok (.ifCond .ne 7, 3) := by decide +kernel
theorem dJ0_isLatin1_aae02_13 : decode cJ0_isLatin1_aae02 13 = .ok (.iconst 1, 1) := by decide +kernel
theorem dJ0_isLatin1_aae02_14 : decode cJ0_isLatin1_aae02 14 = .ok (.goto 4, 3) := by decide +kernel
theorem dJ0_isLatin1_aae02_17 : decode cJ0_isLatin1_aae02 17 = .ok (.iconst 0, 1) := by decide +kernel
theorem dJ0_isLatin1_aae02_18 : decode cJ0_isLatin1_aae02 18 = .ok (.ireturn, 1) := by decide +kernel
theorem dJ0_checkIndex_df160_0 : decode cJ0_checkIndex_df160 0 = .ok (.iload_n 0, 1) := by decide +kernel
theorem dJ0_checkIndex_df160_1 : decode cJ0_checkIndex_df160 1 = .ok (.iload_n 1, 1) := by decide +kernel
theorem dJ0_checkIndex_df160_2 : decode cJ0_checkIndex_df160 2 = .ok (.getstatic 1053, 3) := by decide +kernel
theorem dJ0_checkIndex_df160_5 : decode cJ0_checkIndex_df160 5 = .ok (.invokestatic 1059, 3) := by decide +kernel
theorem dJ0_checkIndex_df160_8 : decode cJ0_checkIndex_df160 8 = .ok (.pop, 1) := by decide +kernel
theorem dJ0_checkIndex_df160_9 : decode cJ0_checkIndex_df160 9 = .ok (.return_, 1) := by decide +kernel
theorem dJ1_charAt_3b067_0 : decode cJ1_charAt_3b067 0 = .ok (.iload_n 1, 1) := by decide +kernel
theorem dJ1_charAt_3b067_1 : decode cJ1_charAt_3b067 1 = .ok (.aload_n 0, 1) := by decide +kernel
theorem dJ1_charAt_3b067_2 : decode cJ1_charAt_3b067 2 = .ok (.arraylength, 1) := by decide +kernel
theorem dJ1_charAt_3b067_3 : decode cJ1_charAt_3b067 3 = .ok (.invokestatic 9, 3) := by decide +kernel
theorem dJ1_charAt_3b067_6 : decode cJ1_charAt_3b067 6 = .ok (.aload_n 0, 1) := by decide +kernel
theorem dJ1_charAt_3b067_7 : decode cJ1_charAt_3b067 7 = .ok (.iload_n 1, 1) := by decide +kernel
theorem dJ1_charAt_3b067_8 : decode cJ1_charAt_3b067 8 = .ok (.baload, 1) := by decide +kernel
theorem dJ1_charAt_3b067_9 : decode cJ1_charAt_3b067 9 = .ok (.sipush 255, 3) := by decide +kernel
theorem dJ1_charAt_3b067_12 : decode cJ1_charAt_3b067 12 = .ok (.iand, 1) := by decide +kernel
theorem dJ1_charAt_3b067_13 : decode cJ1_charAt_3b067 13 = .ok (.i2c, 1) := by decide +kernel
theorem dJ1_charAt_3b067_14 : decode cJ1_charAt_3b067 14 = .ok (.ireturn, 1) := by decide +kernel
theorem dJ3_checkIndex_8e157_0 : decode cJ3_checkIndex_8e157 0 = .ok (.iload_n 0, 1) := by decide +kernel
theorem dJ3_checkIndex_8e157_1 : decode cJ3_checkIndex_8e157 1 = .ok (.ifCond .lt 8, 3) := by decide +kernel
theorem dJ3_checkIndex_8e157_4 : decode cJ3_checkIndex_8e157 4 = .ok (.iload_n 0, 1) := by decide +kernel
theorem dJ3_checkIndex_8e157_5 : decode cJ3_checkIndex_8e157 5 = .ok (.iload_n 1, 1) := by decide +kernel
theorem dJ3_checkIndex_8e157_6 : decode cJ3_checkIndex_8e157 6 = .ok (.if_icmp .lt 10, 3) := by decide +kernel
theorem dJ3_checkIndex_8e157_9 : decode cJ3_checkIndex_8e157 9 = .ok (.aload_n 2, 1) := by decide +kernel
theorem dJ3_checkIndex_8e157_10 : decode cJ3_checkIndex_8e157 10 = .ok (.iload_n 0, 1) := by decide +kernel
theorem dJ3_checkIndex_8e157_11 : decode cJ3_checkIndex_8e157 11 = .ok (.iload_n 1, 1) := by decide +kernel
theorem dJ3_checkIndex_8e157_12 : decode cJ3_checkIndex_8e157 12 = .ok (.invokestatic 95, 3) := by decide +kernel
theorem dJ3_checkIndex_8e157_15 : decode cJ3_checkIndex_8e157 15 = .ok (.athrow, 1) := by decide +kernel
theorem dJ3_checkIndex_8e157_16 : decode cJ3_checkIndex_8e157 16 = .ok (.iload_n 0, 1) := by decide +kernel
theorem dJ3_checkIndex_8e157_17 : decode cJ3_checkIndex_8e157 17 = .ok (.ireturn, 1) := by decide +kernel
theorem dL_law_0 : decode cL_law 0 = .ok (.new 7, 3) := by decide +kernel
theorem dL_law_3 : decode cL_law 3 = .ok (.dup, 1) := by decide +kernel
theorem dL_law_4 : decode cL_law 4 = .ok (.invokespecial 9, 3) := by decide +kernel
theorem dL_law_7 : decode cL_law 7 = .ok (.astore_n 1, 1) := by decide +kernel
theorem dL_law_8 : decode cL_law 8 = .ok (.new 10, 3) := by decide +kernel
theorem dL_law_11 : decode cL_law 11 = .ok (.dup, 1) := by decide +kernel
theorem dL_law_12 : decode cL_law 12 = .ok (.invokespecial 12, 3) := by decide +kernel
theorem dL_law_15 : decode cL_law 15 = .ok (.astore_n 2, 1) := by decide +kernel
theorem dL_law_16 : decode cL_law 16 = .ok (.iconst 0, 1) := by decide +kernel
theorem dL_law_17 : decode cL_law 17 = .ok (.istore_n 3, 1) := by decide +kernel
theorem dL_law_18 : decode cL_law 18 = .ok (.iload_n 3, 1) := by decide +kernel
theorem dL_law_19 : decode cL_law 19 = .ok (.aload_n 0, 1) := by decide +kernel
theorem dL_law_20 : decode cL_law 20 = .ok (.arraylength, 1) := by decide +kernel
theorem dL_law_21 : decode cL_law 21 = .ok (.iconst 5, 1) := by decide +kernel
theorem dL_law_22 : decode cL_law 22 = .ok (.isub, 1) := by decide +kernel
theorem dL_law_23 : decode cL_law 23 = .ok (.if_icmp .gt 1193, 3) := by decide +kernel
theorem dL_law_26 : decode cL_law 26 = .ok (.aload_n 0, 1) := by decide +kernel
theorem dL_law_27 : decode cL_law 27 = .ok (.iload_n 3, 1) := by decide +kernel
theorem dL_law_28 : decode cL_law 28 = .ok (.iaload, 1) := by decide +kernel
theorem dL_law_29 : decode cL_law 29 = .ok (.bipush 31, 2) := by decide +kernel
theorem dL_law_31 : decode cL_law 31 = .ok (.iand, 1) := by decide +kernel
theorem dL_law_32 : decode cL_law 32 = .ok (.tableswitch 1178 0 31 #[144, 167, 180, 203, 236, 269, 302, 335, 378, 401, 444, 487, 520, 569, 592, 635, 678, 721, 774, 817, 850, 873, 896, 929, 952, 996, 1030, 1073, 1096, 1129, 1142, 1155], 144) := by decide +kernel
theorem dL_law_176 : decode cL_law 176 = .ok (.aload_n 1, 1) := by decide +kernel
theorem dL_law_177 : decode cL_law 177 = .ok (.aload_n 0, 1) := by decide +kernel
theorem dL_law_178 : decode cL_law 178 = .ok (.iload_n 3, 1) := by decide +kernel
theorem dL_law_179 : decode cL_law 179 = .ok (.iconst 1, 1) := by decide +kernel
theorem dL_law_180 : decode cL_law 180 = .ok (.iadd, 1) := by decide +kernel
theorem dL_law_181 : decode cL_law 181 = .ok (.iaload, 1) := by decide +kernel
theorem dL_law_182 : decode cL_law 182 = .ok (.invokevirtual 13, 3) := by decide +kernel
theorem dL_law_185 : decode cL_law 185 = .ok (.aload_n 2, 1) := by decide +kernel
theorem dL_law_186 : decode cL_law 186 = .ok (.aload_n 0, 1) := by decide +kernel
theorem dL_law_187 : decode cL_law 187 = .ok (.iload_n 3, 1) := by decide +kernel
theorem dL_law_188 : decode cL_law 188 = .ok (.iconst 1, 1) := by decide +kernel
theorem dL_law_189 : decode cL_law 189 = .ok (.iadd, 1) := by decide +kernel
theorem dL_law_190 : decode cL_law 190 = .ok (.iaload, 1) := by decide +kernel
theorem dL_law_191 : decode cL_law 191 = .ok (.invokevirtual 17, 3) := by decide +kernel
theorem dL_law_194 : decode cL_law 194 = .ok (.if_icmp .eq 1016, 3) := by decide +kernel
theorem dL_law_197 : decode cL_law 197 = .ok (.iconst 0, 1) := by decide +kernel
theorem dL_law_198 : decode cL_law 198 = .ok (.ireturn, 1) := by decide +kernel
theorem dL_law_199 : decode cL_law 199 = .ok (.aload_n 1, 1) := by decide +kernel
theorem dL_law_200 : decode cL_law 200 = .ok (.invokevirtual 18, 3) := by decide +kernel
theorem dL_law_203 : decode cL_law 203 = .ok (.aload_n 2, 1) := by decide +kernel
theorem dL_law_204 : decode cL_law 204 = .ok (.invokevirtual 22, 3) := by decide +kernel
theorem dL_law_207 : decode cL_law 207 = .ok (.if_icmp .eq 1003, 3) := by decide +kernel
theorem dL_law_210 : decode cL_law 210 = .ok (.iconst 0, 1) := by decide +kernel
theorem dL_law_211 : decode cL_law 211 = .ok (.ireturn, 1) := by decide +kernel
theorem dL_law_212 : decode cL_law 212 = .ok (.aload_n 1, 1) := by decide +kernel
theorem dL_law_213 : decode cL_law 213 = .ok (.aload_n 0, 1) := by decide +kernel
theorem dL_law_214 : decode cL_law 214 = .ok (.iload_n 3, 1) := by decide +kernel
theorem dL_law_215 : decode cL_law 215 = .ok (.iconst 1, 1) := by decide +kernel
theorem dL_law_216 : decode cL_law 216 = .ok (.iadd, 1) := by decide +kernel
theorem dL_law_217 : decode cL_law 217 = .ok (.iaload, 1) := by decide +kernel
theorem dL_law_218 : decode cL_law 218 = .ok (.invokevirtual 23, 3) := by decide +kernel
theorem dL_law_221 : decode cL_law 221 = .ok (.aload_n 2, 1) := by decide +kernel
theorem dL_law_222 : decode cL_law 222 = .ok (.aload_n 0, 1) := by decide +kernel
theorem dL_law_223 : decode cL_law 223 = .ok (.iload_n 3, 1) := by decide +kernel
theorem dL_law_224 : decode cL_law 224 = .ok (.iconst 1, 1) := by decide +kernel
theorem dL_law_225 : decode cL_law 225 = .ok (.iadd, 1) := by decide +kernel
theorem dL_law_226 : decode cL_law 226 = .ok (.iaload, 1) := by decide +kernel
theorem dL_law_227 : decode cL_law 227 = .ok (.invokevirtual 26, 3) := by decide +kernel
theorem dL_law_230 : decode cL_law 230 = .ok (.if_icmp .eq 980, 3) := by decide +kernel
theorem dL_law_233 : decode cL_law 233 = .ok (.iconst 0, 1) := by decide +kernel
theorem dL_law_234 : decode cL_law 234 = .ok (.ireturn, 1) := by decide +kernel
theorem dL_law_235 : decode cL_law 235 = .ok (.aload_n 1, 1) := by decide +kernel
theorem dL_law_236 : decode cL_law 236 = .ok (.aload_n 0, 1) := by decide +kernel
theorem dL_law_237 : decode cL_law 237 = .ok (.iload_n 3, 1) := by decide +kernel
theorem dL_law_238 : decode cL_law 238 = .ok (.iconst 1, 1) := by decide +kernel
theorem dL_law_239 : decode cL_law 239 = .ok (.iadd, 1) := by decide +kernel
theorem dL_law_240 : decode cL_law 240 = .ok (.iaload, 1) := by decide +kernel
theorem dL_law_241 : decode cL_law 241 = .ok (.aload_n 0, 1) := by decide +kernel
theorem dL_law_242 : decode cL_law 242 = .ok (.iload_n 3, 1) := by decide +kernel
theorem dL_law_243 : decode cL_law 243 = .ok (.iconst 2, 1) := by decide +kernel
theorem dL_law_244 : decode cL_law 244 = .ok (.iadd, 1) := by decide +kernel
theorem dL_law_245 : decode cL_law 245 = .ok (.iaload, 1) := by decide +kernel
theorem dL_law_246 : decode cL_law 246 = .ok (.invokevirtual 27, 3) := by decide +kernel
theorem dL_law_249 : decode cL_law 249 = .ok (.aload_n 2, 1) := by decide +kernel
theorem dL_law_250 : decode cL_law 250 = .ok (.aload_n 0, 1) := by decide +kernel
theorem dL_law_251 : decode cL_law 251 = .ok (.iload_n 3, 1) := by decide +kernel
theorem dL_law_252 : decode cL_law 252 = .ok (.iconst 1, 1) := by decide +kernel
theorem dL_law_253 : decode cL_law 253 = .ok (.iadd, 1) := by decide +kernel
theorem dL_law_254 : decode cL_law 254 = .ok (.iaload, 1) := by decide +kernel
theorem dL_law_255 : decode cL_law 255 = .ok (.aload_n 0, 1) := by decide +kernel
theorem dL_law_256 : decode cL_law 256 = .ok (.iload_n 3, 1) := by decide +kernel
theorem dL_law_257 : decode cL_law 257 = .ok (.iconst 2, 1) := by decide +kernel
theorem dL_law_258 : decode cL_law 258 = .ok (.iadd, 1) := by decide +kernel
theorem dL_law_259 : decode cL_law 259 = .ok (.iaload, 1) := by decide +kernel
theorem dL_law_260 : decode cL_law 260 = .ok (.invokevirtual 31, 3) := by decide +kernel
theorem dL_law_263 : decode cL_law 263 = .ok (.if_icmp .eq 947, 3) := by decide +kernel
theorem dL_law_266 : decode cL_law 266 = .ok (.iconst 0, 1) := by decide +kernel
theorem dL_law_267 : decode cL_law 267 = .ok (.ireturn, 1) := by decide +kernel
theorem dL_law_268 : decode cL_law 268 = .ok (.aload_n 1, 1) := by decide +kernel
theorem dL_law_269 : decode cL_law 269 = .ok (.aload_n 0, 1) := by decide +kernel
theorem dL_law_270 : decode cL_law 270 = .ok (.iload_n 3, 1) := by decide +kernel
theorem dL_law_271 : decode cL_law 271 = .ok (.iconst 1, 1) := by decide +kernel
theorem dL_law_272 : decode cL_law 272 = .ok (.iadd, 1) := by decide +kernel
theorem dL_law_273 : decode cL_law 273 = .ok (.iaload, 1) := by decide +kernel
theorem dL_law_274 : decode cL_law 274 = .ok (.aload_n 0, 1) := by decide +kernel
theorem dL_law_275 : decode cL_law 275 = .ok (.iload_n 3, 1) := by decide +kernel
theorem dL_law_276 : decode cL_law 276 = .ok (.iconst 2, 1) := by decide +kernel
theorem dL_law_277 : decode cL_law 277 = .ok (.iadd, 1) := by decide +kernel
theorem dL_law_278 : decode cL_law 278 = .ok (.iaload, 1) := by decide +kernel
theorem dL_law_279 : decode cL_law 279 = .ok (.invokevirtual 32, 3) := by decide +kernel
theorem dL_law_282 : decode cL_law 282 = .ok (.aload_n 2, 1) := by decide +kernel
theorem dL_law_283 : decode cL_law 283 = .ok (.aload_n 0, 1) := by decide +kernel
theorem dL_law_284 : decode cL_law 284 = .ok (.iload_n 3, 1) := by decide +kernel
theorem dL_law_285 : decode cL_law 285 = .ok (.iconst 1, 1) := by decide +kernel
theorem dL_law_286 : decode cL_law 286 = .ok (.iadd, 1) := by decide +kernel
theorem dL_law_287 : decode cL_law 287 = .ok (.iaload, 1) := by decide +kernel
theorem dL_law_288 : decode cL_law 288 = .ok (.aload_n 0, 1) := by decide +kernel
theorem dL_law_289 : decode cL_law 289 = .ok (.iload_n 3, 1) := by decide +kernel
theorem dL_law_290 : decode cL_law 290 = .ok (.iconst 2, 1) := by decide +kernel
theorem dL_law_291 : decode cL_law 291 = .ok (.iadd, 1) := by decide +kernel
theorem dL_law_292 : decode cL_law 292 = .ok (.iaload, 1) := by decide +kernel
theorem dL_law_293 : decode cL_law 293 = .ok (.invokevirtual 35, 3) := by decide +kernel
theorem dL_law_296 : decode cL_law 296 = .ok (.if_icmp .eq 914, 3) := by decide +kernel
theorem dL_law_299 : decode cL_law 299 = .ok (.iconst 0, 1) := by decide +kernel
theorem dL_law_300 : decode cL_law 300 = .ok (.ireturn, 1) := by decide +kernel
theorem dL_law_301 : decode cL_law 301 = .ok (.aload_n 1, 1) := by decide +kernel
theorem dL_law_302 : decode cL_law 302 = .ok (.aload_n 0, 1) := by decide +kernel
theorem dL_law_303 : decode cL_law 303 = .ok (.iload_n 3, 1) := by decide +kernel
theorem dL_law_304 : decode cL_law 304 = .ok (.iconst 1, 1) := by decide +kernel
theorem dL_law_305 : decode cL_law 305 = .ok (.iadd, 1) := by decide +kernel
theorem dL_law_306 : decode cL_law 306 = .ok (.iaload, 1) := by decide +kernel
theorem dL_law_307 : decode cL_law 307 = .ok (.aload_n 0, 1) := by decide +kernel
theorem dL_law_308 : decode cL_law 308 = .ok (.iload_n 3, 1) := by decide +kernel
theorem dL_law_309 : decode cL_law 309 = .ok (.iconst 2, 1) := by decide +kernel
theorem dL_law_310 : decode cL_law 310 = .ok (.iadd, 1) := by decide +kernel
theorem dL_law_311 : decode cL_law 311 = .ok (.iaload, 1) := by decide +kernel
theorem dL_law_312 : decode cL_law 312 = .ok (.invokevirtual 36, 3) := by decide +kernel
theorem dL_law_315 : decode cL_law 315 = .ok (.aload_n 2, 1) := by decide +kernel
theorem dL_law_316 : decode cL_law 316 = .ok (.aload_n 0, 1) := by decide +kernel
theorem dL_law_317 : decode cL_law 317 = .ok (.iload_n 3, 1) := by decide +kernel
theorem dL_law_318 : decode cL_law 318 = .ok (.iconst 1, 1) := by decide +kernel
theorem dL_law_319 : decode cL_law 319 = .ok (.iadd, 1) := by decide +kernel
theorem dL_law_320 : decode cL_law 320 = .ok (.iaload, 1) := by decide +kernel
theorem dL_law_321 : decode cL_law 321 = .ok (.aload_n 0, 1) := by decide +kernel
theorem dL_law_322 : decode cL_law 322 = .ok (.iload_n 3, 1) := by decide +kernel
theorem dL_law_323 : decode cL_law 323 = .ok (.iconst 2, 1) := by decide +kernel
theorem dL_law_324 : decode cL_law 324 = .ok (.iadd, 1) := by decide +kernel
theorem dL_law_325 : decode cL_law 325 = .ok (.iaload, 1) := by decide +kernel
theorem dL_law_326 : decode cL_law 326 = .ok (.invokevirtual 39, 3) := by decide +kernel
theorem dL_law_329 : decode cL_law 329 = .ok (.if_icmp .eq 881, 3) := by decide +kernel
theorem dL_law_332 : decode cL_law 332 = .ok (.iconst 0, 1) := by decide +kernel
theorem dL_law_333 : decode cL_law 333 = .ok (.ireturn, 1) := by decide +kernel
theorem dL_law_334 : decode cL_law 334 = .ok (.aload_n 1, 1) := by decide +kernel
theorem dL_law_335 : decode cL_law 335 = .ok (.aload_n 0, 1) := by decide +kernel
theorem dL_law_336 : decode cL_law 336 = .ok (.iload_n 3, 1) := by decide +kernel
theorem dL_law_337 : decode cL_law 337 = .ok (.iconst 1, 1) := by decide +kernel
theorem dL_law_338 : decode cL_law 338 = .ok (.iadd, 1) := by decide +kernel
theorem dL_law_339 : decode cL_law 339 = .ok (.iaload, 1) := by decide +kernel
theorem dL_law_340 : decode cL_law 340 = .ok (.aload_n 0, 1) := by decide +kernel
theorem dL_law_341 : decode cL_law 341 = .ok (.iload_n 3, 1) := by decide +kernel
theorem dL_law_342 : decode cL_law 342 = .ok (.iconst 2, 1) := by decide +kernel
theorem dL_law_343 : decode cL_law 343 = .ok (.iadd, 1) := by decide +kernel
theorem dL_law_344 : decode cL_law 344 = .ok (.iaload, 1) := by decide +kernel
theorem dL_law_345 : decode cL_law 345 = .ok (.invokevirtual 40, 3) := by decide +kernel
theorem dL_law_348 : decode cL_law 348 = .ok (.aload_n 2, 1) := by decide +kernel
theorem dL_law_349 : decode cL_law 349 = .ok (.aload_n 0, 1) := by decide +kernel
theorem dL_law_350 : decode cL_law 350 = .ok (.iload_n 3, 1) := by decide +kernel
theorem dL_law_351 : decode cL_law 351 = .ok (.iconst 1, 1) := by decide +kernel
theorem dL_law_352 : decode cL_law 352 = .ok (.iadd, 1) := by decide +kernel
theorem dL_law_353 : decode cL_law 353 = .ok (.iaload, 1) := by decide +kernel
theorem dL_law_354 : decode cL_law 354 = .ok (.aload_n 0, 1) := by decide +kernel
theorem dL_law_355 : decode cL_law 355 = .ok (.iload_n 3, 1) := by decide +kernel
theorem dL_law_356 : decode cL_law 356 = .ok (.iconst 2, 1) := by decide +kernel
theorem dL_law_357 : decode cL_law 357 = .ok (.iadd, 1) := by decide +kernel
theorem dL_law_358 : decode cL_law 358 = .ok (.iaload, 1) := by decide +kernel
theorem dL_law_359 : decode cL_law 359 = .ok (.invokevirtual 43, 3) := by decide +kernel
theorem dL_law_362 : decode cL_law 362 = .ok (.if_icmp .eq 848, 3) := by decide +kernel
theorem dL_law_365 : decode cL_law 365 = .ok (.iconst 0, 1) := by decide +kernel
theorem dL_law_366 : decode cL_law 366 = .ok (.ireturn, 1) := by decide +kernel
theorem dL_law_367 : decode cL_law 367 = .ok (.aload_n 1, 1) := by decide +kernel
theorem dL_law_368 : decode cL_law 368 = .ok (.aload_n 0, 1) := by decide +kernel
theorem dL_law_369 : decode cL_law 369 = .ok (.iload_n 3, 1) := by decide +kernel
theorem dL_law_370 : decode cL_law 370 = .ok (.iconst 1, 1) := by decide +kernel
theorem dL_law_371 : decode cL_law 371 = .ok (.iadd, 1) := by decide +kernel
theorem dL_law_372 : decode cL_law 372 = .ok (.iaload, 1) := by decide +kernel
theorem dL_law_373 : decode cL_law 373 = .ok (.aload_n 0, 1) := by decide +kernel
theorem dL_law_374 : decode cL_law 374 = .ok (.iload_n 3, 1) := by decide +kernel
theorem dL_law_375 : decode cL_law 375 = .ok (.iconst 2, 1) := by decide +kernel
theorem dL_law_376 : decode cL_law 376 = .ok (.iadd, 1) := by decide +kernel
theorem dL_law_377 : decode cL_law 377 = .ok (.iaload, 1) := by decide +kernel
theorem dL_law_378 : decode cL_law 378 = .ok (.aload_n 0, 1) := by decide +kernel
theorem dL_law_379 : decode cL_law 379 = .ok (.iload_n 3, 1) := by decide +kernel
theorem dL_law_380 : decode cL_law 380 = .ok (.iconst 3, 1) := by decide +kernel
theorem dL_law_381 : decode cL_law 381 = .ok (.iadd, 1) := by decide +kernel
theorem dL_law_382 : decode cL_law 382 = .ok (.iaload, 1) := by decide +kernel
theorem dL_law_383 : decode cL_law 383 = .ok (.invokevirtual 44, 3) := by decide +kernel
theorem dL_law_386 : decode cL_law 386 = .ok (.aload_n 2, 1) := by decide +kernel
theorem dL_law_387 : decode cL_law 387 = .ok (.aload_n 0, 1) := by decide +kernel
theorem dL_law_388 : decode cL_law 388 = .ok (.iload_n 3, 1) := by decide +kernel
theorem dL_law_389 : decode cL_law 389 = .ok (.iconst 1, 1) := by decide +kernel
theorem dL_law_390 : decode cL_law 390 = .ok (.iadd, 1) := by decide +kernel
theorem dL_law_391 : decode cL_law 391 = .ok (.iaload, 1) := by decide +kernel
theorem dL_law_392 : decode cL_law 392 = .ok (.aload_n 0, 1) := by decide +kernel
theorem dL_law_393 : decode cL_law 393 = .ok (.iload_n 3, 1) := by decide +kernel
theorem dL_law_394 : decode cL_law 394 = .ok (.iconst 2, 1) := by decide +kernel
theorem dL_law_395 : decode cL_law 395 = .ok (.iadd, 1) := by decide +kernel
theorem dL_law_396 : decode cL_law 396 = .ok (.iaload, 1) := by decide +kernel
theorem dL_law_397 : decode cL_law 397 = .ok (.aload_n 0, 1) := by decide +kernel
theorem dL_law_398 : decode cL_law 398 = .ok (.iload_n 3, 1) := by decide +kernel
theorem dL_law_399 : decode cL_law 399 = .ok (.iconst 3, 1) := by decide +kernel
theorem dL_law_400 : decode cL_law 400 = .ok (.iadd, 1) := by decide +kernel
theorem dL_law_401 : decode cL_law 401 = .ok (.iaload, 1) := by decide +kernel
theorem dL_law_402 : decode cL_law 402 = .ok (.invokevirtual 48, 3) := by decide +kernel
theorem dL_law_405 : decode cL_law 405 = .ok (.if_icmp .eq 805, 3) := by decide +kernel
theorem dL_law_408 : decode cL_law 408 = .ok (.iconst 0, 1) := by decide +kernel
theorem dL_law_409 : decode cL_law 409 = .ok (.ireturn, 1) := by decide +kernel
theorem dL_law_410 : decode cL_law 410 = .ok (.aload_n 1, 1) := by decide +kernel
theorem dL_law_411 : decode cL_law 411 = .ok (.aload_n 0, 1) := by decide +kernel
theorem dL_law_412 : decode cL_law 412 = .ok (.iload_n 3, 1) := by decide +kernel
theorem dL_law_413 : decode cL_law 413 = .ok (.iconst 1, 1) := by decide +kernel
theorem dL_law_414 : decode cL_law 414 = .ok (.iadd, 1) := by decide +kernel
theorem dL_law_415 : decode cL_law 415 = .ok (.iaload, 1) := by decide +kernel
theorem dL_law_416 : decode cL_law 416 = .ok (.invokevirtual 49, 3) := by decide +kernel
theorem dL_law_419 : decode cL_law 419 = .ok (.aload_n 2, 1) := by decide +kernel
theorem dL_law_420 : decode cL_law 420 = .ok (.aload_n 0, 1) := by decide +kernel
theorem dL_law_421 : decode cL_law 421 = .ok (.iload_n 3, 1) := by decide +kernel
theorem dL_law_422 : decode cL_law 422 = .ok (.iconst 1, 1) := by decide +kernel
theorem dL_law_423 : decode cL_law 423 = .ok (.iadd, 1) := by decide +kernel
theorem dL_law_424 : decode cL_law 424 = .ok (.iaload, 1) := by decide +kernel
theorem dL_law_425 : decode cL_law 425 = .ok (.invokevirtual 52, 3) := by decide +kernel
theorem dL_law_428 : decode cL_law 428 = .ok (.if_icmp .eq 782, 3) := by decide +kernel
theorem dL_law_431 : decode cL_law 431 = .ok (.iconst 0, 1) := by decide +kernel
theorem dL_law_432 : decode cL_law 432 = .ok (.ireturn, 1) := by decide +kernel
theorem dL_law_433 : decode cL_law 433 = .ok (.aload_n 1, 1) := by decide +kernel
theorem dL_law_434 : decode cL_law 434 = .ok (.aload_n 0, 1) := by decide +kernel
theorem dL_law_435 : decode cL_law 435 = .ok (.iload_n 3, 1) := by decide +kernel
theorem dL_law_436 : decode cL_law 436 = .ok (.iconst 1, 1) := by decide +kernel
theorem dL_law_437 : decode cL_law 437 = .ok (.iadd, 1) := by decide +kernel
theorem dL_law_438 : decode cL_law 438 = .ok (.iaload, 1) := by decide +kernel
theorem dL_law_439 : decode cL_law 439 = .ok (.aload_n 0, 1) := by decide +kernel
theorem dL_law_440 : decode cL_law 440 = .ok (.iload_n 3, 1) := by decide +kernel
theorem dL_law_441 : decode cL_law 441 = .ok (.iconst 2, 1) := by decide +kernel
theorem dL_law_442 : decode cL_law 442 = .ok (.iadd, 1) := by decide +kernel
theorem dL_law_443 : decode cL_law 443 = .ok (.iaload, 1) := by decide +kernel
theorem dL_law_444 : decode cL_law 444 = .ok (.aload_n 0, 1) := by decide +kernel
theorem dL_law_445 : decode cL_law 445 = .ok (.iload_n 3, 1) := by decide +kernel
theorem dL_law_446 : decode cL_law 446 = .ok (.iconst 3, 1) := by decide +kernel
theorem dL_law_447 : decode cL_law 447 = .ok (.iadd, 1) := by decide +kernel
theorem dL_law_448 : decode cL_law 448 = .ok (.iaload, 1) := by decide +kernel
theorem dL_law_449 : decode cL_law 449 = .ok (.invokevirtual 53, 3) := by decide +kernel
theorem dL_law_452 : decode cL_law 452 = .ok (.aload_n 2, 1) := by decide +kernel
theorem dL_law_453 : decode cL_law 453 = .ok (.aload_n 0, 1) := by decide +kernel
theorem dL_law_454 : decode cL_law 454 = .ok (.iload_n 3, 1) := by decide +kernel
theorem dL_law_455 : decode cL_law 455 = .ok (.iconst 1, 1) := by decide +kernel
theorem dL_law_456 : decode cL_law 456 = .ok (.iadd, 1) := by decide +kernel
theorem dL_law_457 : decode cL_law 457 = .ok (.iaload, 1) := by decide +kernel
theorem dL_law_458 : decode cL_law 458 = .ok (.aload_n 0, 1) := by decide +kernel
theorem dL_law_459 : decode cL_law 459 = .ok (.iload_n 3, 1) := by decide +kernel
theorem dL_law_460 : decode cL_law 460 = .ok (.iconst 2, 1) := by decide +kernel
theorem dL_law_461 : decode cL_law 461 = .ok (.iadd, 1) := by decide +kernel
theorem dL_law_462 : decode cL_law 462 = .ok (.iaload, 1) := by decide +kernel
theorem dL_law_463 : decode cL_law 463 = .ok (.aload_n 0, 1) := by decide +kernel
theorem dL_law_464 : decode cL_law 464 = .ok (.iload_n 3, 1) := by decide +kernel
theorem dL_law_465 : decode cL_law 465 = .ok (.iconst 3, 1) := by decide +kernel
theorem dL_law_466 : decode cL_law 466 = .ok (.iadd, 1) := by decide +kernel
theorem dL_law_467 : decode cL_law 467 = .ok (.iaload, 1) := by decide +kernel
theorem dL_law_468 : decode cL_law 468 = .ok (.invokevirtual 56, 3) := by decide +kernel
theorem dL_law_471 : decode cL_law 471 = .ok (.if_icmp .eq 739, 3) := by decide +kernel
theorem dL_law_474 : decode cL_law 474 = .ok (.iconst 0, 1) := by decide +kernel
theorem dL_law_475 : decode cL_law 475 = .ok (.ireturn, 1) := by decide +kernel
theorem dL_law_476 : decode cL_law 476 = .ok (.aload_n 1, 1) := by decide +kernel
theorem dL_law_477 : decode cL_law 477 = .ok (.aload_n 0, 1) := by decide +kernel
theorem dL_law_478 : decode cL_law 478 = .ok (.iload_n 3, 1) := by decide +kernel
theorem dL_law_479 : decode cL_law 479 = .ok (.iconst 1, 1) := by decide +kernel
theorem dL_law_480 : decode cL_law 480 = .ok (.iadd, 1) := by decide +kernel
theorem dL_law_481 : decode cL_law 481 = .ok (.iaload, 1) := by decide +kernel
theorem dL_law_482 : decode cL_law 482 = .ok (.aload_n 0, 1) := by decide +kernel
theorem dL_law_483 : decode cL_law 483 = .ok (.iload_n 3, 1) := by decide +kernel
theorem dL_law_484 : decode cL_law 484 = .ok (.iconst 2, 1) := by decide +kernel
theorem dL_law_485 : decode cL_law 485 = .ok (.iadd, 1) := by decide +kernel
theorem dL_law_486 : decode cL_law 486 = .ok (.iaload, 1) := by decide +kernel
theorem dL_law_487 : decode cL_law 487 = .ok (.aload_n 0, 1) := by decide +kernel
theorem dL_law_488 : decode cL_law 488 = .ok (.iload_n 3, 1) := by decide +kernel
theorem dL_law_489 : decode cL_law 489 = .ok (.iconst 3, 1) := by decide +kernel
theorem dL_law_490 : decode cL_law 490 = .ok (.iadd, 1) := by decide +kernel
theorem dL_law_491 : decode cL_law 491 = .ok (.iaload, 1) := by decide +kernel
theorem dL_law_492 : decode cL_law 492 = .ok (.invokevirtual 57, 3) := by decide +kernel
theorem dL_law_495 : decode cL_law 495 = .ok (.aload_n 2, 1) := by decide +kernel
theorem dL_law_496 : decode cL_law 496 = .ok (.aload_n 0, 1) := by decide +kernel
theorem dL_law_497 : decode cL_law 497 = .ok (.iload_n 3, 1) := by decide +kernel
theorem dL_law_498 : decode cL_law 498 = .ok (.iconst 1, 1) := by decide +kernel
theorem dL_law_499 : decode cL_law 499 = .ok (.iadd, 1) := by decide +kernel
theorem dL_law_500 : decode cL_law 500 = .ok (.iaload, 1) := by decide +kernel
theorem dL_law_501 : decode cL_law 501 = .ok (.aload_n 0, 1) := by decide +kernel
theorem dL_law_502 : decode cL_law 502 = .ok (.iload_n 3, 1) := by decide +kernel
theorem dL_law_503 : decode cL_law 503 = .ok (.iconst 2, 1) := by decide +kernel
theorem dL_law_504 : decode cL_law 504 = .ok (.iadd, 1) := by decide +kernel
theorem dL_law_505 : decode cL_law 505 = .ok (.iaload, 1) := by decide +kernel
theorem dL_law_506 : decode cL_law 506 = .ok (.aload_n 0, 1) := by decide +kernel
theorem dL_law_507 : decode cL_law 507 = .ok (.iload_n 3, 1) := by decide +kernel
theorem dL_law_508 : decode cL_law 508 = .ok (.iconst 3, 1) := by decide +kernel
theorem dL_law_509 : decode cL_law 509 = .ok (.iadd, 1) := by decide +kernel
theorem dL_law_510 : decode cL_law 510 = .ok (.iaload, 1) := by decide +kernel
theorem dL_law_511 : decode cL_law 511 = .ok (.invokevirtual 60, 3) := by decide +kernel
theorem dL_law_514 : decode cL_law 514 = .ok (.if_icmp .eq 696, 3) := by decide +kernel
theorem dL_law_517 : decode cL_law 517 = .ok (.iconst 0, 1) := by decide +kernel
theorem dL_law_518 : decode cL_law 518 = .ok (.ireturn, 1) := by decide +kernel
theorem dL_law_519 : decode cL_law 519 = .ok (.aload_n 1, 1) := by decide +kernel
theorem dL_law_520 : decode cL_law 520 = .ok (.aload_n 0, 1) := by decide +kernel
theorem dL_law_521 : decode cL_law 521 = .ok (.iload_n 3, 1) := by decide +kernel
theorem dL_law_522 : decode cL_law 522 = .ok (.iconst 1, 1) := by decide +kernel
theorem dL_law_523 : decode cL_law 523 = .ok (.iadd, 1) := by decide +kernel
theorem dL_law_524 : decode cL_law 524 = .ok (.iaload, 1) := by decide +kernel
theorem dL_law_525 : decode cL_law 525 = .ok (.aload_n 0, 1) := by decide +kernel
theorem dL_law_526 : decode cL_law 526 = .ok (.iload_n 3, 1) := by decide +kernel
theorem dL_law_527 : decode cL_law 527 = .ok (.iconst 2, 1) := by decide +kernel
theorem dL_law_528 : decode cL_law 528 = .ok (.iadd, 1) := by decide +kernel
theorem dL_law_529 : decode cL_law 529 = .ok (.iaload, 1) := by decide +kernel
theorem dL_law_530 : decode cL_law 530 = .ok (.invokevirtual 61, 3) := by decide +kernel
theorem dL_law_533 : decode cL_law 533 = .ok (.aload_n 2, 1) := by decide +kernel
theorem dL_law_534 : decode cL_law 534 = .ok (.aload_n 0, 1) := by decide +kernel
theorem dL_law_535 : decode cL_law 535 = .ok (.iload_n 3, 1) := by decide +kernel
theorem dL_law_536 : decode cL_law 536 = .ok (.iconst 1, 1) := by decide +kernel
theorem dL_law_537 : decode cL_law 537 = .ok (.iadd, 1) := by decide +kernel
theorem dL_law_538 : decode cL_law 538 = .ok (.iaload, 1) := by decide +kernel
theorem dL_law_539 : decode cL_law 539 = .ok (.aload_n 0, 1) := by decide +kernel
theorem dL_law_540 : decode cL_law 540 = .ok (.iload_n 3, 1) := by decide +kernel
theorem dL_law_541 : decode cL_law 541 = .ok (.iconst 2, 1) := by decide +kernel
theorem dL_law_542 : decode cL_law 542 = .ok (.iadd, 1) := by decide +kernel
theorem dL_law_543 : decode cL_law 543 = .ok (.iaload, 1) := by decide +kernel
theorem dL_law_544 : decode cL_law 544 = .ok (.invokevirtual 64, 3) := by decide +kernel
theorem dL_law_547 : decode cL_law 547 = .ok (.if_icmp .eq 663, 3) := by decide +kernel
theorem dL_law_550 : decode cL_law 550 = .ok (.iconst 0, 1) := by decide +kernel
theorem dL_law_551 : decode cL_law 551 = .ok (.ireturn, 1) := by decide +kernel
theorem dL_law_552 : decode cL_law 552 = .ok (.aload_n 1, 1) := by decide +kernel
theorem dL_law_553 : decode cL_law 553 = .ok (.aload_n 0, 1) := by decide +kernel
theorem dL_law_554 : decode cL_law 554 = .ok (.iload_n 3, 1) := by decide +kernel
theorem dL_law_555 : decode cL_law 555 = .ok (.iconst 1, 1) := by decide +kernel
theorem dL_law_556 : decode cL_law 556 = .ok (.iadd, 1) := by decide +kernel
theorem dL_law_557 : decode cL_law 557 = .ok (.iaload, 1) := by decide +kernel
theorem dL_law_558 : decode cL_law 558 = .ok (.aload_n 0, 1) := by decide +kernel
theorem dL_law_559 : decode cL_law 559 = .ok (.iload_n 3, 1) := by decide +kernel
theorem dL_law_560 : decode cL_law 560 = .ok (.iconst 2, 1) := by decide +kernel
theorem dL_law_561 : decode cL_law 561 = .ok (.iadd, 1) := by decide +kernel
theorem dL_law_562 : decode cL_law 562 = .ok (.iaload, 1) := by decide +kernel
theorem dL_law_563 : decode cL_law 563 = .ok (.ifCond .eq 7, 3) := by decide +kernel
theorem dL_law_566 : decode cL_law 566 = .ok (.iconst 1, 1) := by decide +kernel
theorem dL_law_567 : decode cL_law 567 = .ok (.goto 4, 3) := by decide +kernel
theorem dL_law_570 : decode cL_law 570 = .ok (.iconst 0, 1) := by decide +kernel
theorem dL_law_571 : decode cL_law 571 = .ok (.invokevirtual 65, 3) := by decide +kernel
theorem dL_law_574 : decode cL_law 574 = .ok (.aload_n 2, 1) := by decide +kernel
theorem dL_law_575 : decode cL_law 575 = .ok (.aload_n 0, 1) := by decide +kernel
theorem dL_law_576 : decode cL_law 576 = .ok (.iload_n 3, 1) := by decide +kernel
theorem dL_law_577 : decode cL_law 577 = .ok (.iconst 1, 1) := by decide +kernel
theorem dL_law_578 : decode cL_law 578 = .ok (.iadd, 1) := by decide +kernel
theorem dL_law_579 : decode cL_law 579 = .ok (.iaload, 1) := by decide +kernel
theorem dL_law_580 : decode cL_law 580 = .ok (.aload_n 0, 1) := by decide +kernel
theorem dL_law_581 : decode cL_law 581 = .ok (.iload_n 3, 1) := by decide +kernel
theorem dL_law_582 : decode cL_law 582 = .ok (.iconst 2, 1) := by decide +kernel
theorem dL_law_583 : decode cL_law 583 = .ok (.iadd, 1) := by decide +kernel
theorem dL_law_584 : decode cL_law 584 = .ok (.iaload, 1) := by decide +kernel
theorem dL_law_585 : decode cL_law 585 = .ok (.ifCond .eq 7, 3) := by decide +kernel
theorem dL_law_588 : decode cL_law 588 = .ok (.iconst 1, 1) := by decide +kernel
theorem dL_law_589 : decode cL_law 589 = .ok (.goto 4, 3) := by decide +kernel
theorem dL_law_592 : decode cL_law 592 = .ok (.iconst 0, 1) := by decide +kernel
theorem dL_law_593 : decode cL_law 593 = .ok (.invokevirtual 69, 3) := by decide +kernel
theorem dL_law_596 : decode cL_law 596 = .ok (.if_icmp .eq 614, 3) := by decide +kernel
theorem dL_law_599 : decode cL_law 599 = .ok (.iconst 0, 1) := by decide +kernel
theorem dL_law_600 : decode cL_law 600 = .ok (.ireturn, 1) := by decide +kernel
theorem dL_law_601 : decode cL_law 601 = .ok (.aload_n 1, 1) := by decide +kernel
theorem dL_law_602 : decode cL_law 602 = .ok (.aload_n 0, 1) := by decide +kernel
theorem dL_law_603 : decode cL_law 603 = .ok (.iload_n 3, 1) := by decide +kernel
theorem dL_law_604 : decode cL_law 604 = .ok (.iconst 1, 1) := by decide +kernel
theorem dL_law_605 : decode cL_law 605 = .ok (.iadd, 1) := by decide +kernel
theorem dL_law_606 : decode cL_law 606 = .ok (.iaload, 1) := by decide +kernel
theorem dL_law_607 : decode cL_law 607 = .ok (.invokevirtual 70, 3) := by decide +kernel
theorem dL_law_610 : decode cL_law 610 = .ok (.aload_n 2, 1) := by decide +kernel
theorem dL_law_611 : decode cL_law 611 = .ok (.aload_n 0, 1) := by decide +kernel
theorem dL_law_612 : decode cL_law 612 = .ok (.iload_n 3, 1) := by decide +kernel
theorem dL_law_613 : decode cL_law 613 = .ok (.iconst 1, 1) := by decide +kernel
theorem dL_law_614 : decode cL_law 614 = .ok (.iadd, 1) := by decide +kernel
theorem dL_law_615 : decode cL_law 615 = .ok (.iaload, 1) := by decide +kernel
theorem dL_law_616 : decode cL_law 616 = .ok (.invokevirtual 73, 3) := by decide +kernel
theorem dL_law_619 : decode cL_law 619 = .ok (.if_icmp .eq 591, 3) := by decide +kernel
theorem dL_law_622 : decode cL_law 622 = .ok (.iconst 0, 1) := by decide +kernel
theorem dL_law_623 : decode cL_law 623 = .ok (.ireturn, 1) := by decide +kernel
theorem dL_law_624 : decode cL_law 624 = .ok (.aload_n 1, 1) := by decide +kernel
theorem dL_law_625 : decode cL_law 625 = .ok (.aload_n 0, 1) := by decide +kernel
theorem dL_law_626 : decode cL_law 626 = .ok (.iload_n 3, 1) := by decide +kernel
theorem dL_law_627 : decode cL_law 627 = .ok (.iconst 1, 1) := by decide +kernel
theorem dL_law_628 : decode cL_law 628 = .ok (.iadd, 1) := by decide +kernel
theorem dL_law_629 : decode cL_law 629 = .ok (.iaload, 1) := by decide +kernel
theorem dL_law_630 : decode cL_law 630 = .ok (.aload_n 0, 1) := by decide +kernel
theorem dL_law_631 : decode cL_law 631 = .ok (.iload_n 3, 1) := by decide +kernel
theorem dL_law_632 : decode cL_law 632 = .ok (.iconst 2, 1) := by decide +kernel
theorem dL_law_633 : decode cL_law 633 = .ok (.iadd, 1) := by decide +kernel
theorem dL_law_634 : decode cL_law 634 = .ok (.iaload, 1) := by decide +kernel
theorem dL_law_635 : decode cL_law 635 = .ok (.aload_n 0, 1) := by decide +kernel
theorem dL_law_636 : decode cL_law 636 = .ok (.iload_n 3, 1) := by decide +kernel
theorem dL_law_637 : decode cL_law 637 = .ok (.iconst 3, 1) := by decide +kernel
theorem dL_law_638 : decode cL_law 638 = .ok (.iadd, 1) := by decide +kernel
theorem dL_law_639 : decode cL_law 639 = .ok (.iaload, 1) := by decide +kernel
theorem dL_law_640 : decode cL_law 640 = .ok (.invokevirtual 74, 3) := by decide +kernel
theorem dL_law_643 : decode cL_law 643 = .ok (.aload_n 2, 1) := by decide +kernel
theorem dL_law_644 : decode cL_law 644 = .ok (.aload_n 0, 1) := by decide +kernel
theorem dL_law_645 : decode cL_law 645 = .ok (.iload_n 3, 1) := by decide +kernel
theorem dL_law_646 : decode cL_law 646 = .ok (.iconst 1, 1) := by decide +kernel
theorem dL_law_647 : decode cL_law 647 = .ok (.iadd, 1) := by decide +kernel
theorem dL_law_648 : decode cL_law 648 = .ok (.iaload, 1) := by decide +kernel
theorem dL_law_649 : decode cL_law 649 = .ok (.aload_n 0, 1) := by decide +kernel
theorem dL_law_650 : decode cL_law 650 = .ok (.iload_n 3, 1) := by decide +kernel
theorem dL_law_651 : decode cL_law 651 = .ok (.iconst 2, 1) := by decide +kernel
theorem dL_law_652 : decode cL_law 652 = .ok (.iadd, 1) := by decide +kernel
theorem dL_law_653 : decode cL_law 653 = .ok (.iaload, 1) := by decide +kernel
theorem dL_law_654 : decode cL_law 654 = .ok (.aload_n 0, 1) := by decide +kernel
theorem dL_law_655 : decode cL_law 655 = .ok (.iload_n 3, 1) := by decide +kernel
theorem dL_law_656 : decode cL_law 656 = .ok (.iconst 3, 1) := by decide +kernel
theorem dL_law_657 : decode cL_law 657 = .ok (.iadd, 1) := by decide +kernel
theorem dL_law_658 : decode cL_law 658 = .ok (.iaload, 1) := by decide +kernel
theorem dL_law_659 : decode cL_law 659 = .ok (.invokevirtual 77, 3) := by decide +kernel
theorem dL_law_662 : decode cL_law 662 = .ok (.if_icmp .eq 548, 3) := by decide +kernel
theorem dL_law_665 : decode cL_law 665 = .ok (.iconst 0, 1) := by decide +kernel
theorem dL_law_666 : decode cL_law 666 = .ok (.ireturn, 1) := by decide +kernel
theorem dL_law_667 : decode cL_law 667 = .ok (.aload_n 1, 1) := by decide +kernel
theorem dL_law_668 : decode cL_law 668 = .ok (.aload_n 0, 1) := by decide +kernel
theorem dL_law_669 : decode cL_law 669 = .ok (.iload_n 3, 1) := by decide +kernel
theorem dL_law_670 : decode cL_law 670 = .ok (.iconst 1, 1) := by decide +kernel
theorem dL_law_671 : decode cL_law 671 = .ok (.iadd, 1) := by decide +kernel
theorem dL_law_672 : decode cL_law 672 = .ok (.iaload, 1) := by decide +kernel
theorem dL_law_673 : decode cL_law 673 = .ok (.aload_n 0, 1) := by decide +kernel
theorem dL_law_674 : decode cL_law 674 = .ok (.iload_n 3, 1) := by decide +kernel
theorem dL_law_675 : decode cL_law 675 = .ok (.iconst 2, 1) := by decide +kernel
theorem dL_law_676 : decode cL_law 676 = .ok (.iadd, 1) := by decide +kernel
theorem dL_law_677 : decode cL_law 677 = .ok (.iaload, 1) := by decide +kernel
theorem dL_law_678 : decode cL_law 678 = .ok (.aload_n 0, 1) := by decide +kernel
theorem dL_law_679 : decode cL_law 679 = .ok (.iload_n 3, 1) := by decide +kernel
theorem dL_law_680 : decode cL_law 680 = .ok (.iconst 3, 1) := by decide +kernel
theorem dL_law_681 : decode cL_law 681 = .ok (.iadd, 1) := by decide +kernel
theorem dL_law_682 : decode cL_law 682 = .ok (.iaload, 1) := by decide +kernel
theorem dL_law_683 : decode cL_law 683 = .ok (.invokevirtual 78, 3) := by decide +kernel
theorem dL_law_686 : decode cL_law 686 = .ok (.aload_n 2, 1) := by decide +kernel
theorem dL_law_687 : decode cL_law 687 = .ok (.aload_n 0, 1) := by decide +kernel
theorem dL_law_688 : decode cL_law 688 = .ok (.iload_n 3, 1) := by decide +kernel
theorem dL_law_689 : decode cL_law 689 = .ok (.iconst 1, 1) := by decide +kernel
theorem dL_law_690 : decode cL_law 690 = .ok (.iadd, 1) := by decide +kernel
theorem dL_law_691 : decode cL_law 691 = .ok (.iaload, 1) := by decide +kernel
theorem dL_law_692 : decode cL_law 692 = .ok (.aload_n 0, 1) := by decide +kernel
theorem dL_law_693 : decode cL_law 693 = .ok (.iload_n 3, 1) := by decide +kernel
theorem dL_law_694 : decode cL_law 694 = .ok (.iconst 2, 1) := by decide +kernel
theorem dL_law_695 : decode cL_law 695 = .ok (.iadd, 1) := by decide +kernel
theorem dL_law_696 : decode cL_law 696 = .ok (.iaload, 1) := by decide +kernel
theorem dL_law_697 : decode cL_law 697 = .ok (.aload_n 0, 1) := by decide +kernel
theorem dL_law_698 : decode cL_law 698 = .ok (.iload_n 3, 1) := by decide +kernel
theorem dL_law_699 : decode cL_law 699 = .ok (.iconst 3, 1) := by decide +kernel
theorem dL_law_700 : decode cL_law 700 = .ok (.iadd, 1) := by decide +kernel
theorem dL_law_701 : decode cL_law 701 = .ok (.iaload, 1) := by decide +kernel
theorem dL_law_702 : decode cL_law 702 = .ok (.invokevirtual 81, 3) := by decide +kernel
theorem dL_law_705 : decode cL_law 705 = .ok (.if_icmp .eq 505, 3) := by decide +kernel
theorem dL_law_708 : decode cL_law 708 = .ok (.iconst 0, 1) := by decide +kernel
theorem dL_law_709 : decode cL_law 709 = .ok (.ireturn, 1) := by decide +kernel
theorem dL_law_710 : decode cL_law 710 = .ok (.aload_n 1, 1) := by decide +kernel
theorem dL_law_711 : decode cL_law 711 = .ok (.aload_n 0, 1) := by decide +kernel
theorem dL_law_712 : decode cL_law 712 = .ok (.iload_n 3, 1) := by decide +kernel
theorem dL_law_713 : decode cL_law 713 = .ok (.iconst 1, 1) := by decide +kernel
theorem dL_law_714 : decode cL_law 714 = .ok (.iadd, 1) := by decide +kernel
theorem dL_law_715 : decode cL_law 715 = .ok (.iaload, 1) := by decide +kernel
theorem dL_law_716 : decode cL_law 716 = .ok (.aload_n 0, 1) := by decide +kernel
theorem dL_law_717 : decode cL_law 717 = .ok (.iload_n 3, 1) := by decide +kernel
theorem dL_law_718 : decode cL_law 718 = .ok (.iconst 2, 1) := by decide +kernel
theorem dL_law_719 : decode cL_law 719 = .ok (.iadd, 1) := by decide +kernel
theorem dL_law_720 : decode cL_law 720 = .ok (.iaload, 1) := by decide +kernel
theorem dL_law_721 : decode cL_law 721 = .ok (.aload_n 0, 1) := by decide +kernel
theorem dL_law_722 : decode cL_law 722 = .ok (.iload_n 3, 1) := by decide +kernel
theorem dL_law_723 : decode cL_law 723 = .ok (.iconst 3, 1) := by decide +kernel
theorem dL_law_724 : decode cL_law 724 = .ok (.iadd, 1) := by decide +kernel
theorem dL_law_725 : decode cL_law 725 = .ok (.iaload, 1) := by decide +kernel
theorem dL_law_726 : decode cL_law 726 = .ok (.invokevirtual 82, 3) := by decide +kernel
theorem dL_law_729 : decode cL_law 729 = .ok (.aload_n 2, 1) := by decide +kernel
theorem dL_law_730 : decode cL_law 730 = .ok (.aload_n 0, 1) := by decide +kernel
theorem dL_law_731 : decode cL_law 731 = .ok (.iload_n 3, 1) := by decide +kernel
theorem dL_law_732 : decode cL_law 732 = .ok (.iconst 1, 1) := by decide +kernel
theorem dL_law_733 : decode cL_law 733 = .ok (.iadd, 1) := by decide +kernel
theorem dL_law_734 : decode cL_law 734 = .ok (.iaload, 1) := by decide +kernel
theorem dL_law_735 : decode cL_law 735 = .ok (.aload_n 0, 1) := by decide +kernel
theorem dL_law_736 : decode cL_law 736 = .ok (.iload_n 3, 1) := by decide +kernel
theorem dL_law_737 : decode cL_law 737 = .ok (.iconst 2, 1) := by decide +kernel
theorem dL_law_738 : decode cL_law 738 = .ok (.iadd, 1) := by decide +kernel
theorem dL_law_739 : decode cL_law 739 = .ok (.iaload, 1) := by decide +kernel
theorem dL_law_740 : decode cL_law 740 = .ok (.aload_n 0, 1) := by decide +kernel
theorem dL_law_741 : decode cL_law 741 = .ok (.iload_n 3, 1) := by decide +kernel
theorem dL_law_742 : decode cL_law 742 = .ok (.iconst 3, 1) := by decide +kernel
theorem dL_law_743 : decode cL_law 743 = .ok (.iadd, 1) := by decide +kernel
theorem dL_law_744 : decode cL_law 744 = .ok (.iaload, 1) := by decide +kernel
theorem dL_law_745 : decode cL_law 745 = .ok (.invokevirtual 85, 3) := by decide +kernel
theorem dL_law_748 : decode cL_law 748 = .ok (.if_icmp .eq 462, 3) := by decide +kernel
theorem dL_law_751 : decode cL_law 751 = .ok (.iconst 0, 1) := by decide +kernel
theorem dL_law_752 : decode cL_law 752 = .ok (.ireturn, 1) := by decide +kernel
theorem dL_law_753 : decode cL_law 753 = .ok (.aload_n 1, 1) := by decide +kernel
theorem dL_law_754 : decode cL_law 754 = .ok (.aload_n 0, 1) := by decide +kernel
theorem dL_law_755 : decode cL_law 755 = .ok (.iload_n 3, 1) := by decide +kernel
theorem dL_law_756 : decode cL_law 756 = .ok (.iconst 1, 1) := by decide +kernel
theorem dL_law_757 : decode cL_law 757 = .ok (.iadd, 1) := by decide +kernel
theorem dL_law_758 : decode cL_law 758 = .ok (.iaload, 1) := by decide +kernel
theorem dL_law_759 : decode cL_law 759 = .ok (.aload_n 0, 1) := by decide +kernel
theorem dL_law_760 : decode cL_law 760 = .ok (.iload_n 3, 1) := by decide +kernel
theorem dL_law_761 : decode cL_law 761 = .ok (.iconst 2, 1) := by decide +kernel
theorem dL_law_762 : decode cL_law 762 = .ok (.iadd, 1) := by decide +kernel
theorem dL_law_763 : decode cL_law 763 = .ok (.iaload, 1) := by decide +kernel
theorem dL_law_764 : decode cL_law 764 = .ok (.aload_n 0, 1) := by decide +kernel
theorem dL_law_765 : decode cL_law 765 = .ok (.iload_n 3, 1) := by decide +kernel
theorem dL_law_766 : decode cL_law 766 = .ok (.iconst 3, 1) := by decide +kernel
theorem dL_law_767 : decode cL_law 767 = .ok (.iadd, 1) := by decide +kernel
theorem dL_law_768 : decode cL_law 768 = .ok (.iaload, 1) := by decide +kernel
theorem dL_law_769 : decode cL_law 769 = .ok (.aload_n 0, 1) := by decide +kernel
theorem dL_law_770 : decode cL_law 770 = .ok (.iload_n 3, 1) := by decide +kernel
theorem dL_law_771 : decode cL_law 771 = .ok (.iconst 4, 1) := by decide +kernel
theorem dL_law_772 : decode cL_law 772 = .ok (.iadd, 1) := by decide +kernel
theorem dL_law_773 : decode cL_law 773 = .ok (.iaload, 1) := by decide +kernel
theorem dL_law_774 : decode cL_law 774 = .ok (.invokevirtual 86, 3) := by decide +kernel
theorem dL_law_777 : decode cL_law 777 = .ok (.aload_n 2, 1) := by decide +kernel
theorem dL_law_778 : decode cL_law 778 = .ok (.aload_n 0, 1) := by decide +kernel
theorem dL_law_779 : decode cL_law 779 = .ok (.iload_n 3, 1) := by decide +kernel
theorem dL_law_780 : decode cL_law 780 = .ok (.iconst 1, 1) := by decide +kernel
theorem dL_law_781 : decode cL_law 781 = .ok (.iadd, 1) := by decide +kernel
theorem dL_law_782 : decode cL_law 782 = .ok (.iaload, 1) := by decide +kernel
theorem dL_law_783 : decode cL_law 783 = .ok (.aload_n 0, 1) := by decide +kernel
theorem dL_law_784 : decode cL_law 784 = .ok (.iload_n 3, 1) := by decide +kernel
theorem dL_law_785 : decode cL_law 785 = .ok (.iconst 2, 1) := by decide +kernel
theorem dL_law_786 : decode cL_law 786 = .ok (.iadd, 1) := by decide +kernel
theorem dL_law_787 : decode cL_law 787 = .ok (.iaload, 1) := by decide +kernel
theorem dL_law_788 : decode cL_law 788 = .ok (.aload_n 0, 1) := by decide +kernel
theorem dL_law_789 : decode cL_law 789 = .ok (.iload_n 3, 1) := by decide +kernel
theorem dL_law_790 : decode cL_law 790 = .ok (.iconst 3, 1) := by decide +kernel
theorem dL_law_791 : decode cL_law 791 = .ok (.iadd, 1) := by decide +kernel
theorem dL_law_792 : decode cL_law 792 = .ok (.iaload, 1) := by decide +kernel
theorem dL_law_793 : decode cL_law 793 = .ok (.aload_n 0, 1) := by decide +kernel
theorem dL_law_794 : decode cL_law 794 = .ok (.iload_n 3, 1) := by decide +kernel
theorem dL_law_795 : decode cL_law 795 = .ok (.iconst 4, 1) := by decide +kernel
theorem dL_law_796 : decode cL_law 796 = .ok (.iadd, 1) := by decide +kernel
theorem dL_law_797 : decode cL_law 797 = .ok (.iaload, 1) := by decide +kernel
theorem dL_law_798 : decode cL_law 798 = .ok (.invokevirtual 90, 3) := by decide +kernel
theorem dL_law_801 : decode cL_law 801 = .ok (.if_icmp .eq 409, 3) := by decide +kernel
theorem dL_law_804 : decode cL_law 804 = .ok (.iconst 0, 1) := by decide +kernel
theorem dL_law_805 : decode cL_law 805 = .ok (.ireturn, 1) := by decide +kernel
theorem dL_law_806 : decode cL_law 806 = .ok (.aload_n 1, 1) := by decide +kernel
theorem dL_law_807 : decode cL_law 807 = .ok (.aload_n 0, 1) := by decide +kernel
theorem dL_law_808 : decode cL_law 808 = .ok (.iload_n 3, 1) := by decide +kernel
theorem dL_law_809 : decode cL_law 809 = .ok (.iconst 1, 1) := by decide +kernel
theorem dL_law_810 : decode cL_law 810 = .ok (.iadd, 1) := by decide +kernel
theorem dL_law_811 : decode cL_law 811 = .ok (.iaload, 1) := by decide +kernel
theorem dL_law_812 : decode cL_law 812 = .ok (.aload_n 0, 1) := by decide +kernel
theorem dL_law_813 : decode cL_law 813 = .ok (.iload_n 3, 1) := by decide +kernel
theorem dL_law_814 : decode cL_law 814 = .ok (.iconst 2, 1) := by decide +kernel
theorem dL_law_815 : decode cL_law 815 = .ok (.iadd, 1) := by decide +kernel
theorem dL_law_816 : decode cL_law 816 = .ok (.iaload, 1) := by decide +kernel
theorem dL_law_817 : decode cL_law 817 = .ok (.aload_n 0, 1) := by decide +kernel
theorem dL_law_818 : decode cL_law 818 = .ok (.iload_n 3, 1) := by decide +kernel
theorem dL_law_819 : decode cL_law 819 = .ok (.iconst 3, 1) := by decide +kernel
theorem dL_law_820 : decode cL_law 820 = .ok (.iadd, 1) := by decide +kernel
theorem dL_law_821 : decode cL_law 821 = .ok (.iaload, 1) := by decide +kernel
theorem dL_law_822 : decode cL_law 822 = .ok (.invokevirtual 91, 3) := by decide +kernel
theorem dL_law_825 : decode cL_law 825 = .ok (.aload_n 2, 1) := by decide +kernel
theorem dL_law_826 : decode cL_law 826 = .ok (.aload_n 0, 1) := by decide +kernel
theorem dL_law_827 : decode cL_law 827 = .ok (.iload_n 3, 1) := by decide +kernel
theorem dL_law_828 : decode cL_law 828 = .ok (.iconst 1, 1) := by decide +kernel
theorem dL_law_829 : decode cL_law 829 = .ok (.iadd, 1) := by decide +kernel
theorem dL_law_830 : decode cL_law 830 = .ok (.iaload, 1) := by decide +kernel
theorem dL_law_831 : decode cL_law 831 = .ok (.aload_n 0, 1) := by decide +kernel
theorem dL_law_832 : decode cL_law 832 = .ok (.iload_n 3, 1) := by decide +kernel
theorem dL_law_833 : decode cL_law 833 = .ok (.iconst 2, 1) := by decide +kernel
theorem dL_law_834 : decode cL_law 834 = .ok (.iadd, 1) := by decide +kernel
theorem dL_law_835 : decode cL_law 835 = .ok (.iaload, 1) := by decide +kernel
theorem dL_law_836 : decode cL_law 836 = .ok (.aload_n 0, 1) := by decide +kernel
theorem dL_law_837 : decode cL_law 837 = .ok (.iload_n 3, 1) := by decide +kernel
theorem dL_law_838 : decode cL_law 838 = .ok (.iconst 3, 1) := by decide +kernel
theorem dL_law_839 : decode cL_law 839 = .ok (.iadd, 1) := by decide +kernel
theorem dL_law_840 : decode cL_law 840 = .ok (.iaload, 1) := by decide +kernel
theorem dL_law_841 : decode cL_law 841 = .ok (.invokevirtual 94, 3) := by decide +kernel
theorem dL_law_844 : decode cL_law 844 = .ok (.if_icmp .eq 366, 3) := by decide +kernel
theorem dL_law_847 : decode cL_law 847 = .ok (.iconst 0, 1) := by decide +kernel
theorem dL_law_848 : decode cL_law 848 = .ok (.ireturn, 1) := by decide +kernel
theorem dL_law_849 : decode cL_law 849 = .ok (.aload_n 1, 1) := by decide +kernel
theorem dL_law_850 : decode cL_law 850 = .ok (.aload_n 0, 1) := by decide +kernel
theorem dL_law_851 : decode cL_law 851 = .ok (.iload_n 3, 1) := by decide +kernel
theorem dL_law_852 : decode cL_law 852 = .ok (.iconst 1, 1) := by decide +kernel
theorem dL_law_853 : decode cL_law 853 = .ok (.iadd, 1) := by decide +kernel
theorem dL_law_854 : decode cL_law 854 = .ok (.iaload, 1) := by decide +kernel
theorem dL_law_855 : decode cL_law 855 = .ok (.aload_n 0, 1) := by decide +kernel
theorem dL_law_856 : decode cL_law 856 = .ok (.iload_n 3, 1) := by decide +kernel
theorem dL_law_857 : decode cL_law 857 = .ok (.iconst 2, 1) := by decide +kernel
theorem dL_law_858 : decode cL_law 858 = .ok (.iadd, 1) := by decide +kernel
theorem dL_law_859 : decode cL_law 859 = .ok (.iaload, 1) := by decide +kernel
theorem dL_law_860 : decode cL_law 860 = .ok (.invokevirtual 95, 3) := by decide +kernel
theorem dL_law_863 : decode cL_law 863 = .ok (.aload_n 2, 1) := by decide +kernel
theorem dL_law_864 : decode cL_law 864 = .ok (.aload_n 0, 1) := by decide +kernel
theorem dL_law_865 : decode cL_law 865 = .ok (.iload_n 3, 1) := by decide +kernel
theorem dL_law_866 : decode cL_law 866 = .ok (.iconst 1, 1) := by decide +kernel
theorem dL_law_867 : decode cL_law 867 = .ok (.iadd, 1) := by decide +kernel
theorem dL_law_868 : decode cL_law 868 = .ok (.iaload, 1) := by decide +kernel
theorem dL_law_869 : decode cL_law 869 = .ok (.aload_n 0, 1) := by decide +kernel
theorem dL_law_870 : decode cL_law 870 = .ok (.iload_n 3, 1) := by decide +kernel
theorem dL_law_871 : decode cL_law 871 = .ok (.iconst 2, 1) := by decide +kernel
theorem dL_law_872 : decode cL_law 872 = .ok (.iadd, 1) := by decide +kernel
theorem dL_law_873 : decode cL_law 873 = .ok (.iaload, 1) := by decide +kernel
theorem dL_law_874 : decode cL_law 874 = .ok (.invokevirtual 98, 3) := by decide +kernel
theorem dL_law_877 : decode cL_law 877 = .ok (.if_icmp .eq 333, 3) := by decide +kernel
theorem dL_law_880 : decode cL_law 880 = .ok (.iconst 0, 1) := by decide +kernel
theorem dL_law_881 : decode cL_law 881 = .ok (.ireturn, 1) := by decide +kernel
theorem dL_law_882 : decode cL_law 882 = .ok (.aload_n 1, 1) := by decide +kernel
theorem dL_law_883 : decode cL_law 883 = .ok (.aload_n 0, 1) := by decide +kernel
theorem dL_law_884 : decode cL_law 884 = .ok (.iload_n 3, 1) := by decide +kernel
theorem dL_law_885 : decode cL_law 885 = .ok (.iconst 1, 1) := by decide +kernel
theorem dL_law_886 : decode cL_law 886 = .ok (.iadd, 1) := by decide +kernel
theorem dL_law_887 : decode cL_law 887 = .ok (.iaload, 1) := by decide +kernel
theorem dL_law_888 : decode cL_law 888 = .ok (.invokevirtual 99, 3) := by decide +kernel
theorem dL_law_891 : decode cL_law 891 = .ok (.aload_n 2, 1) := by decide +kernel
theorem dL_law_892 : decode cL_law 892 = .ok (.aload_n 0, 1) := by decide +kernel
theorem dL_law_893 : decode cL_law 893 = .ok (.iload_n 3, 1) := by decide +kernel
theorem dL_law_894 : decode cL_law 894 = .ok (.iconst 1, 1) := by decide +kernel
theorem dL_law_895 : decode cL_law 895 = .ok (.iadd, 1) := by decide +kernel
theorem dL_law_896 : decode cL_law 896 = .ok (.iaload, 1) := by decide +kernel
theorem dL_law_897 : decode cL_law 897 = .ok (.invokevirtual 102, 3) := by decide +kernel
theorem dL_law_900 : decode cL_law 900 = .ok (.if_icmp .eq 310, 3) := by decide +kernel
theorem dL_law_903 : decode cL_law 903 = .ok (.iconst 0, 1) := by decide +kernel
theorem dL_law_904 : decode cL_law 904 = .ok (.ireturn, 1) := by decide +kernel
theorem dL_law_905 : decode cL_law 905 = .ok (.aload_n 1, 1) := by decide +kernel
theorem dL_law_906 : decode cL_law 906 = .ok (.aload_n 0, 1) := by decide +kernel
theorem dL_law_907 : decode cL_law 907 = .ok (.iload_n 3, 1) := by decide +kernel
theorem dL_law_908 : decode cL_law 908 = .ok (.iconst 1, 1) := by decide +kernel
theorem dL_law_909 : decode cL_law 909 = .ok (.iadd, 1) := by decide +kernel
theorem dL_law_910 : decode cL_law 910 = .ok (.iaload, 1) := by decide +kernel
theorem dL_law_911 : decode cL_law 911 = .ok (.invokevirtual 103, 3) := by decide +kernel
theorem dL_law_914 : decode cL_law 914 = .ok (.aload_n 2, 1) := by decide +kernel
theorem dL_law_915 : decode cL_law 915 = .ok (.aload_n 0, 1) := by decide +kernel
theorem dL_law_916 : decode cL_law 916 = .ok (.iload_n 3, 1) := by decide +kernel
theorem dL_law_917 : decode cL_law 917 = .ok (.iconst 1, 1) := by decide +kernel
theorem dL_law_918 : decode cL_law 918 = .ok (.iadd, 1) := by decide +kernel
theorem dL_law_919 : decode cL_law 919 = .ok (.iaload, 1) := by decide +kernel
theorem dL_law_920 : decode cL_law 920 = .ok (.invokevirtual 106, 3) := by decide +kernel
theorem dL_law_923 : decode cL_law 923 = .ok (.if_icmp .eq 287, 3) := by decide +kernel
theorem dL_law_926 : decode cL_law 926 = .ok (.iconst 0, 1) := by decide +kernel
theorem dL_law_927 : decode cL_law 927 = .ok (.ireturn, 1) := by decide +kernel
theorem dL_law_928 : decode cL_law 928 = .ok (.aload_n 1, 1) := by decide +kernel
theorem dL_law_929 : decode cL_law 929 = .ok (.aload_n 0, 1) := by decide +kernel
theorem dL_law_930 : decode cL_law 930 = .ok (.iload_n 3, 1) := by decide +kernel
theorem dL_law_931 : decode cL_law 931 = .ok (.iconst 1, 1) := by decide +kernel
theorem dL_law_932 : decode cL_law 932 = .ok (.iadd, 1) := by decide +kernel
theorem dL_law_933 : decode cL_law 933 = .ok (.iaload, 1) := by decide +kernel
theorem dL_law_934 : decode cL_law 934 = .ok (.aload_n 0, 1) := by decide +kernel
theorem dL_law_935 : decode cL_law 935 = .ok (.iload_n 3, 1) := by decide +kernel
theorem dL_law_936 : decode cL_law 936 = .ok (.iconst 2, 1) := by decide +kernel
theorem dL_law_937 : decode cL_law 937 = .ok (.iadd, 1) := by decide +kernel
theorem dL_law_938 : decode cL_law 938 = .ok (.iaload, 1) := by decide +kernel
theorem dL_law_939 : decode cL_law 939 = .ok (.invokevirtual 107, 3) := by decide +kernel
theorem dL_law_942 : decode cL_law 942 = .ok (.aload_n 2, 1) := by decide +kernel
theorem dL_law_943 : decode cL_law 943 = .ok (.aload_n 0, 1) := by decide +kernel
theorem dL_law_944 : decode cL_law 944 = .ok (.iload_n 3, 1) := by decide +kernel
theorem dL_law_945 : decode cL_law 945 = .ok (.iconst 1, 1) := by decide +kernel
theorem dL_law_946 : decode cL_law 946 = .ok (.iadd, 1) := by decide +kernel
theorem dL_law_947 : decode cL_law 947 = .ok (.iaload, 1) := by decide +kernel
theorem dL_law_948 : decode cL_law 948 = .ok (.aload_n 0, 1) := by decide +kernel
theorem dL_law_949 : decode cL_law 949 = .ok (.iload_n 3, 1) := by decide +kernel
theorem dL_law_950 : decode cL_law 950 = .ok (.iconst 2, 1) := by decide +kernel
theorem dL_law_951 : decode cL_law 951 = .ok (.iadd, 1) := by decide +kernel
theorem dL_law_952 : decode cL_law 952 = .ok (.iaload, 1) := by decide +kernel
theorem dL_law_953 : decode cL_law 953 = .ok (.invokevirtual 110, 3) := by decide +kernel
theorem dL_law_956 : decode cL_law 956 = .ok (.if_icmp .eq 254, 3) := by decide +kernel
theorem dL_law_959 : decode cL_law 959 = .ok (.iconst 0, 1) := by decide +kernel
theorem dL_law_960 : decode cL_law 960 = .ok (.ireturn, 1) := by decide +kernel
theorem dL_law_961 : decode cL_law 961 = .ok (.aload_n 1, 1) := by decide +kernel
theorem dL_law_962 : decode cL_law 962 = .ok (.aload_n 0, 1) := by decide +kernel
theorem dL_law_963 : decode cL_law 963 = .ok (.iload_n 3, 1) := by decide +kernel
theorem dL_law_964 : decode cL_law 964 = .ok (.iconst 1, 1) := by decide +kernel
theorem dL_law_965 : decode cL_law 965 = .ok (.iadd, 1) := by decide +kernel
theorem dL_law_966 : decode cL_law 966 = .ok (.iaload, 1) := by decide +kernel
theorem dL_law_967 : decode cL_law 967 = .ok (.invokevirtual 111, 3) := by decide +kernel
theorem dL_law_970 : decode cL_law 970 = .ok (.aload_n 2, 1) := by decide +kernel
theorem dL_law_971 : decode cL_law 971 = .ok (.aload_n 0, 1) := by decide +kernel
theorem dL_law_972 : decode cL_law 972 = .ok (.iload_n 3, 1) := by decide +kernel
theorem dL_law_973 : decode cL_law 973 = .ok (.iconst 1, 1) := by decide +kernel
theorem dL_law_974 : decode cL_law 974 = .ok (.iadd, 1) := by decide +kernel
theorem dL_law_975 : decode cL_law 975 = .ok (.iaload, 1) := by decide +kernel
theorem dL_law_976 : decode cL_law 976 = .ok (.invokevirtual 114, 3) := by decide +kernel
theorem dL_law_979 : decode cL_law 979 = .ok (.if_icmp .eq 231, 3) := by decide +kernel
theorem dL_law_982 : decode cL_law 982 = .ok (.iconst 0, 1) := by decide +kernel
theorem dL_law_983 : decode cL_law 983 = .ok (.ireturn, 1) := by decide +kernel
theorem dL_law_984 : decode cL_law 984 = .ok (.aload_n 1, 1) := by decide +kernel
theorem dL_law_985 : decode cL_law 985 = .ok (.aload_n 0, 1) := by decide +kernel
theorem dL_law_986 : decode cL_law 986 = .ok (.iload_n 3, 1) := by decide +kernel
theorem dL_law_987 : decode cL_law 987 = .ok (.iconst 1, 1) := by decide +kernel
theorem dL_law_988 : decode cL_law 988 = .ok (.iadd, 1) := by decide +kernel
theorem dL_law_989 : decode cL_law 989 = .ok (.iaload, 1) := by decide +kernel
theorem dL_law_990 : decode cL_law 990 = .ok (.aload_n 0, 1) := by decide +kernel
theorem dL_law_991 : decode cL_law 991 = .ok (.iload_n 3, 1) := by decide +kernel
theorem dL_law_992 : decode cL_law 992 = .ok (.iconst 2, 1) := by decide +kernel
theorem dL_law_993 : decode cL_law 993 = .ok (.iadd, 1) := by decide +kernel
theorem dL_law_994 : decode cL_law 994 = .ok (.iaload, 1) := by decide +kernel
theorem dL_law_995 : decode cL_law 995 = .ok (.aload_n 0, 1) := by decide +kernel
theorem dL_law_996 : decode cL_law 996 = .ok (.iload_n 3, 1) := by decide +kernel
theorem dL_law_997 : decode cL_law 997 = .ok (.iconst 3, 1) := by decide +kernel
theorem dL_law_998 : decode cL_law 998 = .ok (.iadd, 1) := by decide +kernel
theorem dL_law_999 : decode cL_law 999 = .ok (.iaload, 1) := by decide +kernel
theorem dL_law_1000 : decode cL_law 1000 = .ok (.invokevirtual 115, 3) := by decide +kernel
theorem dL_law_1003 : decode cL_law 1003 = .ok (.aload_n 2, 1) := by decide +kernel
theorem dL_law_1004 : decode cL_law 1004 = .ok (.aload_n 0, 1) := by decide +kernel
theorem dL_law_1005 : decode cL_law 1005 = .ok (.iload_n 3, 1) := by decide +kernel
theorem dL_law_1006 : decode cL_law 1006 = .ok (.iconst 1, 1) := by decide +kernel
theorem dL_law_1007 : decode cL_law 1007 = .ok (.iadd, 1) := by decide +kernel
theorem dL_law_1008 : decode cL_law 1008 = .ok (.iaload, 1) := by decide +kernel
theorem dL_law_1009 : decode cL_law 1009 = .ok (.aload_n 0, 1) := by decide +kernel
theorem dL_law_1010 : decode cL_law 1010 = .ok (.iload_n 3, 1) := by decide +kernel
theorem dL_law_1011 : decode cL_law 1011 = .ok (.iconst 2, 1) := by decide +kernel
theorem dL_law_1012 : decode cL_law 1012 = .ok (.iadd, 1) := by decide +kernel
theorem dL_law_1013 : decode cL_law 1013 = .ok (.iaload, 1) := by decide +kernel
theorem dL_law_1014 : decode cL_law 1014 = .ok (.aload_n 0, 1) := by decide +kernel
theorem dL_law_1015 : decode cL_law 1015 = .ok (.iload_n 3, 1) := by decide +kernel
theorem dL_law_1016 : decode cL_law 1016 = .ok (.iconst 3, 1) := by decide +kernel
theorem dL_law_1017 : decode cL_law 1017 = .ok (.iadd, 1) := by decide +kernel
theorem dL_law_1018 : decode cL_law 1018 = .ok (.iaload, 1) := by decide +kernel
theorem dL_law_1019 : decode cL_law 1019 = .ok (.invokevirtual 119, 3) := by decide +kernel
theorem dL_law_1022 : decode cL_law 1022 = .ok (.lcmp, 1) := by decide +kernel
theorem dL_law_1023 : decode cL_law 1023 = .ok (.ifCond .eq 187, 3) := by decide +kernel
theorem dL_law_1026 : decode cL_law 1026 = .ok (.iconst 0, 1) := by decide +kernel
theorem dL_law_1027 : decode cL_law 1027 = .ok (.ireturn, 1) := by decide +kernel
theorem dL_law_1028 : decode cL_law 1028 = .ok (.aload_n 1, 1) := by decide +kernel
theorem dL_law_1029 : decode cL_law 1029 = .ok (.aload_n 0, 1) := by decide +kernel
theorem dL_law_1030 : decode cL_law 1030 = .ok (.iload_n 3, 1) := by decide +kernel
theorem dL_law_1031 : decode cL_law 1031 = .ok (.iconst 1, 1) := by decide +kernel
theorem dL_law_1032 : decode cL_law 1032 = .ok (.iadd, 1) := by decide +kernel
theorem dL_law_1033 : decode cL_law 1033 = .ok (.iaload, 1) := by decide +kernel
theorem dL_law_1034 : decode cL_law 1034 = .ok (.aload_n 0, 1) := by decide +kernel
theorem dL_law_1035 : decode cL_law 1035 = .ok (.iload_n 3, 1) := by decide +kernel
theorem dL_law_1036 : decode cL_law 1036 = .ok (.iconst 2, 1) := by decide +kernel
theorem dL_law_1037 : decode cL_law 1037 = .ok (.iadd, 1) := by decide +kernel
theorem dL_law_1038 : decode cL_law 1038 = .ok (.iaload, 1) := by decide +kernel
theorem dL_law_1039 : decode cL_law 1039 = .ok (.invokevirtual 120, 3) := by decide +kernel
theorem dL_law_1042 : decode cL_law 1042 = .ok (.aload_n 2, 1) := by decide +kernel
theorem dL_law_1043 : decode cL_law 1043 = .ok (.aload_n 0, 1) := by decide +kernel
theorem dL_law_1044 : decode cL_law 1044 = .ok (.iload_n 3, 1) := by decide +kernel
theorem dL_law_1045 : decode cL_law 1045 = .ok (.iconst 1, 1) := by decide +kernel
theorem dL_law_1046 : decode cL_law 1046 = .ok (.iadd, 1) := by decide +kernel
theorem dL_law_1047 : decode cL_law 1047 = .ok (.iaload, 1) := by decide +kernel
theorem dL_law_1048 : decode cL_law 1048 = .ok (.aload_n 0, 1) := by decide +kernel
theorem dL_law_1049 : decode cL_law 1049 = .ok (.iload_n 3, 1) := by decide +kernel
theorem dL_law_1050 : decode cL_law 1050 = .ok (.iconst 2, 1) := by decide +kernel
theorem dL_law_1051 : decode cL_law 1051 = .ok (.iadd, 1) := by decide +kernel
theorem dL_law_1052 : decode cL_law 1052 = .ok (.iaload, 1) := by decide +kernel
theorem dL_law_1053 : decode cL_law 1053 = .ok (.invokevirtual 124, 3) := by decide +kernel
theorem dL_law_1056 : decode cL_law 1056 = .ok (.lcmp, 1) := by decide +kernel
theorem dL_law_1057 : decode cL_law 1057 = .ok (.ifCond .eq 153, 3) := by decide +kernel
theorem dL_law_1060 : decode cL_law 1060 = .ok (.iconst 0, 1) := by decide +kernel
theorem dL_law_1061 : decode cL_law 1061 = .ok (.ireturn, 1) := by decide +kernel
theorem dL_law_1062 : decode cL_law 1062 = .ok (.aload_n 1, 1) := by decide +kernel
theorem dL_law_1063 : decode cL_law 1063 = .ok (.aload_n 0, 1) := by decide +kernel
theorem dL_law_1064 : decode cL_law 1064 = .ok (.iload_n 3, 1) := by decide +kernel
theorem dL_law_1065 : decode cL_law 1065 = .ok (.iconst 1, 1) := by decide +kernel
theorem dL_law_1066 : decode cL_law 1066 = .ok (.iadd, 1) := by decide +kernel
theorem dL_law_1067 : decode cL_law 1067 = .ok (.iaload, 1) := by decide +kernel
theorem dL_law_1068 : decode cL_law 1068 = .ok (.aload_n 0, 1) := by decide +kernel
theorem dL_law_1069 : decode cL_law 1069 = .ok (.iload_n 3, 1) := by decide +kernel
theorem dL_law_1070 : decode cL_law 1070 = .ok (.iconst 2, 1) := by decide +kernel
theorem dL_law_1071 : decode cL_law 1071 = .ok (.iadd, 1) := by decide +kernel
theorem dL_law_1072 : decode cL_law 1072 = .ok (.iaload, 1) := by decide +kernel
theorem dL_law_1073 : decode cL_law 1073 = .ok (.aload_n 0, 1) := by decide +kernel
theorem dL_law_1074 : decode cL_law 1074 = .ok (.iload_n 3, 1) := by decide +kernel
theorem dL_law_1075 : decode cL_law 1075 = .ok (.iconst 3, 1) := by decide +kernel
theorem dL_law_1076 : decode cL_law 1076 = .ok (.iadd, 1) := by decide +kernel
theorem dL_law_1077 : decode cL_law 1077 = .ok (.iaload, 1) := by decide +kernel
theorem dL_law_1078 : decode cL_law 1078 = .ok (.invokevirtual 125, 3) := by decide +kernel
theorem dL_law_1081 : decode cL_law 1081 = .ok (.aload_n 2, 1) := by decide +kernel
theorem dL_law_1082 : decode cL_law 1082 = .ok (.aload_n 0, 1) := by decide +kernel
theorem dL_law_1083 : decode cL_law 1083 = .ok (.iload_n 3, 1) := by decide +kernel
theorem dL_law_1084 : decode cL_law 1084 = .ok (.iconst 1, 1) := by decide +kernel
theorem dL_law_1085 : decode cL_law 1085 = .ok (.iadd, 1) := by decide +kernel
theorem dL_law_1086 : decode cL_law 1086 = .ok (.iaload, 1) := by decide +kernel
theorem dL_law_1087 : decode cL_law 1087 = .ok (.aload_n 0, 1) := by decide +kernel
theorem dL_law_1088 : decode cL_law 1088 = .ok (.iload_n 3, 1) := by decide +kernel
theorem dL_law_1089 : decode cL_law 1089 = .ok (.iconst 2, 1) := by decide +kernel
theorem dL_law_1090 : decode cL_law 1090 = .ok (.iadd, 1) := by decide +kernel
theorem dL_law_1091 : decode cL_law 1091 = .ok (.iaload, 1) := by decide +kernel
theorem dL_law_1092 : decode cL_law 1092 = .ok (.aload_n 0, 1) := by decide +kernel
theorem dL_law_1093 : decode cL_law 1093 = .ok (.iload_n 3, 1) := by decide +kernel
theorem dL_law_1094 : decode cL_law 1094 = .ok (.iconst 3, 1) := by decide +kernel
theorem dL_law_1095 : decode cL_law 1095 = .ok (.iadd, 1) := by decide +kernel
theorem dL_law_1096 : decode cL_law 1096 = .ok (.iaload, 1) := by decide +kernel
theorem dL_law_1097 : decode cL_law 1097 = .ok (.invokevirtual 128, 3) := by decide +kernel
theorem dL_law_1100 : decode cL_law 1100 = .ok (.if_icmp .eq 110, 3) := by decide +kernel
theorem dL_law_1103 : decode cL_law 1103 = .ok (.iconst 0, 1) := by decide +kernel
theorem dL_law_1104 : decode cL_law 1104 = .ok (.ireturn, 1) := by decide +kernel
theorem dL_law_1105 : decode cL_law 1105 = .ok (.aload_n 1, 1) := by decide +kernel
theorem dL_law_1106 : decode cL_law 1106 = .ok (.aload_n 0, 1) := by decide +kernel
theorem dL_law_1107 : decode cL_law 1107 = .ok (.iload_n 3, 1) := by decide +kernel
theorem dL_law_1108 : decode cL_law 1108 = .ok (.iconst 1, 1) := by decide +kernel
theorem dL_law_1109 : decode cL_law 1109 = .ok (.iadd, 1) := by decide +kernel
theorem dL_law_1110 : decode cL_law 1110 = .ok (.iaload, 1) := by decide +kernel
theorem dL_law_1111 : decode cL_law 1111 = .ok (.invokevirtual 129, 3) := by decide +kernel
theorem dL_law_1114 : decode cL_law 1114 = .ok (.aload_n 2, 1) := by decide +kernel
theorem dL_law_1115 : decode cL_law 1115 = .ok (.aload_n 0, 1) := by decide +kernel
theorem dL_law_1116 : decode cL_law 1116 = .ok (.iload_n 3, 1) := by decide +kernel
theorem dL_law_1117 : decode cL_law 1117 = .ok (.iconst 1, 1) := by decide +kernel
theorem dL_law_1118 : decode cL_law 1118 = .ok (.iadd, 1) := by decide +kernel
theorem dL_law_1119 : decode cL_law 1119 = .ok (.iaload, 1) := by decide +kernel
theorem dL_law_1120 : decode cL_law 1120 = .ok (.invokevirtual 132, 3) := by decide +kernel
theorem dL_law_1123 : decode cL_law 1123 = .ok (.if_icmp .eq 87, 3) := by decide +kernel
theorem dL_law_1126 : decode cL_law 1126 = .ok (.iconst 0, 1) := by decide +kernel
theorem dL_law_1127 : decode cL_law 1127 = .ok (.ireturn, 1) := by decide +kernel
theorem dL_law_1128 : decode cL_law 1128 = .ok (.aload_n 1, 1) := by decide +kernel
theorem dL_law_1129 : decode cL_law 1129 = .ok (.aload_n 0, 1) := by decide +kernel
theorem dL_law_1130 : decode cL_law 1130 = .ok (.iload_n 3, 1) := by decide +kernel
theorem dL_law_1131 : decode cL_law 1131 = .ok (.iconst 1, 1) := by decide +kernel
theorem dL_law_1132 : decode cL_law 1132 = .ok (.iadd, 1) := by decide +kernel
theorem dL_law_1133 : decode cL_law 1133 = .ok (.iaload, 1) := by decide +kernel
theorem dL_law_1134 : decode cL_law 1134 = .ok (.aload_n 0, 1) := by decide +kernel
theorem dL_law_1135 : decode cL_law 1135 = .ok (.iload_n 3, 1) := by decide +kernel
theorem dL_law_1136 : decode cL_law 1136 = .ok (.iconst 2, 1) := by decide +kernel
theorem dL_law_1137 : decode cL_law 1137 = .ok (.iadd, 1) := by decide +kernel
theorem dL_law_1138 : decode cL_law 1138 = .ok (.iaload, 1) := by decide +kernel
theorem dL_law_1139 : decode cL_law 1139 = .ok (.invokevirtual 133, 3) := by decide +kernel
theorem dL_law_1142 : decode cL_law 1142 = .ok (.aload_n 2, 1) := by decide +kernel
theorem dL_law_1143 : decode cL_law 1143 = .ok (.aload_n 0, 1) := by decide +kernel
theorem dL_law_1144 : decode cL_law 1144 = .ok (.iload_n 3, 1) := by decide +kernel
theorem dL_law_1145 : decode cL_law 1145 = .ok (.iconst 1, 1) := by decide +kernel
theorem dL_law_1146 : decode cL_law 1146 = .ok (.iadd, 1) := by decide +kernel
theorem dL_law_1147 : decode cL_law 1147 = .ok (.iaload, 1) := by decide +kernel
theorem dL_law_1148 : decode cL_law 1148 = .ok (.aload_n 0, 1) := by decide +kernel
theorem dL_law_1149 : decode cL_law 1149 = .ok (.iload_n 3, 1) := by decide +kernel
theorem dL_law_1150 : decode cL_law 1150 = .ok (.iconst 2, 1) := by decide +kernel
theorem dL_law_1151 : decode cL_law 1151 = .ok (.iadd, 1) := by decide +kernel
theorem dL_law_1152 : decode cL_law 1152 = .ok (.iaload, 1) := by decide +kernel
theorem dL_law_1153 : decode cL_law 1153 = .ok (.invokevirtual 136, 3) := by decide +kernel
theorem dL_law_1156 : decode cL_law 1156 = .ok (.if_icmp .eq 54, 3) := by decide +kernel
theorem dL_law_1159 : decode cL_law 1159 = .ok (.iconst 0, 1) := by decide +kernel
theorem dL_law_1160 : decode cL_law 1160 = .ok (.ireturn, 1) := by decide +kernel
theorem dL_law_1161 : decode cL_law 1161 = .ok (.aload_n 1, 1) := by decide +kernel
theorem dL_law_1162 : decode cL_law 1162 = .ok (.invokevirtual 137, 3) := by decide +kernel
theorem dL_law_1165 : decode cL_law 1165 = .ok (.aload_n 2, 1) := by decide +kernel
theorem dL_law_1166 : decode cL_law 1166 = .ok (.invokevirtual 140, 3) := by decide +kernel
theorem dL_law_1169 : decode cL_law 1169 = .ok (.if_icmp .eq 41, 3) := by decide +kernel
theorem dL_law_1172 : decode cL_law 1172 = .ok (.iconst 0, 1) := by decide +kernel
theorem dL_law_1173 : decode cL_law 1173 = .ok (.ireturn, 1) := by decide +kernel
theorem dL_law_1174 : decode cL_law 1174 = .ok (.aload_n 1, 1) := by decide +kernel
theorem dL_law_1175 : decode cL_law 1175 = .ok (.invokevirtual 141, 3) := by decide +kernel
theorem dL_law_1178 : decode cL_law 1178 = .ok (.aload_n 2, 1) := by decide +kernel
theorem dL_law_1179 : decode cL_law 1179 = .ok (.invokevirtual 144, 3) := by decide +kernel
theorem dL_law_1182 : decode cL_law 1182 = .ok (.if_icmp .eq 28, 3) := by decide +kernel
theorem dL_law_1185 : decode cL_law 1185 = .ok (.iconst 0, 1) := by decide +kernel
theorem dL_law_1186 : decode cL_law 1186 = .ok (.ireturn, 1) := by decide +kernel
theorem dL_law_1187 : decode cL_law 1187 = .ok (.aload_n 1, 1) := by decide +kernel
theorem dL_law_1188 : decode cL_law 1188 = .ok (.aload_n 0, 1) := by decide +kernel
theorem dL_law_1189 : decode cL_law 1189 = .ok (.iload_n 3, 1) := by decide +kernel
theorem dL_law_1190 : decode cL_law 1190 = .ok (.iconst 1, 1) := by decide +kernel
theorem dL_law_1191 : decode cL_law 1191 = .ok (.iadd, 1) := by decide +kernel
theorem dL_law_1192 : decode cL_law 1192 = .ok (.iaload, 1) := by decide +kernel
theorem dL_law_1193 : decode cL_law 1193 = .ok (.invokevirtual 145, 3) := by decide +kernel
theorem dL_law_1196 : decode cL_law 1196 = .ok (.aload_n 2, 1) := by decide +kernel
theorem dL_law_1197 : decode cL_law 1197 = .ok (.aload_n 0, 1) := by decide +kernel
theorem dL_law_1198 : decode cL_law 1198 = .ok (.iload_n 3, 1) := by decide +kernel
theorem dL_law_1199 : decode cL_law 1199 = .ok (.iconst 1, 1) := by decide +kernel
theorem dL_law_1200 : decode cL_law 1200 = .ok (.iadd, 1) := by decide +kernel
theorem dL_law_1201 : decode cL_law 1201 = .ok (.iaload, 1) := by decide +kernel
theorem dL_law_1202 : decode cL_law 1202 = .ok (.invokevirtual 148, 3) := by decide +kernel
theorem dL_law_1205 : decode cL_law 1205 = .ok (.if_icmp .eq 5, 3) := by decide +kernel
theorem dL_law_1208 : decode cL_law 1208 = .ok (.iconst 0, 1) := by decide +kernel
theorem dL_law_1209 : decode cL_law 1209 = .ok (.ireturn, 1) := by decide +kernel
theorem dL_law_1210 : decode cL_law 1210 = .ok (.iinc 3 5, 3) := by decide +kernel
theorem dL_law_1213 : decode cL_law 1213 = .ok (.goto (-1195), 3) := by decide +kernel
theorem dL_law_1216 : decode cL_law 1216 = .ok (.iconst 1, 1) := by decide +kernel
theorem dL_law_1217 : decode cL_law 1217 = .ok (.ireturn, 1) := by decide +kernel
