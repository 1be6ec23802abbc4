theorem dX0_init_0 : decode cX0_init 0 = .ok (.aload_n 0, 1) := by decide +kernel
theorem dX0_init_1 : decode cX0_init 1 = .ok (.invokespecial 1, 3) := by decide +kernel
theorem dX0_init_4 : decode cX0_init 4 = .ok (.return_, 1) := by decide +kernel
theorem dX0_worth_0 : decode cX0_worth 0 = .ok (.aload_n 1, 1) := by decide +kernel
theorem dX0_worth_1 : decode cX0_worth 1 = .ok (.dup, 1) := by decide +kernel
theorem dX0_worth_2 : decode cX0_worth 2 = .ok (.getfield 7, 3) := by decide +kernel
theorem dX0_worth_5 : decode cX0_worth 5 = .ok (.ldc2_w 13, 3) := by decide +kernel
theorem dX0_worth_8 : decode cX0_worth 8 = .ok (.ladd, 1) := by decide +kernel
theorem dX0_worth_9 : decode cX0_worth 9 = .ok (.putfield 7, 3) := by decide +kernel
theorem dX0_worth_12 : decode cX0_worth 12 = .ok (.aload_n 0, 1) := by decide +kernel
theorem dX0_worth_13 : decode cX0_worth 13 = .ok (.aload_n 1, 1) := by decide +kernel
theorem dX0_worth_14 : decode cX0_worth 14 = .ok (.iload_n 2, 1) := by decide +kernel
theorem dX0_worth_15 : decode cX0_worth 15 = .ok (.invokespecial 15, 3) := by decide +kernel
theorem dX0_worth_18 : decode cX0_worth 18 = .ok (.aload_n 1, 1) := by decide +kernel
theorem dX0_worth_19 : decode cX0_worth 19 = .ok (.getfield 19, 3) := by decide +kernel
theorem dX0_worth_22 : decode cX0_worth 22 = .ok (.iload_n 2, 1) := by decide +kernel
theorem dX0_worth_23 : decode cX0_worth 23 = .ok (.invokevirtual 23, 3) := by decide +kernel
theorem dX0_worth_26 : decode cX0_worth 26 = .ok (.iadd, 1) := by decide +kernel
theorem dX0_worth_27 : decode cX0_worth 27 = .ok (.ireturn, 1) := by decide +kernel
theorem dX1_init_0 : decode cX1_init 0 = .ok (.aload_n 0, 1) := by decide +kernel
theorem dX1_init_1 : decode cX1_init 1 = .ok (.invokespecial 1, 3) := by decide +kernel
theorem dX1_init_4 : decode cX1_init 4 = .ok (.return_, 1) := by decide +kernel
theorem dX1_worth_0 : decode cX1_worth 0 = .ok (.aload_n 1, 1) := by decide +kernel
theorem dX1_worth_1 : decode cX1_worth 1 = .ok (.dup, 1) := by decide +kernel
theorem dX1_worth_2 : decode cX1_worth 2 = .ok (.getfield 7, 3) := by decide +kernel
theorem dX1_worth_5 : decode cX1_worth 5 = .ok (.ldc2_w 13, 3) := by decide +kernel
theorem dX1_worth_8 : decode cX1_worth 8 = .ok (.ladd, 1) := by decide +kernel
theorem dX1_worth_9 : decode cX1_worth 9 = .ok (.putfield 7, 3) := by decide +kernel
theorem dX1_worth_12 : decode cX1_worth 12 = .ok (.iconst 2, 1) := by decide +kernel
theorem dX1_worth_13 : decode cX1_worth 13 = .ok (.aload_n 0, 1) := by decide +kernel
theorem dX1_worth_14 : decode cX1_worth 14 = .ok (.aload_n 1, 1) := by decide +kernel
theorem dX1_worth_15 : decode cX1_worth 15 = .ok (.iload_n 2, 1) := by decide +kernel
theorem dX1_worth_16 : decode cX1_worth 16 = .ok (.invokespecial 15, 3) := by decide +kernel
theorem dX1_worth_19 : decode cX1_worth 19 = .ok (.imul, 1) := by decide +kernel
theorem dX1_worth_20 : decode cX1_worth 20 = .ok (.ireturn, 1) := by decide +kernel
theorem dX2_init_0 : decode cX2_init 0 = .ok (.aload_n 0, 1) := by decide +kernel
theorem dX2_init_1 : decode cX2_init 1 = .ok (.invokespecial 1, 3) := by decide +kernel
theorem dX2_init_4 : decode cX2_init 4 = .ok (.aload_n 0, 1) := by decide +kernel
theorem dX2_init_5 : decode cX2_init 5 = .ok (.bipush 10, 2) := by decide +kernel
theorem dX2_init_7 : decode cX2_init 7 = .ok (.bipush 14, 2) := by decide +kernel
theorem dX2_init_9 : decode cX2_init 9 = .ok (.multianewarray 11 2, 4) := by decide +kernel
theorem dX2_init_13 : decode cX2_init 13 = .ok (.putfield 13, 3) := by decide +kernel
theorem dX2_init_16 : decode cX2_init 16 = .ok (.aload_n 0, 1) := by decide +kernel
theorem dX2_init_17 : decode cX2_init 17 = .ok (.bipush 9, 2) := by decide +kernel
theorem dX2_init_19 : decode cX2_init 19 = .ok (.putfield 16, 3) := by decide +kernel
theorem dX2_init_22 : decode cX2_init 22 = .ok (.aload_n 0, 1) := by decide +kernel
theorem dX2_init_23 : decode cX2_init 23 = .ok (.iconst 0, 1) := by decide +kernel
theorem dX2_init_24 : decode cX2_init 24 = .ok (.putfield 20, 3) := by decide +kernel
theorem dX2_init_27 : decode cX2_init 27 = .ok (.return_, 1) := by decide +kernel
theorem dX2_write_0 : decode cX2_write 0 = .ok (.aload_n 0, 1) := by decide +kernel
theorem dX2_write_1 : decode cX2_write 1 = .ok (.aload_n 0, 1) := by decide +kernel
theorem dX2_write_2 : decode cX2_write 2 = .ok (.getfield 16, 3) := by decide +kernel
theorem dX2_write_5 : decode cX2_write 5 = .ok (.iconst 1, 1) := by decide +kernel
theorem dX2_write_6 : decode cX2_write 6 = .ok (.iadd, 1) := by decide +kernel
theorem dX2_write_7 : decode cX2_write 7 = .ok (.bipush 10, 2) := by decide +kernel
theorem dX2_write_9 : decode cX2_write 9 = .ok (.irem, 1) := by decide +kernel
theorem dX2_write_10 : decode cX2_write 10 = .ok (.putfield 16, 3) := by decide +kernel
theorem dX2_write_13 : decode cX2_write 13 = .ok (.aload_n 1, 1) := by decide +kernel
theorem dX2_write_14 : decode cX2_write 14 = .ok (.aload_n 0, 1) := by decide +kernel
theorem dX2_write_15 : decode cX2_write 15 = .ok (.getfield 13, 3) := by decide +kernel
theorem dX2_write_18 : decode cX2_write 18 = .ok (.aload_n 0, 1) := by decide +kernel
theorem dX2_write_19 : decode cX2_write 19 = .ok (.getfield 16, 3) := by decide +kernel
theorem dX2_write_22 : decode cX2_write 22 = .ok (.aaload, 1) := by decide +kernel
theorem dX2_write_23 : decode cX2_write 23 = .ok (.invokevirtual 23, 3) := by decide +kernel
theorem dX2_write_26 : decode cX2_write 26 = .ok (.aload_n 0, 1) := by decide +kernel
theorem dX2_write_27 : decode cX2_write 27 = .ok (.bipush 10, 2) := by decide +kernel
theorem dX2_write_29 : decode cX2_write 29 = .ok (.aload_n 0, 1) := by decide +kernel
theorem dX2_write_30 : decode cX2_write 30 = .ok (.getfield 20, 3) := by decide +kernel
theorem dX2_write_33 : decode cX2_write 33 = .ok (.iconst 1, 1) := by decide +kernel
theorem dX2_write_34 : decode cX2_write 34 = .ok (.iadd, 1) := by decide +kernel
theorem dX2_write_35 : decode cX2_write 35 = .ok (.invokestatic 27, 3) := by decide +kernel
theorem dX2_write_38 : decode cX2_write 38 = .ok (.putfield 20, 3) := by decide +kernel
theorem dX2_write_41 : decode cX2_write 41 = .ok (.return_, 1) := by decide +kernel
theorem dX2_takeBack_0 : decode cX2_takeBack 0 = .ok (.aload_n 1, 1) := by decide +kernel
theorem dX2_takeBack_1 : decode cX2_takeBack 1 = .ok (.aload_n 0, 1) := by decide +kernel
theorem dX2_takeBack_2 : decode cX2_takeBack 2 = .ok (.getfield 13, 3) := by decide +kernel
theorem dX2_takeBack_5 : decode cX2_takeBack 5 = .ok (.aload_n 0, 1) := by decide +kernel
theorem dX2_takeBack_6 : decode cX2_takeBack 6 = .ok (.getfield 16, 3) := by decide +kernel
theorem dX2_takeBack_9 : decode cX2_takeBack 9 = .ok (.aaload, 1) := by decide +kernel
theorem dX2_takeBack_10 : decode cX2_takeBack 10 = .ok (.invokevirtual 33, 3) := by decide +kernel
theorem dX2_takeBack_13 : decode cX2_takeBack 13 = .ok (.aload_n 0, 1) := by decide +kernel
theorem dX2_takeBack_14 : decode cX2_takeBack 14 = .ok (.aload_n 0, 1) := by decide +kernel
theorem dX2_takeBack_15 : decode cX2_takeBack 15 = .ok (.getfield 16, 3) := by decide +kernel
theorem dX2_takeBack_18 : decode cX2_takeBack 18 = .ok (.bipush 10, 2) := by decide +kernel
theorem dX2_takeBack_20 : decode cX2_takeBack 20 = .ok (.iadd, 1) := by decide +kernel
theorem dX2_takeBack_21 : decode cX2_takeBack 21 = .ok (.iconst 1, 1) := by decide +kernel
theorem dX2_takeBack_22 : decode cX2_takeBack 22 = .ok (.isub, 1) := by decide +kernel
theorem dX2_takeBack_23 : decode cX2_takeBack 23 = .ok (.bipush 10, 2) := by decide +kernel
theorem dX2_takeBack_25 : decode cX2_takeBack 25 = .ok (.irem, 1) := by decide +kernel
theorem dX2_takeBack_26 : decode cX2_takeBack 26 = .ok (.putfield 16, 3) := by decide +kernel
theorem dX2_takeBack_29 : decode cX2_takeBack 29 = .ok (.aload_n 0, 1) := by decide +kernel
theorem dX2_takeBack_30 : decode cX2_takeBack 30 = .ok (.dup, 1) := by decide +kernel
theorem dX2_takeBack_31 : decode cX2_takeBack 31 = .ok (.getfield 20, 3) := by decide +kernel
theorem dX2_takeBack_34 : decode cX2_takeBack 34 = .ok (.iconst 1, 1) := by decide +kernel
theorem dX2_takeBack_35 : decode cX2_takeBack 35 = .ok (.isub, 1) := by decide +kernel
theorem dX2_takeBack_36 : decode cX2_takeBack 36 = .ok (.putfield 20, 3) := by decide +kernel
theorem dX2_takeBack_39 : decode cX2_takeBack 39 = .ok (.return_, 1) := by decide +kernel
theorem dX3_init_0 : decode cX3_init 0 = .ok (.aload_n 0, 1) := by decide +kernel
theorem dX3_init_1 : decode cX3_init 1 = .ok (.invokespecial 1, 3) := by decide +kernel
theorem dX3_init_4 : decode cX3_init 4 = .ok (.return_, 1) := by decide +kernel
theorem dX3_worth_0 : decode cX3_worth 0 = .ok (.aload_n 1, 1) := by decide +kernel
theorem dX3_worth_1 : decode cX3_worth 1 = .ok (.dup, 1) := by decide +kernel
theorem dX3_worth_2 : decode cX3_worth 2 = .ok (.getfield 7, 3) := by decide +kernel
theorem dX3_worth_5 : decode cX3_worth 5 = .ok (.ldc2_w 13, 3) := by decide +kernel
theorem dX3_worth_8 : decode cX3_worth 8 = .ok (.ladd, 1) := by decide +kernel
theorem dX3_worth_9 : decode cX3_worth 9 = .ok (.putfield 7, 3) := by decide +kernel
theorem dX3_worth_12 : decode cX3_worth 12 = .ok (.aload_n 0, 1) := by decide +kernel
theorem dX3_worth_13 : decode cX3_worth 13 = .ok (.aload_n 1, 1) := by decide +kernel
theorem dX3_worth_14 : decode cX3_worth 14 = .ok (.iload_n 2, 1) := by decide +kernel
theorem dX3_worth_15 : decode cX3_worth 15 = .ok (.invokespecial 15, 3) := by decide +kernel
theorem dX3_worth_18 : decode cX3_worth 18 = .ok (.aload_n 1, 1) := by decide +kernel
theorem dX3_worth_19 : decode cX3_worth 19 = .ok (.getfield 19, 3) := by decide +kernel
theorem dX3_worth_22 : decode cX3_worth 22 = .ok (.getfield 23, 3) := by decide +kernel
theorem dX3_worth_25 : decode cX3_worth 25 = .ok (.iload_n 2, 1) := by decide +kernel
theorem dX3_worth_26 : decode cX3_worth 26 = .ok (.iaload, 1) := by decide +kernel
theorem dX3_worth_27 : decode cX3_worth 27 = .ok (.isub, 1) := by decide +kernel
theorem dX3_worth_28 : decode cX3_worth 28 = .ok (.ireturn, 1) := by decide +kernel
theorem dX4_init_0 : decode cX4_init 0 = .ok (.aload_n 0, 1) := by decide +kernel
theorem dX4_init_1 : decode cX4_init 1 = .ok (.invokespecial 5, 3) := by decide +kernel
theorem dX4_init_4 : decode cX4_init 4 = .ok (.aload_n 0, 1) := by decide +kernel
theorem dX4_init_5 : decode cX4_init 5 = .ok (.iconst 0, 1) := by decide +kernel
theorem dX4_init_6 : decode cX4_init 6 = .ok (.putfield 11, 3) := by decide +kernel
theorem dX4_init_9 : decode cX4_init 9 = .ok (.aload_n 0, 1) := by decide +kernel
theorem dX4_init_10 : decode cX4_init 10 = .ok (.iconst 0, 1) := by decide +kernel
theorem dX4_init_11 : decode cX4_init 11 = .ok (.putfield 15, 3) := by decide +kernel
theorem dX4_init_14 : decode cX4_init 14 = .ok (.aload_n 0, 1) := by decide +kernel
theorem dX4_init_15 : decode cX4_init 15 = .ok (.iconst 0, 1) := by decide +kernel
theorem dX4_init_16 : decode cX4_init 16 = .ok (.putfield 18, 3) := by decide +kernel
theorem dX4_init_19 : decode cX4_init 19 = .ok (.aload_n 0, 1) := by decide +kernel
theorem dX4_init_20 : decode cX4_init 20 = .ok (.iconst 0, 1) := by decide +kernel
theorem dX4_init_21 : decode cX4_init 21 = .ok (.putfield 21, 3) := by decide +kernel
theorem dX4_init_24 : decode cX4_init 24 = .ok (.aload_n 0, 1) := by decide +kernel
theorem dX4_init_25 : decode cX4_init 25 = .ok (.iconst 5, 1) := by decide +kernel
theorem dX4_init_26 : decode cX4_init 26 = .ok (.newarray .int, 2) := by decide +kernel
theorem dX4_init_28 : decode cX4_init 28 = .ok (.putfield 24, 3) := by decide +kernel
theorem dX4_init_31 : decode cX4_init 31 = .ok (.aload_n 0, 1) := by decide +kernel
theorem dX4_init_32 : decode cX4_init 32 = .ok (.iconst 5, 1) := by decide +kernel
theorem dX4_init_33 : decode cX4_init 33 = .ok (.newarray .int, 2) := by decide +kernel
theorem dX4_init_35 : decode cX4_init 35 = .ok (.putfield 28, 3) := by decide +kernel
theorem dX4_init_38 : decode cX4_init 38 = .ok (.return_, 1) := by decide +kernel
theorem dX4_begin_0 : decode cX4_begin 0 = .ok (.aload_n 0, 1) := by decide +kernel
theorem dX4_begin_1 : decode cX4_begin 1 = .ok (.iconst 0, 1) := by decide +kernel
theorem dX4_begin_2 : decode cX4_begin 2 = .ok (.putfield 11, 3) := by decide +kernel
theorem dX4_begin_5 : decode cX4_begin 5 = .ok (.aload_n 0, 1) := by decide +kernel
theorem dX4_begin_6 : decode cX4_begin 6 = .ok (.iconst 0, 1) := by decide +kernel
theorem dX4_begin_7 : decode cX4_begin 7 = .ok (.putfield 15, 3) := by decide +kernel
theorem dX4_begin_10 : decode cX4_begin 10 = .ok (.aload_n 0, 1) := by decide +kernel
theorem dX4_begin_11 : decode cX4_begin 11 = .ok (.iconst 0, 1) := by decide +kernel
theorem dX4_begin_12 : decode cX4_begin 12 = .ok (.putfield 18, 3) := by decide +kernel
theorem dX4_begin_15 : decode cX4_begin 15 = .ok (.aload_n 0, 1) := by decide +kernel
theorem dX4_begin_16 : decode cX4_begin 16 = .ok (.iconst 0, 1) := by decide +kernel
theorem dX4_begin_17 : decode cX4_begin 17 = .ok (.putfield 21, 3) := by decide +kernel
theorem dX4_begin_20 : decode cX4_begin 20 = .ok (.iconst 0, 1) := by decide +kernel
theorem dX4_begin_21 : decode cX4_begin 21 = .ok (.istore_n 2, 1) := by decide +kernel
theorem dX4_begin_22 : decode cX4_begin 22 = .ok (.iload_n 2, 1) := by decide +kernel
theorem dX4_begin_23 : decode cX4_begin 23 = .ok (.iconst 5, 1) := by decide +kernel
theorem dX4_begin_24 : decode cX4_begin 24 = .ok (.if_icmp .ge 28, 3) := by decide +kernel
theorem dX4_begin_27 : decode cX4_begin 27 = .ok (.aload_n 0, 1) := by decide +kernel
theorem dX4_begin_28 : decode cX4_begin 28 = .ok (.getfield 24, 3) := by decide +kernel
theorem dX4_begin_31 : decode cX4_begin 31 = .ok (.iload_n 2, 1) := by decide +kernel
theorem dX4_begin_32 : decode cX4_begin 32 = .ok (.aload_n 1, 1) := by decide +kernel
theorem dX4_begin_33 : decode cX4_begin 33 = .ok (.getfield 31, 3) := by decide +kernel
theorem dX4_begin_36 : decode cX4_begin 36 = .ok (.iload_n 2, 1) := by decide +kernel
theorem dX4_begin_37 : decode cX4_begin 37 = .ok (.iaload, 1) := by decide +kernel
theorem dX4_begin_38 : decode cX4_begin 38 = .ok (.iastore, 1) := by decide +kernel
theorem dX4_begin_39 : decode cX4_begin 39 = .ok (.aload_n 0, 1) := by decide +kernel
theorem dX4_begin_40 : decode cX4_begin 40 = .ok (.getfield 28, 3) := by decide +kernel
theorem dX4_begin_43 : decode cX4_begin 43 = .ok (.iload_n 2, 1) := by decide +kernel
theorem dX4_begin_44 : decode cX4_begin 44 = .ok (.iconst 0, 1) := by decide +kernel
theorem dX4_begin_45 : decode cX4_begin 45 = .ok (.iastore, 1) := by decide +kernel
theorem dX4_begin_46 : decode cX4_begin 46 = .ok (.iinc 2 1, 3) := by decide +kernel
theorem dX4_begin_49 : decode cX4_begin 49 = .ok (.goto (-27), 3) := by decide +kernel
theorem dX4_begin_52 : decode cX4_begin 52 = .ok (.return_, 1) := by decide +kernel
theorem dX4_isOn_0 : decode cX4_isOn 0 = .ok (.aload_n 0, 1) := by decide +kernel
theorem dX4_isOn_1 : decode cX4_isOn 1 = .ok (.getfield 15, 3) := by decide +kernel
theorem dX4_isOn_4 : decode cX4_isOn 4 = .ok (.iload_n 1, 1) := by decide +kernel
theorem dX4_isOn_5 : decode cX4_isOn 5 = .ok (.ishr, 1) := by decide +kernel
theorem dX4_isOn_6 : decode cX4_isOn 6 = .ok (.iconst 1, 1) := by decide +kernel
theorem dX4_isOn_7 : decode cX4_isOn 7 = .ok (.iand, 1) := by decide +kernel
theorem dX4_isOn_8 : decode cX4_isOn 8 = .ok (.iconst 1, 1) := by decide +kernel
theorem dX4_isOn_9 : decode cX4_isOn 9 = .ok (.if_icmp .ne 7, 3) := by decide +kernel
theorem dX4_isOn_12 : decode cX4_isOn 12 = .ok (.iconst 1, 1) := by decide +kernel
theorem dX4_isOn_13 : decode cX4_isOn 13 = .ok (.goto 4, 3) := by decide +kernel
theorem dX4_isOn_16 : decode cX4_isOn 16 = .ok (.iconst 0, 1) := by decide +kernel
theorem dX4_isOn_17 : decode cX4_isOn 17 = .ok (.ireturn, 1) := by decide +kernel
theorem dX4_goOn_0 : decode cX4_goOn 0 = .ok (.aload_n 1, 1) := by decide +kernel
theorem dX4_goOn_1 : decode cX4_goOn 1 = .ok (.aload_n 0, 1) := by decide +kernel
theorem dX4_goOn_2 : decode cX4_goOn 2 = .ok (.getfield 11, 3) := by decide +kernel
theorem dX4_goOn_5 : decode cX4_goOn 5 = .ok (.invokevirtual 34, 3) := by decide +kernel
theorem dX4_goOn_8 : decode cX4_goOn 8 = .ok (.ifCond .ne 7, 3) := by decide +kernel
theorem dX4_goOn_11 : decode cX4_goOn 11 = .ok (.iconst 1, 1) := by decide +kernel
theorem dX4_goOn_12 : decode cX4_goOn 12 = .ok (.goto 4, 3) := by decide +kernel
theorem dX4_goOn_15 : decode cX4_goOn 15 = .ok (.iconst 0, 1) := by decide +kernel
theorem dX4_goOn_16 : decode cX4_goOn 16 = .ok (.istore_n 2, 1) := by decide +kernel
theorem dX4_goOn_17 : decode cX4_goOn 17 = .ok (.iconst 0, 1) := by decide +kernel
theorem dX4_goOn_18 : decode cX4_goOn 18 = .ok (.istore_n 3, 1) := by decide +kernel
theorem dX4_goOn_19 : decode cX4_goOn 19 = .ok (.iload_n 3, 1) := by decide +kernel
theorem dX4_goOn_20 : decode cX4_goOn 20 = .ok (.aload_n 1, 1) := by decide +kernel
theorem dX4_goOn_21 : decode cX4_goOn 21 = .ok (.getfield 38, 3) := by decide +kernel
theorem dX4_goOn_24 : decode cX4_goOn 24 = .ok (.if_icmp .ge 81, 3) := by decide +kernel
theorem dX4_goOn_27 : decode cX4_goOn 27 = .ok (.aload_n 0, 1) := by decide +kernel
theorem dX4_goOn_28 : decode cX4_goOn 28 = .ok (.dup, 1) := by decide +kernel
theorem dX4_goOn_29 : decode cX4_goOn 29 = .ok (.getfield 21, 3) := by decide +kernel
theorem dX4_goOn_32 : decode cX4_goOn 32 = .ok (.aload_n 1, 1) := by decide +kernel
theorem dX4_goOn_33 : decode cX4_goOn 33 = .ok (.aload_n 0, 1) := by decide +kernel
theorem dX4_goOn_34 : decode cX4_goOn 34 = .ok (.getfield 11, 3) := by decide +kernel
theorem dX4_goOn_37 : decode cX4_goOn 37 = .ok (.iload_n 3, 1) := by decide +kernel
theorem dX4_goOn_38 : decode cX4_goOn 38 = .ok (.aload_n 0, 1) := by decide +kernel
theorem dX4_goOn_39 : decode cX4_goOn 39 = .ok (.getfield 24, 3) := by decide +kernel
theorem dX4_goOn_42 : decode cX4_goOn 42 = .ok (.iload_n 3, 1) := by decide +kernel
theorem dX4_goOn_43 : decode cX4_goOn 43 = .ok (.iaload, 1) := by decide +kernel
theorem dX4_goOn_44 : decode cX4_goOn 44 = .ok (.invokevirtual 41, 3) := by decide +kernel
theorem dX4_goOn_47 : decode cX4_goOn 47 = .ok (.iadd, 1) := by decide +kernel
theorem dX4_goOn_48 : decode cX4_goOn 48 = .ok (.putfield 21, 3) := by decide +kernel
theorem dX4_goOn_51 : decode cX4_goOn 51 = .ok (.aload_n 0, 1) := by decide +kernel
theorem dX4_goOn_52 : decode cX4_goOn 52 = .ok (.getfield 24, 3) := by decide +kernel
theorem dX4_goOn_55 : decode cX4_goOn 55 = .ok (.iload_n 3, 1) := by decide +kernel
theorem dX4_goOn_56 : decode cX4_goOn 56 = .ok (.aload_n 1, 1) := by decide +kernel
theorem dX4_goOn_57 : decode cX4_goOn 57 = .ok (.aload_n 0, 1) := by decide +kernel
theorem dX4_goOn_58 : decode cX4_goOn 58 = .ok (.getfield 11, 3) := by decide +kernel
theorem dX4_goOn_61 : decode cX4_goOn 61 = .ok (.iload_n 3, 1) := by decide +kernel
theorem dX4_goOn_62 : decode cX4_goOn 62 = .ok (.aload_n 0, 1) := by decide +kernel
theorem dX4_goOn_63 : decode cX4_goOn 63 = .ok (.getfield 24, 3) := by decide +kernel
theorem dX4_goOn_66 : decode cX4_goOn 66 = .ok (.iload_n 3, 1) := by decide +kernel
theorem dX4_goOn_67 : decode cX4_goOn 67 = .ok (.iaload, 1) := by decide +kernel
theorem dX4_goOn_68 : decode cX4_goOn 68 = .ok (.aload_n 0, 1) := by decide +kernel
theorem dX4_goOn_69 : decode cX4_goOn 69 = .ok (.iload_n 3, 1) := by decide +kernel
theorem dX4_goOn_70 : decode cX4_goOn 70 = .ok (.invokevirtual 45, 3) := by decide +kernel
theorem dX4_goOn_73 : decode cX4_goOn 73 = .ok (.invokevirtual 48, 3) := by decide +kernel
theorem dX4_goOn_76 : decode cX4_goOn 76 = .ok (.iastore, 1) := by decide +kernel
theorem dX4_goOn_77 : decode cX4_goOn 77 = .ok (.iload_n 2, 1) := by decide +kernel
theorem dX4_goOn_78 : decode cX4_goOn 78 = .ok (.ifCond .eq 21, 3) := by decide +kernel
theorem dX4_goOn_81 : decode cX4_goOn 81 = .ok (.aload_n 0, 1) := by decide +kernel
theorem dX4_goOn_82 : decode cX4_goOn 82 = .ok (.iload_n 3, 1) := by decide +kernel
theorem dX4_goOn_83 : decode cX4_goOn 83 = .ok (.invokevirtual 45, 3) := by decide +kernel
theorem dX4_goOn_86 : decode cX4_goOn 86 = .ok (.ifCond .eq 13, 3) := by decide +kernel
theorem dX4_goOn_89 : decode cX4_goOn 89 = .ok (.aload_n 0, 1) := by decide +kernel
theorem dX4_goOn_90 : decode cX4_goOn 90 = .ok (.getfield 28, 3) := by decide +kernel
theorem dX4_goOn_93 : decode cX4_goOn 93 = .ok (.iload_n 3, 1) := by decide +kernel
theorem dX4_goOn_94 : decode cX4_goOn 94 = .ok (.dup2, 1) := by decide +kernel
theorem dX4_goOn_95 : decode cX4_goOn 95 = .ok (.iaload, 1) := by decide +kernel
theorem dX4_goOn_96 : decode cX4_goOn 96 = .ok (.iconst 1, 1) := by decide +kernel
theorem dX4_goOn_97 : decode cX4_goOn 97 = .ok (.iadd, 1) := by decide +kernel
theorem dX4_goOn_98 : decode cX4_goOn 98 = .ok (.iastore, 1) := by decide +kernel
theorem dX4_goOn_99 : decode cX4_goOn 99 = .ok (.iinc 3 1, 3) := by decide +kernel
theorem dX4_goOn_102 : decode cX4_goOn 102 = .ok (.goto (-83), 3) := by decide +kernel
theorem dX4_goOn_105 : decode cX4_goOn 105 = .ok (.aload_n 0, 1) := by decide +kernel
theorem dX4_goOn_106 : decode cX4_goOn 106 = .ok (.dup, 1) := by decide +kernel
theorem dX4_goOn_107 : decode cX4_goOn 107 = .ok (.getfield 11, 3) := by decide +kernel
theorem dX4_goOn_110 : decode cX4_goOn 110 = .ok (.iconst 1, 1) := by decide +kernel
theorem dX4_goOn_111 : decode cX4_goOn 111 = .ok (.iadd, 1) := by decide +kernel
theorem dX4_goOn_112 : decode cX4_goOn 112 = .ok (.putfield 11, 3) := by decide +kernel
theorem dX4_goOn_115 : decode cX4_goOn 115 = .ok (.return_, 1) := by decide +kernel
theorem dX4_out_0 : decode cX4_out 0 = .ok (.iconst 0, 1) := by decide +kernel
theorem dX4_out_1 : decode cX4_out 1 = .ok (.istore_n 2, 1) := by decide +kernel
theorem dX4_out_2 : decode cX4_out 2 = .ok (.iconst 0, 1) := by decide +kernel
theorem dX4_out_3 : decode cX4_out 3 = .ok (.istore_n 3, 1) := by decide +kernel
theorem dX4_out_4 : decode cX4_out 4 = .ok (.iload_n 3, 1) := by decide +kernel
theorem dX4_out_5 : decode cX4_out 5 = .ok (.iload_n 1, 1) := by decide +kernel
theorem dX4_out_6 : decode cX4_out 6 = .ok (.if_icmp .ge 24, 3) := by decide +kernel
theorem dX4_out_9 : decode cX4_out 9 = .ok (.aload_n 0, 1) := by decide +kernel
theorem dX4_out_10 : decode cX4_out 10 = .ok (.getfield 24, 3) := by decide +kernel
theorem dX4_out_13 : decode cX4_out 13 = .ok (.iload_n 3, 1) := by decide +kernel
theorem dX4_out_14 : decode cX4_out 14 = .ok (.iaload, 1) := by decide +kernel
theorem dX4_out_15 : decode cX4_out 15 = .ok (.ifCond .ne 9, 3) := by decide +kernel
theorem dX4_out_18 : decode cX4_out 18 = .ok (.iload_n 2, 1) := by decide +kernel
theorem dX4_out_19 : decode cX4_out 19 = .ok (.iconst 1, 1) := by decide +kernel
theorem dX4_out_20 : decode cX4_out 20 = .ok (.iload_n 3, 1) := by decide +kernel
theorem dX4_out_21 : decode cX4_out 21 = .ok (.ishl, 1) := by decide +kernel
theorem dX4_out_22 : decode cX4_out 22 = .ok (.ior, 1) := by decide +kernel
theorem dX4_out_23 : decode cX4_out 23 = .ok (.istore_n 2, 1) := by decide +kernel
theorem dX4_out_24 : decode cX4_out 24 = .ok (.iinc 3 1, 3) := by decide +kernel
theorem dX4_out_27 : decode cX4_out 27 = .ok (.goto (-23), 3) := by decide +kernel
theorem dX4_out_30 : decode cX4_out 30 = .ok (.iload_n 2, 1) := by decide +kernel
theorem dX4_out_31 : decode cX4_out 31 = .ok (.ireturn, 1) := by decide +kernel
theorem dX4_fair_0 : decode cX4_fair 0 = .ok (.iconst 0, 1) := by decide +kernel
theorem dX4_fair_1 : decode cX4_fair 1 = .ok (.istore_n 2, 1) := by decide +kernel
theorem dX4_fair_2 : decode cX4_fair 2 = .ok (.iload_n 1, 1) := by decide +kernel
theorem dX4_fair_3 : decode cX4_fair 3 = .ok (.ifCond .ne 7, 3) := by decide +kernel
theorem dX4_fair_6 : decode cX4_fair 6 = .ok (.iconst 0, 1) := by decide +kernel
theorem dX4_fair_7 : decode cX4_fair 7 = .ok (.goto 9, 3) := by decide +kernel
theorem dX4_fair_10 : decode cX4_fair 10 = .ok (.aload_n 0, 1) := by decide +kernel
theorem dX4_fair_11 : decode cX4_fair 11 = .ok (.getfield 28, 3) := by decide +kernel
theorem dX4_fair_14 : decode cX4_fair 14 = .ok (.iconst 0, 1) := by decide +kernel
theorem dX4_fair_15 : decode cX4_fair 15 = .ok (.iaload, 1) := by decide +kernel
theorem dX4_fair_16 : decode cX4_fair 16 = .ok (.istore_n 3, 1) := by decide +kernel
theorem dX4_fair_17 : decode cX4_fair 17 = .ok (.iconst 0, 1) := by decide +kernel
theorem dX4_fair_18 : decode cX4_fair 18 = .ok (.istore 4, 2) := by decide +kernel
theorem dX4_fair_20 : decode cX4_fair 20 = .ok (.iload 4, 2) := by decide +kernel
theorem dX4_fair_22 : decode cX4_fair 22 = .ok (.iload_n 1, 1) := by decide +kernel
theorem dX4_fair_23 : decode cX4_fair 23 = .ok (.if_icmp .ge 33, 3) := by decide +kernel
theorem dX4_fair_26 : decode cX4_fair 26 = .ok (.iload_n 2, 1) := by decide +kernel
theorem dX4_fair_27 : decode cX4_fair 27 = .ok (.aload_n 0, 1) := by decide +kernel
theorem dX4_fair_28 : decode cX4_fair 28 = .ok (.getfield 28, 3) := by decide +kernel
theorem dX4_fair_31 : decode cX4_fair 31 = .ok (.iload 4, 2) := by decide +kernel
theorem dX4_fair_33 : decode cX4_fair 33 = .ok (.iaload, 1) := by decide +kernel
theorem dX4_fair_34 : decode cX4_fair 34 = .ok (.invokestatic 52, 3) := by decide +kernel
theorem dX4_fair_37 : decode cX4_fair 37 = .ok (.istore_n 2, 1) := by decide +kernel
theorem dX4_fair_38 : decode cX4_fair 38 = .ok (.iload_n 3, 1) := by decide +kernel
theorem dX4_fair_39 : decode cX4_fair 39 = .ok (.aload_n 0, 1) := by decide +kernel
theorem dX4_fair_40 : decode cX4_fair 40 = .ok (.getfield 28, 3) := by decide +kernel
theorem dX4_fair_43 : decode cX4_fair 43 = .ok (.iload 4, 2) := by decide +kernel
theorem dX4_fair_45 : decode cX4_fair 45 = .ok (.iaload, 1) := by decide +kernel
theorem dX4_fair_46 : decode cX4_fair 46 = .ok (.invokestatic 58, 3) := by decide +kernel
theorem dX4_fair_49 : decode cX4_fair 49 = .ok (.istore_n 3, 1) := by decide +kernel
theorem dX4_fair_50 : decode cX4_fair 50 = .ok (.iinc 4 1, 3) := by decide +kernel
theorem dX4_fair_53 : decode cX4_fair 53 = .ok (.goto (-33), 3) := by decide +kernel
theorem dX4_fair_56 : decode cX4_fair 56 = .ok (.iload_n 2, 1) := by decide +kernel
theorem dX4_fair_57 : decode cX4_fair 57 = .ok (.iload_n 3, 1) := by decide +kernel
theorem dX4_fair_58 : decode cX4_fair 58 = .ok (.isub, 1) := by decide +kernel
theorem dX4_fair_59 : decode cX4_fair 59 = .ok (.ireturn, 1) := by decide +kernel
theorem dX4_leans_0 : decode cX4_leans 0 = .ok (.iload_n 1, 1) := by decide +kernel
theorem dX4_leans_1 : decode cX4_leans 1 = .ok (.iconst 2, 1) := by decide +kernel
theorem dX4_leans_2 : decode cX4_leans 2 = .ok (.if_icmp .ge 6, 3) := by decide +kernel
theorem dX4_leans_5 : decode cX4_leans 5 = .ok (.bipush (-9), 2) := by decide +kernel
theorem dX4_leans_7 : decode cX4_leans 7 = .ok (.ireturn, 1) := by decide +kernel
theorem dX4_leans_8 : decode cX4_leans 8 = .ok (.iconst 0, 1) := by decide +kernel
theorem dX4_leans_9 : decode cX4_leans 9 = .ok (.istore_n 2, 1) := by decide +kernel
theorem dX4_leans_10 : decode cX4_leans 10 = .ok (.iconst 0, 1) := by decide +kernel
theorem dX4_leans_11 : decode cX4_leans 11 = .ok (.istore_n 3, 1) := by decide +kernel
theorem dX4_leans_12 : decode cX4_leans 12 = .ok (.iconst 1, 1) := by decide +kernel
theorem dX4_leans_13 : decode cX4_leans 13 = .ok (.istore 4, 2) := by decide +kernel
theorem dX4_leans_15 : decode cX4_leans 15 = .ok (.iload 4, 2) := by decide +kernel
theorem dX4_leans_17 : decode cX4_leans 17 = .ok (.iload_n 1, 1) := by decide +kernel
theorem dX4_leans_18 : decode cX4_leans 18 = .ok (.if_icmp .ge 55, 3) := by decide +kernel
theorem dX4_leans_21 : decode cX4_leans 21 = .ok (.aload_n 0, 1) := by decide +kernel
theorem dX4_leans_22 : decode cX4_leans 22 = .ok (.getfield 24, 3) := by decide +kernel
theorem dX4_leans_25 : decode cX4_leans 25 = .ok (.iload 4, 2) := by decide +kernel
theorem dX4_leans_27 : decode cX4_leans 27 = .ok (.iaload, 1) := by decide +kernel
theorem dX4_leans_28 : decode cX4_leans 28 = .ok (.aload_n 0, 1) := by decide +kernel
theorem dX4_leans_29 : decode cX4_leans 29 = .ok (.getfield 24, 3) := by decide +kernel
theorem dX4_leans_32 : decode cX4_leans 32 = .ok (.iload_n 2, 1) := by decide +kernel
theorem dX4_leans_33 : decode cX4_leans 33 = .ok (.iaload, 1) := by decide +kernel
theorem dX4_leans_34 : decode cX4_leans 34 = .ok (.if_icmp .le 8, 3) := by decide +kernel
theorem dX4_leans_37 : decode cX4_leans 37 = .ok (.iload 4, 2) := by decide +kernel
theorem dX4_leans_39 : decode cX4_leans 39 = .ok (.goto 4, 3) := by decide +kernel
theorem dX4_leans_42 : decode cX4_leans 42 = .ok (.iload_n 2, 1) := by decide +kernel
theorem dX4_leans_43 : decode cX4_leans 43 = .ok (.istore_n 2, 1) := by decide +kernel
theorem dX4_leans_44 : decode cX4_leans 44 = .ok (.aload_n 0, 1) := by decide +kernel
theorem dX4_leans_45 : decode cX4_leans 45 = .ok (.getfield 24, 3) := by decide +kernel
theorem dX4_leans_48 : decode cX4_leans 48 = .ok (.iload 4, 2) := by decide +kernel
theorem dX4_leans_50 : decode cX4_leans 50 = .ok (.iaload, 1) := by decide +kernel
theorem dX4_leans_51 : decode cX4_leans 51 = .ok (.aload_n 0, 1) := by decide +kernel
theorem dX4_leans_52 : decode cX4_leans 52 = .ok (.getfield 24, 3) := by decide +kernel
theorem dX4_leans_55 : decode cX4_leans 55 = .ok (.iload_n 3, 1) := by decide +kernel
theorem dX4_leans_56 : decode cX4_leans 56 = .ok (.iaload, 1) := by decide +kernel
theorem dX4_leans_57 : decode cX4_leans 57 = .ok (.if_icmp .ge 8, 3) := by decide +kernel
theorem dX4_leans_60 : decode cX4_leans 60 = .ok (.iload 4, 2) := by decide +kernel
theorem dX4_leans_62 : decode cX4_leans 62 = .ok (.goto 4, 3) := by decide +kernel
theorem dX4_leans_65 : decode cX4_leans 65 = .ok (.iload_n 3, 1) := by decide +kernel
theorem dX4_leans_66 : decode cX4_leans 66 = .ok (.istore_n 3, 1) := by decide +kernel
theorem dX4_leans_67 : decode cX4_leans 67 = .ok (.iinc 4 1, 3) := by decide +kernel
theorem dX4_leans_70 : decode cX4_leans 70 = .ok (.goto (-55), 3) := by decide +kernel
theorem dX4_leans_73 : decode cX4_leans 73 = .ok (.bipush 10, 2) := by decide +kernel
theorem dX4_leans_75 : decode cX4_leans 75 = .ok (.iload_n 2, 1) := by decide +kernel
theorem dX4_leans_76 : decode cX4_leans 76 = .ok (.imul, 1) := by decide +kernel
theorem dX4_leans_77 : decode cX4_leans 77 = .ok (.iload_n 3, 1) := by decide +kernel
theorem dX4_leans_78 : decode cX4_leans 78 = .ok (.iadd, 1) := by decide +kernel
theorem dX4_leans_79 : decode cX4_leans 79 = .ok (.ireturn, 1) := by decide +kernel
theorem dX4_copyTo_0 : decode cX4_copyTo 0 = .ok (.aload_n 1, 1) := by decide +kernel
theorem dX4_copyTo_1 : decode cX4_copyTo 1 = .ok (.iconst 0, 1) := by decide +kernel
theorem dX4_copyTo_2 : decode cX4_copyTo 2 = .ok (.aload_n 0, 1) := by decide +kernel
theorem dX4_copyTo_3 : decode cX4_copyTo 3 = .ok (.getfield 11, 3) := by decide +kernel
theorem dX4_copyTo_6 : decode cX4_copyTo 6 = .ok (.iastore, 1) := by decide +kernel
theorem dX4_copyTo_7 : decode cX4_copyTo 7 = .ok (.aload_n 1, 1) := by decide +kernel
theorem dX4_copyTo_8 : decode cX4_copyTo 8 = .ok (.iconst 1, 1) := by decide +kernel
theorem dX4_copyTo_9 : decode cX4_copyTo 9 = .ok (.aload_n 0, 1) := by decide +kernel
theorem dX4_copyTo_10 : decode cX4_copyTo 10 = .ok (.getfield 15, 3) := by decide +kernel
theorem dX4_copyTo_13 : decode cX4_copyTo 13 = .ok (.iastore, 1) := by decide +kernel
theorem dX4_copyTo_14 : decode cX4_copyTo 14 = .ok (.aload_n 1, 1) := by decide +kernel
theorem dX4_copyTo_15 : decode cX4_copyTo 15 = .ok (.iconst 2, 1) := by decide +kernel
theorem dX4_copyTo_16 : decode cX4_copyTo 16 = .ok (.aload_n 0, 1) := by decide +kernel
theorem dX4_copyTo_17 : decode cX4_copyTo 17 = .ok (.getfield 18, 3) := by decide +kernel
theorem dX4_copyTo_20 : decode cX4_copyTo 20 = .ok (.iastore, 1) := by decide +kernel
theorem dX4_copyTo_21 : decode cX4_copyTo 21 = .ok (.aload_n 1, 1) := by decide +kernel
theorem dX4_copyTo_22 : decode cX4_copyTo 22 = .ok (.iconst 3, 1) := by decide +kernel
theorem dX4_copyTo_23 : decode cX4_copyTo 23 = .ok (.aload_n 0, 1) := by decide +kernel
theorem dX4_copyTo_24 : decode cX4_copyTo 24 = .ok (.getfield 21, 3) := by decide +kernel
theorem dX4_copyTo_27 : decode cX4_copyTo 27 = .ok (.iastore, 1) := by decide +kernel
theorem dX4_copyTo_28 : decode cX4_copyTo 28 = .ok (.aload_n 0, 1) := by decide +kernel
theorem dX4_copyTo_29 : decode cX4_copyTo 29 = .ok (.getfield 24, 3) := by decide +kernel
theorem dX4_copyTo_32 : decode cX4_copyTo 32 = .ok (.iconst 0, 1) := by decide +kernel
theorem dX4_copyTo_33 : decode cX4_copyTo 33 = .ok (.aload_n 1, 1) := by decide +kernel
theorem dX4_copyTo_34 : decode cX4_copyTo 34 = .ok (.iconst 4, 1) := by decide +kernel
theorem dX4_copyTo_35 : decode cX4_copyTo 35 = .ok (.iconst 5, 1) := by decide +kernel
theorem dX4_copyTo_36 : decode cX4_copyTo 36 = .ok (.invokestatic 61, 3) := by decide +kernel
theorem dX4_copyTo_39 : decode cX4_copyTo 39 = .ok (.aload_n 0, 1) := by decide +kernel
theorem dX4_copyTo_40 : decode cX4_copyTo 40 = .ok (.getfield 28, 3) := by decide +kernel
theorem dX4_copyTo_43 : decode cX4_copyTo 43 = .ok (.iconst 0, 1) := by decide +kernel
theorem dX4_copyTo_44 : decode cX4_copyTo 44 = .ok (.aload_n 1, 1) := by decide +kernel
theorem dX4_copyTo_45 : decode cX4_copyTo 45 = .ok (.bipush 9, 2) := by decide +kernel
theorem dX4_copyTo_47 : decode cX4_copyTo 47 = .ok (.iconst 5, 1) := by decide +kernel
theorem dX4_copyTo_48 : decode cX4_copyTo 48 = .ok (.invokestatic 61, 3) := by decide +kernel
theorem dX4_copyTo_51 : decode cX4_copyTo 51 = .ok (.return_, 1) := by decide +kernel
theorem dX4_copyFrom_0 : decode cX4_copyFrom 0 = .ok (.aload_n 0, 1) := by decide +kernel
theorem dX4_copyFrom_1 : decode cX4_copyFrom 1 = .ok (.aload_n 1, 1) := by decide +kernel
theorem dX4_copyFrom_2 : decode cX4_copyFrom 2 = .ok (.iconst 0, 1) := by decide +kernel
theorem dX4_copyFrom_3 : decode cX4_copyFrom 3 = .ok (.iaload, 1) := by decide +kernel
theorem dX4_copyFrom_4 : decode cX4_copyFrom 4 = .ok (.putfield 11, 3) := by decide +kernel
theorem dX4_copyFrom_7 : decode cX4_copyFrom 7 = .ok (.aload_n 0, 1) := by decide +kernel
theorem dX4_copyFrom_8 : decode cX4_copyFrom 8 = .ok (.aload_n 1, 1) := by decide +kernel
theorem dX4_copyFrom_9 : decode cX4_copyFrom 9 = .ok (.iconst 1, 1) := by decide +kernel
theorem dX4_copyFrom_10 : decode cX4_copyFrom 10 = .ok (.iaload, 1) := by decide +kernel
theorem dX4_copyFrom_11 : decode cX4_copyFrom 11 = .ok (.putfield 15, 3) := by decide +kernel
theorem dX4_copyFrom_14 : decode cX4_copyFrom 14 = .ok (.aload_n 0, 1) := by decide +kernel
theorem dX4_copyFrom_15 : decode cX4_copyFrom 15 = .ok (.aload_n 1, 1) := by decide +kernel
theorem dX4_copyFrom_16 : decode cX4_copyFrom 16 = .ok (.iconst 2, 1) := by decide +kernel
theorem dX4_copyFrom_17 : decode cX4_copyFrom 17 = .ok (.iaload, 1) := by decide +kernel
theorem dX4_copyFrom_18 : decode cX4_copyFrom 18 = .ok (.putfield 18, 3) := by decide +kernel
theorem dX4_copyFrom_21 : decode cX4_copyFrom 21 = .ok (.aload_n 0, 1) := by decide +kernel
theorem dX4_copyFrom_22 : decode cX4_copyFrom 22 = .ok (.aload_n 1, 1) := by decide +kernel
theorem dX4_copyFrom_23 : decode cX4_copyFrom 23 = .ok (.iconst 3, 1) := by decide +kernel
theorem dX4_copyFrom_24 : decode cX4_copyFrom 24 = .ok (.iaload, 1) := by decide +kernel
theorem dX4_copyFrom_25 : decode cX4_copyFrom 25 = .ok (.putfield 21, 3) := by decide +kernel
theorem dX4_copyFrom_28 : decode cX4_copyFrom 28 = .ok (.aload_n 1, 1) := by decide +kernel
theorem dX4_copyFrom_29 : decode cX4_copyFrom 29 = .ok (.iconst 4, 1) := by decide +kernel
theorem dX4_copyFrom_30 : decode cX4_copyFrom 30 = .ok (.aload_n 0, 1) := by decide +kernel
theorem dX4_copyFrom_31 : decode cX4_copyFrom 31 = .ok (.getfield 24, 3) := by decide +kernel
theorem dX4_copyFrom_34 : decode cX4_copyFrom 34 = .ok (.iconst 0, 1) := by decide +kernel
theorem dX4_copyFrom_35 : decode cX4_copyFrom 35 = .ok (.iconst 5, 1) := by decide +kernel
theorem dX4_copyFrom_36 : decode cX4_copyFrom 36 = .ok (.invokestatic 61, 3) := by decide +kernel
theorem dX4_copyFrom_39 : decode cX4_copyFrom 39 = .ok (.aload_n 1, 1) := by decide +kernel
theorem dX4_copyFrom_40 : decode cX4_copyFrom 40 = .ok (.bipush 9, 2) := by decide +kernel
theorem dX4_copyFrom_42 : decode cX4_copyFrom 42 = .ok (.aload_n 0, 1) := by decide +kernel
theorem dX4_copyFrom_43 : decode cX4_copyFrom 43 = .ok (.getfield 28, 3) := by decide +kernel
theorem dX4_copyFrom_46 : decode cX4_copyFrom 46 = .ok (.iconst 0, 1) := by decide +kernel
theorem dX4_copyFrom_47 : decode cX4_copyFrom 47 = .ok (.iconst 5, 1) := by decide +kernel
theorem dX4_copyFrom_48 : decode cX4_copyFrom 48 = .ok (.invokestatic 61, 3) := by decide +kernel
theorem dX4_copyFrom_51 : decode cX4_copyFrom 51 = .ok (.return_, 1) := by decide +kernel
theorem dX5_init_0 : decode cX5_init 0 = .ok (.aload_n 0, 1) := by decide +kernel
theorem dX5_init_1 : decode cX5_init 1 = .ok (.invokespecial 3, 3) := by decide +kernel
theorem dX5_init_4 : decode cX5_init 4 = .ok (.aload_n 0, 1) := by decide +kernel
theorem dX5_init_5 : decode cX5_init 5 = .ok (.iconst 4, 1) := by decide +kernel
theorem dX5_init_6 : decode cX5_init 6 = .ok (.newarray .int, 2) := by decide +kernel
theorem dX5_init_8 : decode cX5_init 8 = .ok (.putfield 9, 3) := by decide +kernel
theorem dX5_init_11 : decode cX5_init 11 = .ok (.aload_n 0, 1) := by decide +kernel
theorem dX5_init_12 : decode cX5_init 12 = .ok (.iconst 4, 1) := by decide +kernel
theorem dX5_init_13 : decode cX5_init 13 = .ok (.newarray .int, 2) := by decide +kernel
theorem dX5_init_15 : decode cX5_init 15 = .ok (.putfield 15, 3) := by decide +kernel
theorem dX5_init_18 : decode cX5_init 18 = .ok (.aload_n 0, 1) := by decide +kernel
theorem dX5_init_19 : decode cX5_init 19 = .ok (.iconst 5, 1) := by decide +kernel
theorem dX5_init_20 : decode cX5_init 20 = .ok (.bipush 32, 2) := by decide +kernel
theorem dX5_init_22 : decode cX5_init 22 = .ok (.multianewarray 18 2, 4) := by decide +kernel
theorem dX5_init_26 : decode cX5_init 26 = .ok (.putfield 20, 3) := by decide +kernel
theorem dX5_init_29 : decode cX5_init 29 = .ok (.aload_n 0, 1) := by decide +kernel
theorem dX5_init_30 : decode cX5_init 30 = .ok (.iconst 5, 1) := by decide +kernel
theorem dX5_init_31 : decode cX5_init 31 = .ok (.iconst 5, 1) := by decide +kernel
theorem dX5_init_32 : decode cX5_init 32 = .ok (.multianewarray 18 2, 4) := by decide +kernel
theorem dX5_init_36 : decode cX5_init 36 = .ok (.putfield 23, 3) := by decide +kernel
theorem dX5_init_39 : decode cX5_init 39 = .ok (.aload_n 0, 1) := by decide +kernel
theorem dX5_init_40 : decode cX5_init 40 = .ok (.iconst 0, 1) := by decide +kernel
theorem dX5_init_41 : decode cX5_init 41 = .ok (.putfield 26, 3) := by decide +kernel
theorem dX5_init_44 : decode cX5_init 44 = .ok (.aload_n 0, 1) := by decide +kernel
theorem dX5_init_45 : decode cX5_init 45 = .ok (.iconst 0, 1) := by decide +kernel
theorem dX5_init_46 : decode cX5_init 46 = .ok (.putfield 30, 3) := by decide +kernel
theorem dX5_init_49 : decode cX5_init 49 = .ok (.aload_n 0, 1) := by decide +kernel
theorem dX5_init_50 : decode cX5_init 50 = .ok (.iconst 0, 1) := by decide +kernel
theorem dX5_init_51 : decode cX5_init 51 = .ok (.putfield 33, 3) := by decide +kernel
theorem dX5_init_54 : decode cX5_init 54 = .ok (.return_, 1) := by decide +kernel
theorem dX5_missed_0 : decode cX5_missed 0 = .ok (.aload_n 0, 1) := by decide +kernel
theorem dX5_missed_1 : decode cX5_missed 1 = .ok (.getfield 26, 3) := by decide +kernel
theorem dX5_missed_4 : decode cX5_missed 4 = .ok (.bipush 100, 2) := by decide +kernel
theorem dX5_missed_6 : decode cX5_missed 6 = .ok (.idiv, 1) := by decide +kernel
theorem dX5_missed_7 : decode cX5_missed 7 = .ok (.ireturn, 1) := by decide +kernel
theorem dX5_out_0 : decode cX5_out 0 = .ok (.aload_n 0, 1) := by decide +kernel
theorem dX5_out_1 : decode cX5_out 1 = .ok (.getfield 26, 3) := by decide +kernel
theorem dX5_out_4 : decode cX5_out 4 = .ok (.bipush 100, 2) := by decide +kernel
theorem dX5_out_6 : decode cX5_out 6 = .ok (.irem, 1) := by decide +kernel
theorem dX5_out_7 : decode cX5_out 7 = .ok (.bipush 10, 2) := by decide +kernel
theorem dX5_out_9 : decode cX5_out 9 = .ok (.idiv, 1) := by decide +kernel
theorem dX5_out_10 : decode cX5_out 10 = .ok (.ireturn, 1) := by decide +kernel
theorem dX5_gotUp_0 : decode cX5_gotUp 0 = .ok (.aload_n 0, 1) := by decide +kernel
theorem dX5_gotUp_1 : decode cX5_gotUp 1 = .ok (.getfield 26, 3) := by decide +kernel
theorem dX5_gotUp_4 : decode cX5_gotUp 4 = .ok (.bipush 10, 2) := by decide +kernel
theorem dX5_gotUp_6 : decode cX5_gotUp 6 = .ok (.irem, 1) := by decide +kernel
theorem dX5_gotUp_7 : decode cX5_gotUp 7 = .ok (.ireturn, 1) := by decide +kernel
theorem dX5_make_0 : decode cX5_make 0 = .ok (.aload_n 0, 1) := by decide +kernel
theorem dX5_make_1 : decode cX5_make 1 = .ok (.iload_n 3, 1) := by decide +kernel
theorem dX5_make_2 : decode cX5_make 2 = .ok (.putfield 30, 3) := by decide +kernel
theorem dX5_make_5 : decode cX5_make 5 = .ok (.aload_n 0, 1) := by decide +kernel
theorem dX5_make_6 : decode cX5_make 6 = .ok (.aload_n 2, 1) := by decide +kernel
theorem dX5_make_7 : decode cX5_make 7 = .ok (.getfield 36, 3) := by decide +kernel
theorem dX5_make_10 : decode cX5_make 10 = .ok (.putfield 33, 3) := by decide +kernel
theorem dX5_make_13 : decode cX5_make 13 = .ok (.aload_n 0, 1) := by decide +kernel
theorem dX5_make_14 : decode cX5_make 14 = .ok (.iconst 0, 1) := by decide +kernel
theorem dX5_make_15 : decode cX5_make 15 = .ok (.putfield 26, 3) := by decide +kernel
theorem dX5_make_18 : decode cX5_make 18 = .ok (.iconst 0, 1) := by decide +kernel
theorem dX5_make_19 : decode cX5_make 19 = .ok (.istore 4, 2) := by decide +kernel
theorem dX5_make_21 : decode cX5_make 21 = .ok (.iload 4, 2) := by decide +kernel
theorem dX5_make_23 : decode cX5_make 23 = .ok (.aload_n 1, 1) := by decide +kernel
theorem dX5_make_24 : decode cX5_make 24 = .ok (.getfield 41, 3) := by decide +kernel
theorem dX5_make_27 : decode cX5_make 27 = .ok (.if_icmp .ge 45, 3) := by decide +kernel
theorem dX5_make_30 : decode cX5_make 30 = .ok (.aload_n 0, 1) := by decide +kernel
theorem dX5_make_31 : decode cX5_make 31 = .ok (.getfield 23, 3) := by decide +kernel
theorem dX5_make_34 : decode cX5_make 34 = .ok (.iconst 0, 1) := by decide +kernel
theorem dX5_make_35 : decode cX5_make 35 = .ok (.aaload, 1) := by decide +kernel
theorem dX5_make_36 : decode cX5_make 36 = .ok (.iload 4, 2) := by decide +kernel
theorem dX5_make_38 : decode cX5_make 38 = .ok (.iconst 1, 1) := by decide +kernel
theorem dX5_make_39 : decode cX5_make 39 = .ok (.iastore, 1) := by decide +kernel
theorem dX5_make_40 : decode cX5_make 40 = .ok (.aload_n 0, 1) := by decide +kernel
theorem dX5_make_41 : decode cX5_make 41 = .ok (.dup, 1) := by decide +kernel
theorem dX5_make_42 : decode cX5_make 42 = .ok (.getfield 26, 3) := by decide +kernel
theorem dX5_make_45 : decode cX5_make 45 = .ok (.aload_n 0, 1) := by decide +kernel
theorem dX5_make_46 : decode cX5_make 46 = .ok (.aload_n 1, 1) := by decide +kernel
theorem dX5_make_47 : decode cX5_make 47 = .ok (.iload 4, 2) := by decide +kernel
theorem dX5_make_49 : decode cX5_make 49 = .ok (.iconst 1, 1) := by decide +kernel
theorem dX5_make_50 : decode cX5_make 50 = .ok (.iconst 0, 1) := by decide +kernel
theorem dX5_make_51 : decode cX5_make 51 = .ok (.aload_n 2, 1) := by decide +kernel
theorem dX5_make_52 : decode cX5_make 52 = .ok (.getfield 46, 3) := by decide +kernel
theorem dX5_make_55 : decode cX5_make 55 = .ok (.iload 4, 2) := by decide +kernel
theorem dX5_make_57 : decode cX5_make 57 = .ok (.iaload, 1) := by decide +kernel
theorem dX5_make_58 : decode cX5_make 58 = .ok (.iconst 0, 1) := by decide +kernel
theorem dX5_make_59 : decode cX5_make 59 = .ok (.invokevirtual 49, 3) := by decide +kernel
theorem dX5_make_62 : decode cX5_make 62 = .ok (.iadd, 1) := by decide +kernel
theorem dX5_make_63 : decode cX5_make 63 = .ok (.putfield 26, 3) := by decide +kernel
theorem dX5_make_66 : decode cX5_make 66 = .ok (.iinc 4 1, 3) := by decide +kernel
theorem dX5_make_69 : decode cX5_make 69 = .ok (.goto (-48), 3) := by decide +kernel
theorem dX5_make_72 : decode cX5_make 72 = .ok (.iload_n 3, 1) := by decide +kernel
theorem dX5_make_73 : decode cX5_make 73 = .ok (.ifCond .le 20, 3) := by decide +kernel
theorem dX5_make_76 : decode cX5_make 76 = .ok (.aload_n 0, 1) := by decide +kernel
theorem dX5_make_77 : decode cX5_make 77 = .ok (.ldc 55, 2) := by decide +kernel
theorem dX5_make_79 : decode cX5_make 79 = .ok (.putfield 26, 3) := by decide +kernel
theorem dX5_make_82 : decode cX5_make 82 = .ok (.aload_n 0, 1) := by decide +kernel
theorem dX5_make_83 : decode cX5_make 83 = .ok (.aload_n 1, 1) := by decide +kernel
theorem dX5_make_84 : decode cX5_make 84 = .ok (.iconst 0, 1) := by decide +kernel
theorem dX5_make_85 : decode cX5_make 85 = .ok (.aload_n 2, 1) := by decide +kernel
theorem dX5_make_86 : decode cX5_make 86 = .ok (.getfield 56, 3) := by decide +kernel
theorem dX5_make_89 : decode cX5_make 89 = .ok (.iconst 0, 1) := by decide +kernel
theorem dX5_make_90 : decode cX5_make 90 = .ok (.invokevirtual 59, 3) := by decide +kernel
theorem dX5_make_93 : decode cX5_make 93 = .ok (.return_, 1) := by decide +kernel
theorem dX5_fillTree_0 : decode cX5_fillTree 0 = .ok (.iload 4, 2) := by decide +kernel
theorem dX5_fillTree_2 : decode cX5_fillTree 2 = .ok (.aload_n 0, 1) := by decide +kernel
theorem dX5_fillTree_3 : decode cX5_fillTree 3 = .ok (.getfield 30, 3) := by decide +kernel
theorem dX5_fillTree_6 : decode cX5_fillTree 6 = .ok (.if_icmp .lt 22, 3) := by decide +kernel
theorem dX5_fillTree_9 : decode cX5_fillTree 9 = .ok (.iload 6, 2) := by decide +kernel
theorem dX5_fillTree_11 : decode cX5_fillTree 11 = .ok (.iload 5, 2) := by decide +kernel
theorem dX5_fillTree_13 : decode cX5_fillTree 13 = .ok (.ifCond .ne 8, 3) := by decide +kernel
theorem dX5_fillTree_16 : decode cX5_fillTree 16 = .ok (.bipush 10, 2) := by decide +kernel
theorem dX5_fillTree_18 : decode cX5_fillTree 18 = .ok (.goto 4, 3) := by decide +kernel
theorem dX5_fillTree_21 : decode cX5_fillTree 21 = .ok (.iconst 0, 1) := by decide +kernel
theorem dX5_fillTree_22 : decode cX5_fillTree 22 = .ok (.iadd, 1) := by decide +kernel
theorem dX5_fillTree_23 : decode cX5_fillTree 23 = .ok (.istore 7, 2) := by decide +kernel
theorem dX5_fillTree_25 : decode cX5_fillTree 25 = .ok (.goto 94, 3) := by decide +kernel
theorem dX5_fillTree_28 : decode cX5_fillTree 28 = .ok (.aload_n 0, 1) := by decide +kernel
theorem dX5_fillTree_29 : decode cX5_fillTree 29 = .ok (.getfield 33, 3) := by decide +kernel
theorem dX5_fillTree_32 : decode cX5_fillTree 32 = .ok (.iload 4, 2) := by decide +kernel
theorem dX5_fillTree_34 : decode cX5_fillTree 34 = .ok (.iadd, 1) := by decide +kernel
theorem dX5_fillTree_35 : decode cX5_fillTree 35 = .ok (.istore 8, 2) := by decide +kernel
theorem dX5_fillTree_37 : decode cX5_fillTree 37 = .ok (.iload 6, 2) := by decide +kernel
theorem dX5_fillTree_39 : decode cX5_fillTree 39 = .ok (.aload_n 1, 1) := by decide +kernel
theorem dX5_fillTree_40 : decode cX5_fillTree 40 = .ok (.iload 8, 2) := by decide +kernel
theorem dX5_fillTree_42 : decode cX5_fillTree 42 = .ok (.iload_n 2, 1) := by decide +kernel
theorem dX5_fillTree_43 : decode cX5_fillTree 43 = .ok (.iload 5, 2) := by decide +kernel
theorem dX5_fillTree_45 : decode cX5_fillTree 45 = .ok (.invokevirtual 63, 3) := by decide +kernel
theorem dX5_fillTree_48 : decode cX5_fillTree 48 = .ok (.bipush 100, 2) := by decide +kernel
theorem dX5_fillTree_50 : decode cX5_fillTree 50 = .ok (.imul, 1) := by decide +kernel
theorem dX5_fillTree_51 : decode cX5_fillTree 51 = .ok (.iadd, 1) := by decide +kernel
theorem dX5_fillTree_52 : decode cX5_fillTree 52 = .ok (.istore 9, 2) := by decide +kernel
theorem dX5_fillTree_54 : decode cX5_fillTree 54 = .ok (.aload_n 1, 1) := by decide +kernel
theorem dX5_fillTree_55 : decode cX5_fillTree 55 = .ok (.iload 8, 2) := by decide +kernel
theorem dX5_fillTree_57 : decode cX5_fillTree 57 = .ok (.iload_n 2, 1) := by decide +kernel
theorem dX5_fillTree_58 : decode cX5_fillTree 58 = .ok (.iload 5, 2) := by decide +kernel
theorem dX5_fillTree_60 : decode cX5_fillTree 60 = .ok (.iconst 0, 1) := by decide +kernel
theorem dX5_fillTree_61 : decode cX5_fillTree 61 = .ok (.invokevirtual 67, 3) := by decide +kernel
theorem dX5_fillTree_64 : decode cX5_fillTree 64 = .ok (.istore 10, 2) := by decide +kernel
theorem dX5_fillTree_66 : decode cX5_fillTree 66 = .ok (.aload_n 1, 1) := by decide +kernel
theorem dX5_fillTree_67 : decode cX5_fillTree 67 = .ok (.iload 8, 2) := by decide +kernel
theorem dX5_fillTree_69 : decode cX5_fillTree 69 = .ok (.iload_n 2, 1) := by decide +kernel
theorem dX5_fillTree_70 : decode cX5_fillTree 70 = .ok (.iload 5, 2) := by decide +kernel
theorem dX5_fillTree_72 : decode cX5_fillTree 72 = .ok (.iconst 1, 1) := by decide +kernel
theorem dX5_fillTree_73 : decode cX5_fillTree 73 = .ok (.invokevirtual 67, 3) := by decide +kernel
theorem dX5_fillTree_76 : decode cX5_fillTree 76 = .ok (.istore 11, 2) := by decide +kernel
theorem dX5_fillTree_78 : decode cX5_fillTree 78 = .ok (.aload_n 0, 1) := by decide +kernel
theorem dX5_fillTree_79 : decode cX5_fillTree 79 = .ok (.aload_n 1, 1) := by decide +kernel
theorem dX5_fillTree_80 : decode cX5_fillTree 80 = .ok (.iload_n 2, 1) := by decide +kernel
theorem dX5_fillTree_81 : decode cX5_fillTree 81 = .ok (.iconst 2, 1) := by decide +kernel
theorem dX5_fillTree_82 : decode cX5_fillTree 82 = .ok (.iload_n 3, 1) := by decide +kernel
theorem dX5_fillTree_83 : decode cX5_fillTree 83 = .ok (.imul, 1) := by decide +kernel
theorem dX5_fillTree_84 : decode cX5_fillTree 84 = .ok (.iload 4, 2) := by decide +kernel
theorem dX5_fillTree_86 : decode cX5_fillTree 86 = .ok (.iconst 1, 1) := by decide +kernel
theorem dX5_fillTree_87 : decode cX5_fillTree 87 = .ok (.iadd, 1) := by decide +kernel
theorem dX5_fillTree_88 : decode cX5_fillTree 88 = .ok (.iload 10, 2) := by decide +kernel
theorem dX5_fillTree_90 : decode cX5_fillTree 90 = .ok (.iload 9, 2) := by decide +kernel
theorem dX5_fillTree_92 : decode cX5_fillTree 92 = .ok (.invokevirtual 49, 3) := by decide +kernel
theorem dX5_fillTree_95 : decode cX5_fillTree 95 = .ok (.aload_n 0, 1) := by decide +kernel
theorem dX5_fillTree_96 : decode cX5_fillTree 96 = .ok (.aload_n 1, 1) := by decide +kernel
theorem dX5_fillTree_97 : decode cX5_fillTree 97 = .ok (.iload_n 2, 1) := by decide +kernel
theorem dX5_fillTree_98 : decode cX5_fillTree 98 = .ok (.iconst 2, 1) := by decide +kernel
theorem dX5_fillTree_99 : decode cX5_fillTree 99 = .ok (.iload_n 3, 1) := by decide +kernel
theorem dX5_fillTree_100 : decode cX5_fillTree 100 = .ok (.imul, 1) := by decide +kernel
theorem dX5_fillTree_101 : decode cX5_fillTree 101 = .ok (.iconst 1, 1) := by decide +kernel
theorem dX5_fillTree_102 : decode cX5_fillTree 102 = .ok (.iadd, 1) := by decide +kernel
theorem dX5_fillTree_103 : decode cX5_fillTree 103 = .ok (.iload 4, 2) := by decide +kernel
theorem dX5_fillTree_105 : decode cX5_fillTree 105 = .ok (.iconst 1, 1) := by decide +kernel
theorem dX5_fillTree_106 : decode cX5_fillTree 106 = .ok (.iadd, 1) := by decide +kernel
theorem dX5_fillTree_107 : decode cX5_fillTree 107 = .ok (.iload 11, 2) := by decide +kernel
theorem dX5_fillTree_109 : decode cX5_fillTree 109 = .ok (.iload 9, 2) := by decide +kernel
theorem dX5_fillTree_111 : decode cX5_fillTree 111 = .ok (.invokevirtual 49, 3) := by decide +kernel
theorem dX5_fillTree_114 : decode cX5_fillTree 114 = .ok (.invokestatic 71, 3) := by decide +kernel
theorem dX5_fillTree_117 : decode cX5_fillTree 117 = .ok (.istore 7, 2) := by decide +kernel
theorem dX5_fillTree_119 : decode cX5_fillTree 119 = .ok (.aload_n 0, 1) := by decide +kernel
theorem dX5_fillTree_120 : decode cX5_fillTree 120 = .ok (.getfield 20, 3) := by decide +kernel
theorem dX5_fillTree_123 : decode cX5_fillTree 123 = .ok (.iload_n 2, 1) := by decide +kernel
theorem dX5_fillTree_124 : decode cX5_fillTree 124 = .ok (.aaload, 1) := by decide +kernel
theorem dX5_fillTree_125 : decode cX5_fillTree 125 = .ok (.iload_n 3, 1) := by decide +kernel
theorem dX5_fillTree_126 : decode cX5_fillTree 126 = .ok (.iload 7, 2) := by decide +kernel
theorem dX5_fillTree_128 : decode cX5_fillTree 128 = .ok (.iastore, 1) := by decide +kernel
theorem dX5_fillTree_129 : decode cX5_fillTree 129 = .ok (.iload 7, 2) := by decide +kernel
theorem dX5_fillTree_131 : decode cX5_fillTree 131 = .ok (.ireturn, 1) := by decide +kernel
theorem dX5_search_0 : decode cX5_search 0 = .ok (.iload_n 2, 1) := by decide +kernel
theorem dX5_search_1 : decode cX5_search 1 = .ok (.aload_n 0, 1) := by decide +kernel
theorem dX5_search_2 : decode cX5_search 2 = .ok (.getfield 30, 3) := by decide +kernel
theorem dX5_search_5 : decode cX5_search 5 = .ok (.if_icmp .lt 4, 3) := by decide +kernel
theorem dX5_search_8 : decode cX5_search 8 = .ok (.return_, 1) := by decide +kernel
theorem dX5_search_9 : decode cX5_search 9 = .ok (.iconst 0, 1) := by decide +kernel
theorem dX5_search_10 : decode cX5_search 10 = .ok (.istore 5, 2) := by decide +kernel
theorem dX5_search_12 : decode cX5_search 12 = .ok (.iload 5, 2) := by decide +kernel
theorem dX5_search_14 : decode cX5_search 14 = .ok (.iconst 1, 1) := by decide +kernel
theorem dX5_search_15 : decode cX5_search 15 = .ok (.aload_n 1, 1) := by decide +kernel
theorem dX5_search_16 : decode cX5_search 16 = .ok (.getfield 41, 3) := by decide +kernel
theorem dX5_search_19 : decode cX5_search 19 = .ok (.ishl, 1) := by decide +kernel
theorem dX5_search_20 : decode cX5_search 20 = .ok (.if_icmp .ge 82, 3) := by decide +kernel
theorem dX5_search_23 : decode cX5_search 23 = .ok (.aload_n 1, 1) := by decide +kernel
theorem dX5_search_24 : decode cX5_search 24 = .ok (.iload 5, 2) := by decide +kernel
theorem dX5_search_26 : decode cX5_search 26 = .ok (.invokevirtual 77, 3) := by decide +kernel
theorem dX5_search_29 : decode cX5_search 29 = .ok (.ifCond .eq 67, 3) := by decide +kernel
theorem dX5_search_32 : decode cX5_search 32 = .ok (.iload 5, 2) := by decide +kernel
theorem dX5_search_34 : decode cX5_search 34 = .ok (.iload_n 3, 1) := by decide +kernel
theorem dX5_search_35 : decode cX5_search 35 = .ok (.if_icmp .ne 8, 3) := by decide +kernel
theorem dX5_search_38 : decode cX5_search 38 = .ok (.iload 4, 2) := by decide +kernel
theorem dX5_search_40 : decode cX5_search 40 = .ok (.goto 7, 3) := by decide +kernel
theorem dX5_search_43 : decode cX5_search 43 = .ok (.iload 4, 2) := by decide +kernel
theorem dX5_search_45 : decode cX5_search 45 = .ok (.iconst 1, 1) := by decide +kernel
theorem dX5_search_46 : decode cX5_search 46 = .ok (.iadd, 1) := by decide +kernel
theorem dX5_search_47 : decode cX5_search 47 = .ok (.istore 6, 2) := by decide +kernel
theorem dX5_search_49 : decode cX5_search 49 = .ok (.iload 6, 2) := by decide +kernel
theorem dX5_search_51 : decode cX5_search 51 = .ok (.aload_n 0, 1) := by decide +kernel
theorem dX5_search_52 : decode cX5_search 52 = .ok (.aload_n 1, 1) := by decide +kernel
theorem dX5_search_53 : decode cX5_search 53 = .ok (.getfield 41, 3) := by decide +kernel
theorem dX5_search_56 : decode cX5_search 56 = .ok (.iload_n 2, 1) := by decide +kernel
theorem dX5_search_57 : decode cX5_search 57 = .ok (.iload 5, 2) := by decide +kernel
theorem dX5_search_59 : decode cX5_search 59 = .ok (.invokevirtual 81, 3) := by decide +kernel
theorem dX5_search_62 : decode cX5_search 62 = .ok (.iadd, 1) := by decide +kernel
theorem dX5_search_63 : decode cX5_search 63 = .ok (.istore 7, 2) := by decide +kernel
theorem dX5_search_65 : decode cX5_search 65 = .ok (.iload 7, 2) := by decide +kernel
theorem dX5_search_67 : decode cX5_search 67 = .ok (.aload_n 0, 1) := by decide +kernel
theorem dX5_search_68 : decode cX5_search 68 = .ok (.getfield 26, 3) := by decide +kernel
theorem dX5_search_71 : decode cX5_search 71 = .ok (.if_icmp .ge 25, 3) := by decide +kernel
theorem dX5_search_74 : decode cX5_search 74 = .ok (.aload_n 0, 1) := by decide +kernel
theorem dX5_search_75 : decode cX5_search 75 = .ok (.getfield 15, 3) := by decide +kernel
theorem dX5_search_78 : decode cX5_search 78 = .ok (.iload_n 2, 1) := by decide +kernel
theorem dX5_search_79 : decode cX5_search 79 = .ok (.iload 5, 2) := by decide +kernel
theorem dX5_search_81 : decode cX5_search 81 = .ok (.iastore, 1) := by decide +kernel
theorem dX5_search_82 : decode cX5_search 82 = .ok (.aload_n 0, 1) := by decide +kernel
theorem dX5_search_83 : decode cX5_search 83 = .ok (.aload_n 1, 1) := by decide +kernel
theorem dX5_search_84 : decode cX5_search 84 = .ok (.iload_n 2, 1) := by decide +kernel
theorem dX5_search_85 : decode cX5_search 85 = .ok (.iconst 1, 1) := by decide +kernel
theorem dX5_search_86 : decode cX5_search 86 = .ok (.iadd, 1) := by decide +kernel
theorem dX5_search_87 : decode cX5_search 87 = .ok (.iload 5, 2) := by decide +kernel
theorem dX5_search_89 : decode cX5_search 89 = .ok (.iload 6, 2) := by decide +kernel
theorem dX5_search_91 : decode cX5_search 91 = .ok (.iload 7, 2) := by decide +kernel
theorem dX5_search_93 : decode cX5_search 93 = .ok (.invokevirtual 84, 3) := by decide +kernel
theorem dX5_search_96 : decode cX5_search 96 = .ok (.iinc 5 1, 3) := by decide +kernel
theorem dX5_search_99 : decode cX5_search 99 = .ok (.goto (-87), 3) := by decide +kernel
theorem dX5_search_102 : decode cX5_search 102 = .ok (.return_, 1) := by decide +kernel
theorem dX5_settleOrSearch_0 : decode cX5_settleOrSearch 0 = .ok (.iload_n 2, 1) := by decide +kernel
theorem dX5_settleOrSearch_1 : decode cX5_settleOrSearch 1 = .ok (.aload_n 0, 1) := by decide +kernel
theorem dX5_settleOrSearch_2 : decode cX5_settleOrSearch 2 = .ok (.getfield 30, 3) := by decide +kernel
theorem dX5_settleOrSearch_5 : decode cX5_settleOrSearch 5 = .ok (.if_icmp .ge 15, 3) := by decide +kernel
theorem dX5_settleOrSearch_8 : decode cX5_settleOrSearch 8 = .ok (.aload_n 0, 1) := by decide +kernel
theorem dX5_settleOrSearch_9 : decode cX5_settleOrSearch 9 = .ok (.aload_n 1, 1) := by decide +kernel
theorem dX5_settleOrSearch_10 : decode cX5_settleOrSearch 10 = .ok (.iload_n 2, 1) := by decide +kernel
theorem dX5_settleOrSearch_11 : decode cX5_settleOrSearch 11 = .ok (.iload_n 3, 1) := by decide +kernel
theorem dX5_settleOrSearch_12 : decode cX5_settleOrSearch 12 = .ok (.iload 4, 2) := by decide +kernel
theorem dX5_settleOrSearch_14 : decode cX5_settleOrSearch 14 = .ok (.invokevirtual 59, 3) := by decide +kernel
theorem dX5_settleOrSearch_17 : decode cX5_settleOrSearch 17 = .ok (.goto 23, 3) := by decide +kernel
theorem dX5_settleOrSearch_20 : decode cX5_settleOrSearch 20 = .ok (.aload_n 0, 1) := by decide +kernel
theorem dX5_settleOrSearch_21 : decode cX5_settleOrSearch 21 = .ok (.iload 5, 2) := by decide +kernel
theorem dX5_settleOrSearch_23 : decode cX5_settleOrSearch 23 = .ok (.putfield 26, 3) := by decide +kernel
theorem dX5_settleOrSearch_26 : decode cX5_settleOrSearch 26 = .ok (.aload_n 0, 1) := by decide +kernel
theorem dX5_settleOrSearch_27 : decode cX5_settleOrSearch 27 = .ok (.getfield 15, 3) := by decide +kernel
theorem dX5_settleOrSearch_30 : decode cX5_settleOrSearch 30 = .ok (.iconst 0, 1) := by decide +kernel
theorem dX5_settleOrSearch_31 : decode cX5_settleOrSearch 31 = .ok (.aload_n 0, 1) := by decide +kernel
theorem dX5_settleOrSearch_32 : decode cX5_settleOrSearch 32 = .ok (.getfield 9, 3) := by decide +kernel
theorem dX5_settleOrSearch_35 : decode cX5_settleOrSearch 35 = .ok (.iconst 0, 1) := by decide +kernel
theorem dX5_settleOrSearch_36 : decode cX5_settleOrSearch 36 = .ok (.iconst 4, 1) := by decide +kernel
theorem dX5_settleOrSearch_37 : decode cX5_settleOrSearch 37 = .ok (.invokestatic 88, 3) := by decide +kernel
theorem dX5_settleOrSearch_40 : decode cX5_settleOrSearch 40 = .ok (.return_, 1) := by decide +kernel
theorem dX5_enter_0 : decode cX5_enter 0 = .ok (.iconst 0, 1) := by decide +kernel
theorem dX5_enter_1 : decode cX5_enter 1 = .ok (.istore 4, 2) := by decide +kernel
theorem dX5_enter_3 : decode cX5_enter 3 = .ok (.iconst 0, 1) := by decide +kernel
theorem dX5_enter_4 : decode cX5_enter 4 = .ok (.istore 5, 2) := by decide +kernel
theorem dX5_enter_6 : decode cX5_enter 6 = .ok (.iload 5, 2) := by decide +kernel
theorem dX5_enter_8 : decode cX5_enter 8 = .ok (.iload_n 1, 1) := by decide +kernel
theorem dX5_enter_9 : decode cX5_enter 9 = .ok (.if_icmp .ge 57, 3) := by decide +kernel
theorem dX5_enter_12 : decode cX5_enter 12 = .ok (.iconst 2, 1) := by decide +kernel
theorem dX5_enter_13 : decode cX5_enter 13 = .ok (.aload_n 0, 1) := by decide +kernel
theorem dX5_enter_14 : decode cX5_enter 14 = .ok (.getfield 23, 3) := by decide +kernel
theorem dX5_enter_17 : decode cX5_enter 17 = .ok (.iload_n 2, 1) := by decide +kernel
theorem dX5_enter_18 : decode cX5_enter 18 = .ok (.aaload, 1) := by decide +kernel
theorem dX5_enter_19 : decode cX5_enter 19 = .ok (.iload 5, 2) := by decide +kernel
theorem dX5_enter_21 : decode cX5_enter 21 = .ok (.iaload, 1) := by decide +kernel
theorem dX5_enter_22 : decode cX5_enter 22 = .ok (.imul, 1) := by decide +kernel
theorem dX5_enter_23 : decode cX5_enter 23 = .ok (.iload_n 3, 1) := by decide +kernel
theorem dX5_enter_24 : decode cX5_enter 24 = .ok (.iload 5, 2) := by decide +kernel
theorem dX5_enter_26 : decode cX5_enter 26 = .ok (.ishr, 1) := by decide +kernel
theorem dX5_enter_27 : decode cX5_enter 27 = .ok (.iconst 1, 1) := by decide +kernel
theorem dX5_enter_28 : decode cX5_enter 28 = .ok (.iand, 1) := by decide +kernel
theorem dX5_enter_29 : decode cX5_enter 29 = .ok (.iadd, 1) := by decide +kernel
theorem dX5_enter_30 : decode cX5_enter 30 = .ok (.istore 6, 2) := by decide +kernel
theorem dX5_enter_32 : decode cX5_enter 32 = .ok (.aload_n 0, 1) := by decide +kernel
theorem dX5_enter_33 : decode cX5_enter 33 = .ok (.getfield 23, 3) := by decide +kernel
theorem dX5_enter_36 : decode cX5_enter 36 = .ok (.iload_n 2, 1) := by decide +kernel
theorem dX5_enter_37 : decode cX5_enter 37 = .ok (.iconst 1, 1) := by decide +kernel
theorem dX5_enter_38 : decode cX5_enter 38 = .ok (.iadd, 1) := by decide +kernel
theorem dX5_enter_39 : decode cX5_enter 39 = .ok (.aaload, 1) := by decide +kernel
theorem dX5_enter_40 : decode cX5_enter 40 = .ok (.iload 5, 2) := by decide +kernel
theorem dX5_enter_42 : decode cX5_enter 42 = .ok (.iload 6, 2) := by decide +kernel
theorem dX5_enter_44 : decode cX5_enter 44 = .ok (.iastore, 1) := by decide +kernel
theorem dX5_enter_45 : decode cX5_enter 45 = .ok (.iload 4, 2) := by decide +kernel
theorem dX5_enter_47 : decode cX5_enter 47 = .ok (.aload_n 0, 1) := by decide +kernel
theorem dX5_enter_48 : decode cX5_enter 48 = .ok (.getfield 20, 3) := by decide +kernel
theorem dX5_enter_51 : decode cX5_enter 51 = .ok (.iload 5, 2) := by decide +kernel
theorem dX5_enter_53 : decode cX5_enter 53 = .ok (.aaload, 1) := by decide +kernel
theorem dX5_enter_54 : decode cX5_enter 54 = .ok (.iload 6, 2) := by decide +kernel
theorem dX5_enter_56 : decode cX5_enter 56 = .ok (.iaload, 1) := by decide +kernel
theorem dX5_enter_57 : decode cX5_enter 57 = .ok (.iadd, 1) := by decide +kernel
theorem dX5_enter_58 : decode cX5_enter 58 = .ok (.istore 4, 2) := by decide +kernel
theorem dX5_enter_60 : decode cX5_enter 60 = .ok (.iinc 5 1, 3) := by decide +kernel
theorem dX5_enter_63 : decode cX5_enter 63 = .ok (.goto (-57), 3) := by decide +kernel
theorem dX5_enter_66 : decode cX5_enter 66 = .ok (.iload 4, 2) := by decide +kernel
theorem dX5_enter_68 : decode cX5_enter 68 = .ok (.ireturn, 1) := by decide +kernel
theorem dX6_init_0 : decode cX6_init 0 = .ok (.aload_n 0, 1) := by decide +kernel
theorem dX6_init_1 : decode cX6_init 1 = .ok (.invokespecial 1, 3) := by decide +kernel
theorem dX6_init_4 : decode cX6_init 4 = .ok (.return_, 1) := by decide +kernel
theorem dX6_worth_0 : decode cX6_worth 0 = .ok (.aload_n 1, 1) := by decide +kernel
theorem dX6_worth_1 : decode cX6_worth 1 = .ok (.dup, 1) := by decide +kernel
theorem dX6_worth_2 : decode cX6_worth 2 = .ok (.getfield 7, 3) := by decide +kernel
theorem dX6_worth_5 : decode cX6_worth 5 = .ok (.ldc2_w 13, 3) := by decide +kernel
theorem dX6_worth_8 : decode cX6_worth 8 = .ok (.ladd, 1) := by decide +kernel
theorem dX6_worth_9 : decode cX6_worth 9 = .ok (.putfield 7, 3) := by decide +kernel
theorem dX6_worth_12 : decode cX6_worth 12 = .ok (.aload_n 0, 1) := by decide +kernel
theorem dX6_worth_13 : decode cX6_worth 13 = .ok (.aload_n 1, 1) := by decide +kernel
theorem dX6_worth_14 : decode cX6_worth 14 = .ok (.iload_n 2, 1) := by decide +kernel
theorem dX6_worth_15 : decode cX6_worth 15 = .ok (.invokespecial 15, 3) := by decide +kernel
theorem dX6_worth_18 : decode cX6_worth 18 = .ok (.iload_n 2, 1) := by decide +kernel
theorem dX6_worth_19 : decode cX6_worth 19 = .ok (.iadd, 1) := by decide +kernel
theorem dX6_worth_20 : decode cX6_worth 20 = .ok (.ireturn, 1) := by decide +kernel
theorem dX7_init_0 : decode cX7_init 0 = .ok (.aload_n 0, 1) := by decide +kernel
theorem dX7_init_1 : decode cX7_init 1 = .ok (.invokespecial 3, 3) := by decide +kernel
theorem dX7_init_4 : decode cX7_init 4 = .ok (.aload_n 0, 1) := by decide +kernel
theorem dX7_init_5 : decode cX7_init 5 = .ok (.sipush 200, 3) := by decide +kernel
theorem dX7_init_8 : decode cX7_init 8 = .ok (.newarray .int, 2) := by decide +kernel
theorem dX7_init_10 : decode cX7_init 10 = .ok (.putfield 9, 3) := by decide +kernel
theorem dX7_init_13 : decode cX7_init 13 = .ok (.aload_n 0, 1) := by decide +kernel
theorem dX7_init_14 : decode cX7_init 14 = .ok (.iconst 0, 1) := by decide +kernel
theorem dX7_init_15 : decode cX7_init 15 = .ok (.putfield 15, 3) := by decide +kernel
theorem dX7_init_18 : decode cX7_init 18 = .ok (.aload_n 0, 1) := by decide +kernel
theorem dX7_init_19 : decode cX7_init 19 = .ok (.iconst 0, 1) := by decide +kernel
theorem dX7_init_20 : decode cX7_init 20 = .ok (.putfield 19, 3) := by decide +kernel
theorem dX7_init_23 : decode cX7_init 23 = .ok (.aload_n 0, 1) := by decide +kernel
theorem dX7_init_24 : decode cX7_init 24 = .ok (.iconst 0, 1) := by decide +kernel
theorem dX7_init_25 : decode cX7_init 25 = .ok (.putfield 22, 3) := by decide +kernel
theorem dX7_init_28 : decode cX7_init 28 = .ok (.aload_n 0, 1) := by decide +kernel
theorem dX7_init_29 : decode cX7_init 29 = .ok (.iconst (-1), 1) := by decide +kernel
theorem dX7_init_30 : decode cX7_init 30 = .ok (.putfield 25, 3) := by decide +kernel
theorem dX7_init_33 : decode cX7_init 33 = .ok (.aload_n 0, 1) := by decide +kernel
theorem dX7_init_34 : decode cX7_init 34 = .ok (.iconst 0, 1) := by decide +kernel
theorem dX7_init_35 : decode cX7_init 35 = .ok (.putfield 28, 3) := by decide +kernel
theorem dX7_init_38 : decode cX7_init 38 = .ok (.aload_n 0, 1) := by decide +kernel
theorem dX7_init_39 : decode cX7_init 39 = .ok (.iconst 0, 1) := by decide +kernel
theorem dX7_init_40 : decode cX7_init 40 = .ok (.putfield 31, 3) := by decide +kernel
theorem dX7_init_43 : decode cX7_init 43 = .ok (.return_, 1) := by decide +kernel
theorem dX7_add_0 : decode cX7_add 0 = .ok (.aload_n 0, 1) := by decide +kernel
theorem dX7_add_1 : decode cX7_add 1 = .ok (.getfield 15, 3) := by decide +kernel
theorem dX7_add_4 : decode cX7_add 4 = .ok (.sipush 200, 3) := by decide +kernel
theorem dX7_add_7 : decode cX7_add 7 = .ok (.if_icmp .lt 5, 3) := by decide +kernel
theorem dX7_add_10 : decode cX7_add 10 = .ok (.iconst 0, 1) := by decide +kernel
theorem dX7_add_11 : decode cX7_add 11 = .ok (.ireturn, 1) := by decide +kernel
theorem dX7_add_12 : decode cX7_add 12 = .ok (.aload_n 0, 1) := by decide +kernel
theorem dX7_add_13 : decode cX7_add 13 = .ok (.getfield 9, 3) := by decide +kernel
theorem dX7_add_16 : decode cX7_add 16 = .ok (.aload_n 0, 1) := by decide +kernel
theorem dX7_add_17 : decode cX7_add 17 = .ok (.getfield 15, 3) := by decide +kernel
theorem dX7_add_20 : decode cX7_add 20 = .ok (.iload_n 1, 1) := by decide +kernel
theorem dX7_add_21 : decode cX7_add 21 = .ok (.iastore, 1) := by decide +kernel
theorem dX7_add_22 : decode cX7_add 22 = .ok (.aload_n 0, 1) := by decide +kernel
theorem dX7_add_23 : decode cX7_add 23 = .ok (.dup, 1) := by decide +kernel
theorem dX7_add_24 : decode cX7_add 24 = .ok (.getfield 15, 3) := by decide +kernel
theorem dX7_add_27 : decode cX7_add 27 = .ok (.iconst 1, 1) := by decide +kernel
theorem dX7_add_28 : decode cX7_add 28 = .ok (.iadd, 1) := by decide +kernel
theorem dX7_add_29 : decode cX7_add 29 = .ok (.putfield 15, 3) := by decide +kernel
theorem dX7_add_32 : decode cX7_add 32 = .ok (.iconst 1, 1) := by decide +kernel
theorem dX7_add_33 : decode cX7_add 33 = .ok (.ireturn, 1) := by decide +kernel
theorem dX7_readInto_0 : decode cX7_readInto 0 = .ok (.aload_n 1, 1) := by decide +kernel
theorem dX7_readInto_1 : decode cX7_readInto 1 = .ok (.invokevirtual 35, 3) := by decide +kernel
theorem dX7_readInto_4 : decode cX7_readInto 4 = .ok (.aload_n 0, 1) := by decide +kernel
theorem dX7_readInto_5 : decode cX7_readInto 5 = .ok (.iconst 0, 1) := by decide +kernel
theorem dX7_readInto_6 : decode cX7_readInto 6 = .ok (.putfield 22, 3) := by decide +kernel
theorem dX7_readInto_9 : decode cX7_readInto 9 = .ok (.aload_n 0, 1) := by decide +kernel
theorem dX7_readInto_10 : decode cX7_readInto 10 = .ok (.iconst 0, 1) := by decide +kernel
theorem dX7_readInto_11 : decode cX7_readInto 11 = .ok (.putfield 31, 3) := by decide +kernel
theorem dX7_readInto_14 : decode cX7_readInto 14 = .ok (.iconst 0, 1) := by decide +kernel
theorem dX7_readInto_15 : decode cX7_readInto 15 = .ok (.istore_n 2, 1) := by decide +kernel
theorem dX7_readInto_16 : decode cX7_readInto 16 = .ok (.iload_n 2, 1) := by decide +kernel
theorem dX7_readInto_17 : decode cX7_readInto 17 = .ok (.sipush 200, 3) := by decide +kernel
theorem dX7_readInto_20 : decode cX7_readInto 20 = .ok (.if_icmp .gt 179, 3) := by decide +kernel
theorem dX7_readInto_23 : decode cX7_readInto 23 = .ok (.aload_n 0, 1) := by decide +kernel
theorem dX7_readInto_24 : decode cX7_readInto 24 = .ok (.invokevirtual 40, 3) := by decide +kernel
theorem dX7_readInto_27 : decode cX7_readInto 27 = .ok (.iconst 0, 1) := by decide +kernel
theorem dX7_readInto_28 : decode cX7_readInto 28 = .ok (.istore_n 3, 1) := by decide +kernel
theorem dX7_readInto_29 : decode cX7_readInto 29 = .ok (.aload_n 0, 1) := by decide +kernel
theorem dX7_readInto_30 : decode cX7_readInto 30 = .ok (.getfield 25, 3) := by decide +kernel
theorem dX7_readInto_33 : decode cX7_readInto 33 = .ok (.lookupswitch 153 #[(-1, 51), (99, 102), (100, 128), (104, 78), (116, 53)], 51) := by decide +kernel
theorem dX7_readInto_84 : decode cX7_readInto 84 = .ok (.iload_n 2, 1) := by decide +kernel
theorem dX7_readInto_85 : decode cX7_readInto 85 = .ok (.ireturn, 1) := by decide +kernel
theorem dX7_readInto_86 : decode cX7_readInto 86 = .ok (.aload_n 1, 1) := by decide +kernel
theorem dX7_readInto_87 : decode cX7_readInto 87 = .ok (.getfield 43, 3) := by decide +kernel
theorem dX7_readInto_90 : decode cX7_readInto 90 = .ok (.iconst 5, 1) := by decide +kernel
theorem dX7_readInto_91 : decode cX7_readInto 91 = .ok (.if_icmp .ge 15, 3) := by decide +kernel
theorem dX7_readInto_94 : decode cX7_readInto 94 = .ok (.aload_n 0, 1) := by decide +kernel
theorem dX7_readInto_95 : decode cX7_readInto 95 = .ok (.aload_n 1, 1) := by decide +kernel
theorem dX7_readInto_96 : decode cX7_readInto 96 = .ok (.invokevirtual 46, 3) := by decide +kernel
theorem dX7_readInto_99 : decode cX7_readInto 99 = .ok (.ifCond .eq 7, 3) := by decide +kernel
theorem dX7_readInto_102 : decode cX7_readInto 102 = .ok (.iconst 1, 1) := by decide +kernel
theorem dX7_readInto_103 : decode cX7_readInto 103 = .ok (.goto 4, 3) := by decide +kernel
theorem dX7_readInto_106 : decode cX7_readInto 106 = .ok (.iconst 0, 1) := by decide +kernel
theorem dX7_readInto_107 : decode cX7_readInto 107 = .ok (.istore_n 3, 1) := by decide +kernel
theorem dX7_readInto_108 : decode cX7_readInto 108 = .ok (.goto 78, 3) := by decide +kernel
theorem dX7_readInto_111 : decode cX7_readInto 111 = .ok (.aload_n 0, 1) := by decide +kernel
theorem dX7_readInto_112 : decode cX7_readInto 112 = .ok (.getfield 31, 3) := by decide +kernel
theorem dX7_readInto_115 : decode cX7_readInto 115 = .ok (.ifCond .ne 15, 3) := by decide +kernel
theorem dX7_readInto_118 : decode cX7_readInto 118 = .ok (.aload_n 0, 1) := by decide +kernel
theorem dX7_readInto_119 : decode cX7_readInto 119 = .ok (.aload_n 1, 1) := by decide +kernel
theorem dX7_readInto_120 : decode cX7_readInto 120 = .ok (.invokevirtual 50, 3) := by decide +kernel
theorem dX7_readInto_123 : decode cX7_readInto 123 = .ok (.ifCond .eq 7, 3) := by decide +kernel
theorem dX7_readInto_126 : decode cX7_readInto 126 = .ok (.iconst 1, 1) := by decide +kernel
theorem dX7_readInto_127 : decode cX7_readInto 127 = .ok (.goto 4, 3) := by decide +kernel
theorem dX7_readInto_130 : decode cX7_readInto 130 = .ok (.iconst 0, 1) := by decide +kernel
theorem dX7_readInto_131 : decode cX7_readInto 131 = .ok (.istore_n 3, 1) := by decide +kernel
theorem dX7_readInto_132 : decode cX7_readInto 132 = .ok (.goto 54, 3) := by decide +kernel
theorem dX7_readInto_135 : decode cX7_readInto 135 = .ok (.aload_n 1, 1) := by decide +kernel
theorem dX7_readInto_136 : decode cX7_readInto 136 = .ok (.getfield 53, 3) := by decide +kernel
theorem dX7_readInto_139 : decode cX7_readInto 139 = .ok (.bipush 8, 2) := by decide +kernel
theorem dX7_readInto_141 : decode cX7_readInto 141 = .ok (.if_icmp .ge 15, 3) := by decide +kernel
theorem dX7_readInto_144 : decode cX7_readInto 144 = .ok (.aload_n 0, 1) := by decide +kernel
theorem dX7_readInto_145 : decode cX7_readInto 145 = .ok (.aload_n 1, 1) := by decide +kernel
theorem dX7_readInto_146 : decode cX7_readInto 146 = .ok (.invokevirtual 56, 3) := by decide +kernel
theorem dX7_readInto_149 : decode cX7_readInto 149 = .ok (.ifCond .eq 7, 3) := by decide +kernel
theorem dX7_readInto_152 : decode cX7_readInto 152 = .ok (.iconst 1, 1) := by decide +kernel
theorem dX7_readInto_153 : decode cX7_readInto 153 = .ok (.goto 4, 3) := by decide +kernel
theorem dX7_readInto_156 : decode cX7_readInto 156 = .ok (.iconst 0, 1) := by decide +kernel
theorem dX7_readInto_157 : decode cX7_readInto 157 = .ok (.istore_n 3, 1) := by decide +kernel
theorem dX7_readInto_158 : decode cX7_readInto 158 = .ok (.goto 28, 3) := by decide +kernel
theorem dX7_readInto_161 : decode cX7_readInto 161 = .ok (.aload_n 1, 1) := by decide +kernel
theorem dX7_readInto_162 : decode cX7_readInto 162 = .ok (.getfield 59, 3) := by decide +kernel
theorem dX7_readInto_165 : decode cX7_readInto 165 = .ok (.iconst 2, 1) := by decide +kernel
theorem dX7_readInto_166 : decode cX7_readInto 166 = .ok (.if_icmp .ge 15, 3) := by decide +kernel
theorem dX7_readInto_169 : decode cX7_readInto 169 = .ok (.aload_n 0, 1) := by decide +kernel
theorem dX7_readInto_170 : decode cX7_readInto 170 = .ok (.aload_n 1, 1) := by decide +kernel
theorem dX7_readInto_171 : decode cX7_readInto 171 = .ok (.invokevirtual 62, 3) := by decide +kernel
theorem dX7_readInto_174 : decode cX7_readInto 174 = .ok (.ifCond .eq 7, 3) := by decide +kernel
theorem dX7_readInto_177 : decode cX7_readInto 177 = .ok (.iconst 1, 1) := by decide +kernel
theorem dX7_readInto_178 : decode cX7_readInto 178 = .ok (.goto 4, 3) := by decide +kernel
theorem dX7_readInto_181 : decode cX7_readInto 181 = .ok (.iconst 0, 1) := by decide +kernel
theorem dX7_readInto_182 : decode cX7_readInto 182 = .ok (.istore_n 3, 1) := by decide +kernel
theorem dX7_readInto_183 : decode cX7_readInto 183 = .ok (.goto 3, 3) := by decide +kernel
theorem dX7_readInto_186 : decode cX7_readInto 186 = .ok (.iload_n 3, 1) := by decide +kernel
theorem dX7_readInto_187 : decode cX7_readInto 187 = .ok (.ifCond .ne 6, 3) := by decide +kernel
theorem dX7_readInto_190 : decode cX7_readInto 190 = .ok (.bipush (-3), 2) := by decide +kernel
theorem dX7_readInto_192 : decode cX7_readInto 192 = .ok (.ireturn, 1) := by decide +kernel
theorem dX7_readInto_193 : decode cX7_readInto 193 = .ok (.iinc 2 1, 3) := by decide +kernel
theorem dX7_readInto_196 : decode cX7_readInto 196 = .ok (.goto (-180), 3) := by decide +kernel
theorem dX7_readInto_199 : decode cX7_readInto 199 = .ok (.bipush (-3), 2) := by decide +kernel
theorem dX7_readInto_201 : decode cX7_readInto 201 = .ok (.ireturn, 1) := by decide +kernel
theorem dX7_readPhone_0 : decode cX7_readPhone 0 = .ok (.aload_n 1, 1) := by decide +kernel
theorem dX7_readPhone_1 : decode cX7_readPhone 1 = .ok (.getfield 43, 3) := by decide +kernel
theorem dX7_readPhone_4 : decode cX7_readPhone 4 = .ok (.istore_n 2, 1) := by decide +kernel
theorem dX7_readPhone_5 : decode cX7_readPhone 5 = .ok (.aload_n 0, 1) := by decide +kernel
theorem dX7_readPhone_6 : decode cX7_readPhone 6 = .ok (.iconst 0, 1) := by decide +kernel
theorem dX7_readPhone_7 : decode cX7_readPhone 7 = .ok (.bipush 100, 2) := by decide +kernel
theorem dX7_readPhone_9 : decode cX7_readPhone 9 = .ok (.invokevirtual 65, 3) := by decide +kernel
theorem dX7_readPhone_12 : decode cX7_readPhone 12 = .ok (.ifCond .ne 5, 3) := by decide +kernel
theorem dX7_readPhone_15 : decode cX7_readPhone 15 = .ok (.iconst 0, 1) := by decide +kernel
theorem dX7_readPhone_16 : decode cX7_readPhone 16 = .ok (.ireturn, 1) := by decide +kernel
theorem dX7_readPhone_17 : decode cX7_readPhone 17 = .ok (.aload_n 1, 1) := by decide +kernel
theorem dX7_readPhone_18 : decode cX7_readPhone 18 = .ok (.getfield 69, 3) := by decide +kernel
theorem dX7_readPhone_21 : decode cX7_readPhone 21 = .ok (.iload_n 2, 1) := by decide +kernel
theorem dX7_readPhone_22 : decode cX7_readPhone 22 = .ok (.aload_n 0, 1) := by decide +kernel
theorem dX7_readPhone_23 : decode cX7_readPhone 23 = .ok (.getfield 28, 3) := by decide +kernel
theorem dX7_readPhone_26 : decode cX7_readPhone 26 = .ok (.iastore, 1) := by decide +kernel
theorem dX7_readPhone_27 : decode cX7_readPhone 27 = .ok (.aload_n 0, 1) := by decide +kernel
theorem dX7_readPhone_28 : decode cX7_readPhone 28 = .ok (.iconst 1, 1) := by decide +kernel
theorem dX7_readPhone_29 : decode cX7_readPhone 29 = .ok (.bipush 30, 2) := by decide +kernel
theorem dX7_readPhone_31 : decode cX7_readPhone 31 = .ok (.invokevirtual 65, 3) := by decide +kernel
theorem dX7_readPhone_34 : decode cX7_readPhone 34 = .ok (.ifCond .ne 5, 3) := by decide +kernel
theorem dX7_readPhone_37 : decode cX7_readPhone 37 = .ok (.iconst 0, 1) := by decide +kernel
theorem dX7_readPhone_38 : decode cX7_readPhone 38 = .ok (.ireturn, 1) := by decide +kernel
theorem dX7_readPhone_39 : decode cX7_readPhone 39 = .ok (.aload_n 1, 1) := by decide +kernel
theorem dX7_readPhone_40 : decode cX7_readPhone 40 = .ok (.getfield 72, 3) := by decide +kernel
theorem dX7_readPhone_43 : decode cX7_readPhone 43 = .ok (.iload_n 2, 1) := by decide +kernel
theorem dX7_readPhone_44 : decode cX7_readPhone 44 = .ok (.aload_n 0, 1) := by decide +kernel
theorem dX7_readPhone_45 : decode cX7_readPhone 45 = .ok (.getfield 28, 3) := by decide +kernel
theorem dX7_readPhone_48 : decode cX7_readPhone 48 = .ok (.iastore, 1) := by decide +kernel
theorem dX7_readPhone_49 : decode cX7_readPhone 49 = .ok (.aload_n 0, 1) := by decide +kernel
theorem dX7_readPhone_50 : decode cX7_readPhone 50 = .ok (.iconst 0, 1) := by decide +kernel
theorem dX7_readPhone_51 : decode cX7_readPhone 51 = .ok (.bipush 9, 2) := by decide +kernel
theorem dX7_readPhone_53 : decode cX7_readPhone 53 = .ok (.invokevirtual 65, 3) := by decide +kernel
theorem dX7_readPhone_56 : decode cX7_readPhone 56 = .ok (.ifCond .ne 5, 3) := by decide +kernel
theorem dX7_readPhone_59 : decode cX7_readPhone 59 = .ok (.iconst 0, 1) := by decide +kernel
theorem dX7_readPhone_60 : decode cX7_readPhone 60 = .ok (.ireturn, 1) := by decide +kernel
theorem dX7_readPhone_61 : decode cX7_readPhone 61 = .ok (.aload_n 1, 1) := by decide +kernel
theorem dX7_readPhone_62 : decode cX7_readPhone 62 = .ok (.getfield 75, 3) := by decide +kernel
theorem dX7_readPhone_65 : decode cX7_readPhone 65 = .ok (.iload_n 2, 1) := by decide +kernel
theorem dX7_readPhone_66 : decode cX7_readPhone 66 = .ok (.aload_n 0, 1) := by decide +kernel
theorem dX7_readPhone_67 : decode cX7_readPhone 67 = .ok (.getfield 28, 3) := by decide +kernel
theorem dX7_readPhone_70 : decode cX7_readPhone 70 = .ok (.iastore, 1) := by decide +kernel
theorem dX7_readPhone_71 : decode cX7_readPhone 71 = .ok (.aload_n 1, 1) := by decide +kernel
theorem dX7_readPhone_72 : decode cX7_readPhone 72 = .ok (.dup, 1) := by decide +kernel
theorem dX7_readPhone_73 : decode cX7_readPhone 73 = .ok (.getfield 43, 3) := by decide +kernel
theorem dX7_readPhone_76 : decode cX7_readPhone 76 = .ok (.iconst 1, 1) := by decide +kernel
theorem dX7_readPhone_77 : decode cX7_readPhone 77 = .ok (.iadd, 1) := by decide +kernel
theorem dX7_readPhone_78 : decode cX7_readPhone 78 = .ok (.putfield 43, 3) := by decide +kernel
theorem dX7_readPhone_81 : decode cX7_readPhone 81 = .ok (.aload_n 0, 1) := by decide +kernel
theorem dX7_readPhone_82 : decode cX7_readPhone 82 = .ok (.invokevirtual 78, 3) := by decide +kernel
theorem dX7_readPhone_85 : decode cX7_readPhone 85 = .ok (.ireturn, 1) := by decide +kernel
theorem dX7_readHoles_0 : decode cX7_readHoles 0 = .ok (.aload_n 0, 1) := by decide +kernel
theorem dX7_readHoles_1 : decode cX7_readHoles 1 = .ok (.iconst 1, 1) := by decide +kernel
theorem dX7_readHoles_2 : decode cX7_readHoles 2 = .ok (.iconst 2, 1) := by decide +kernel
theorem dX7_readHoles_3 : decode cX7_readHoles 3 = .ok (.invokevirtual 65, 3) := by decide +kernel
theorem dX7_readHoles_6 : decode cX7_readHoles 6 = .ok (.ifCond .ne 5, 3) := by decide +kernel
theorem dX7_readHoles_9 : decode cX7_readHoles 9 = .ok (.iconst 0, 1) := by decide +kernel
theorem dX7_readHoles_10 : decode cX7_readHoles 10 = .ok (.ireturn, 1) := by decide +kernel
theorem dX7_readHoles_11 : decode cX7_readHoles 11 = .ok (.aload_n 1, 1) := by decide +kernel
theorem dX7_readHoles_12 : decode cX7_readHoles 12 = .ok (.aload_n 0, 1) := by decide +kernel
theorem dX7_readHoles_13 : decode cX7_readHoles 13 = .ok (.getfield 28, 3) := by decide +kernel
theorem dX7_readHoles_16 : decode cX7_readHoles 16 = .ok (.putfield 82, 3) := by decide +kernel
theorem dX7_readHoles_19 : decode cX7_readHoles 19 = .ok (.aload_n 0, 1) := by decide +kernel
theorem dX7_readHoles_20 : decode cX7_readHoles 20 = .ok (.iconst 1, 1) := by decide +kernel
theorem dX7_readHoles_21 : decode cX7_readHoles 21 = .ok (.putfield 31, 3) := by decide +kernel
theorem dX7_readHoles_24 : decode cX7_readHoles 24 = .ok (.aload_n 0, 1) := by decide +kernel
theorem dX7_readHoles_25 : decode cX7_readHoles 25 = .ok (.invokevirtual 78, 3) := by decide +kernel
theorem dX7_readHoles_28 : decode cX7_readHoles 28 = .ok (.ireturn, 1) := by decide +kernel
theorem dX7_readCall_0 : decode cX7_readCall 0 = .ok (.aload_n 1, 1) := by decide +kernel
theorem dX7_readCall_1 : decode cX7_readCall 1 = .ok (.getfield 53, 3) := by decide +kernel
theorem dX7_readCall_4 : decode cX7_readCall 4 = .ok (.istore_n 2, 1) := by decide +kernel
theorem dX7_readCall_5 : decode cX7_readCall 5 = .ok (.aload_n 0, 1) := by decide +kernel
theorem dX7_readCall_6 : decode cX7_readCall 6 = .ok (.iconst 0, 1) := by decide +kernel
theorem dX7_readCall_7 : decode cX7_readCall 7 = .ok (.aload_n 1, 1) := by decide +kernel
theorem dX7_readCall_8 : decode cX7_readCall 8 = .ok (.getfield 43, 3) := by decide +kernel
theorem dX7_readCall_11 : decode cX7_readCall 11 = .ok (.iconst 1, 1) := by decide +kernel
theorem dX7_readCall_12 : decode cX7_readCall 12 = .ok (.isub, 1) := by decide +kernel
theorem dX7_readCall_13 : decode cX7_readCall 13 = .ok (.invokevirtual 65, 3) := by decide +kernel
theorem dX7_readCall_16 : decode cX7_readCall 16 = .ok (.ifCond .ne 5, 3) := by decide +kernel
theorem dX7_readCall_19 : decode cX7_readCall 19 = .ok (.iconst 0, 1) := by decide +kernel
theorem dX7_readCall_20 : decode cX7_readCall 20 = .ok (.ireturn, 1) := by decide +kernel
theorem dX7_readCall_21 : decode cX7_readCall 21 = .ok (.aload_n 1, 1) := by decide +kernel
theorem dX7_readCall_22 : decode cX7_readCall 22 = .ok (.getfield 85, 3) := by decide +kernel
theorem dX7_readCall_25 : decode cX7_readCall 25 = .ok (.iload_n 2, 1) := by decide +kernel
theorem dX7_readCall_26 : decode cX7_readCall 26 = .ok (.aload_n 0, 1) := by decide +kernel
theorem dX7_readCall_27 : decode cX7_readCall 27 = .ok (.getfield 28, 3) := by decide +kernel
theorem dX7_readCall_30 : decode cX7_readCall 30 = .ok (.iastore, 1) := by decide +kernel
theorem dX7_readCall_31 : decode cX7_readCall 31 = .ok (.aload_n 0, 1) := by decide +kernel
theorem dX7_readCall_32 : decode cX7_readCall 32 = .ok (.iconst 0, 1) := by decide +kernel
theorem dX7_readCall_33 : decode cX7_readCall 33 = .ok (.bipush 60, 2) := by decide +kernel
theorem dX7_readCall_35 : decode cX7_readCall 35 = .ok (.invokevirtual 65, 3) := by decide +kernel
theorem dX7_readCall_38 : decode cX7_readCall 38 = .ok (.ifCond .ne 5, 3) := by decide +kernel
theorem dX7_readCall_41 : decode cX7_readCall 41 = .ok (.iconst 0, 1) := by decide +kernel
theorem dX7_readCall_42 : decode cX7_readCall 42 = .ok (.ireturn, 1) := by decide +kernel
theorem dX7_readCall_43 : decode cX7_readCall 43 = .ok (.aload_n 1, 1) := by decide +kernel
theorem dX7_readCall_44 : decode cX7_readCall 44 = .ok (.getfield 88, 3) := by decide +kernel
theorem dX7_readCall_47 : decode cX7_readCall 47 = .ok (.iload_n 2, 1) := by decide +kernel
theorem dX7_readCall_48 : decode cX7_readCall 48 = .ok (.aload_n 0, 1) := by decide +kernel
theorem dX7_readCall_49 : decode cX7_readCall 49 = .ok (.getfield 28, 3) := by decide +kernel
theorem dX7_readCall_52 : decode cX7_readCall 52 = .ok (.iastore, 1) := by decide +kernel
theorem dX7_readCall_53 : decode cX7_readCall 53 = .ok (.aload_n 0, 1) := by decide +kernel
theorem dX7_readCall_54 : decode cX7_readCall 54 = .ok (.iconst 1, 1) := by decide +kernel
theorem dX7_readCall_55 : decode cX7_readCall 55 = .ok (.bipush 50, 2) := by decide +kernel
theorem dX7_readCall_57 : decode cX7_readCall 57 = .ok (.invokevirtual 65, 3) := by decide +kernel
theorem dX7_readCall_60 : decode cX7_readCall 60 = .ok (.ifCond .ne 5, 3) := by decide +kernel
theorem dX7_readCall_63 : decode cX7_readCall 63 = .ok (.iconst 0, 1) := by decide +kernel
theorem dX7_readCall_64 : decode cX7_readCall 64 = .ok (.ireturn, 1) := by decide +kernel
theorem dX7_readCall_65 : decode cX7_readCall 65 = .ok (.aload_n 1, 1) := by decide +kernel
theorem dX7_readCall_66 : decode cX7_readCall 66 = .ok (.getfield 91, 3) := by decide +kernel
theorem dX7_readCall_69 : decode cX7_readCall 69 = .ok (.iload_n 2, 1) := by decide +kernel
theorem dX7_readCall_70 : decode cX7_readCall 70 = .ok (.aload_n 0, 1) := by decide +kernel
theorem dX7_readCall_71 : decode cX7_readCall 71 = .ok (.getfield 28, 3) := by decide +kernel
theorem dX7_readCall_74 : decode cX7_readCall 74 = .ok (.iastore, 1) := by decide +kernel
theorem dX7_readCall_75 : decode cX7_readCall 75 = .ok (.aload_n 1, 1) := by decide +kernel
theorem dX7_readCall_76 : decode cX7_readCall 76 = .ok (.dup, 1) := by decide +kernel
theorem dX7_readCall_77 : decode cX7_readCall 77 = .ok (.getfield 53, 3) := by decide +kernel
theorem dX7_readCall_80 : decode cX7_readCall 80 = .ok (.iconst 1, 1) := by decide +kernel
theorem dX7_readCall_81 : decode cX7_readCall 81 = .ok (.iadd, 1) := by decide +kernel
theorem dX7_readCall_82 : decode cX7_readCall 82 = .ok (.putfield 53, 3) := by decide +kernel
theorem dX7_readCall_85 : decode cX7_readCall 85 = .ok (.aload_n 0, 1) := by decide +kernel
theorem dX7_readCall_86 : decode cX7_readCall 86 = .ok (.invokevirtual 78, 3) := by decide +kernel
theorem dX7_readCall_89 : decode cX7_readCall 89 = .ok (.ireturn, 1) := by decide +kernel
theorem dX7_readDark_0 : decode cX7_readDark 0 = .ok (.aload_n 1, 1) := by decide +kernel
theorem dX7_readDark_1 : decode cX7_readDark 1 = .ok (.getfield 59, 3) := by decide +kernel
theorem dX7_readDark_4 : decode cX7_readDark 4 = .ok (.istore_n 2, 1) := by decide +kernel
theorem dX7_readDark_5 : decode cX7_readDark 5 = .ok (.aload_n 0, 1) := by decide +kernel
theorem dX7_readDark_6 : decode cX7_readDark 6 = .ok (.iconst 0, 1) := by decide +kernel
theorem dX7_readDark_7 : decode cX7_readDark 7 = .ok (.bipush 60, 2) := by decide +kernel
theorem dX7_readDark_9 : decode cX7_readDark 9 = .ok (.invokevirtual 65, 3) := by decide +kernel
theorem dX7_readDark_12 : decode cX7_readDark 12 = .ok (.ifCond .ne 5, 3) := by decide +kernel
theorem dX7_readDark_15 : decode cX7_readDark 15 = .ok (.iconst 0, 1) := by decide +kernel
theorem dX7_readDark_16 : decode cX7_readDark 16 = .ok (.ireturn, 1) := by decide +kernel
theorem dX7_readDark_17 : decode cX7_readDark 17 = .ok (.aload_n 1, 1) := by decide +kernel
theorem dX7_readDark_18 : decode cX7_readDark 18 = .ok (.getfield 94, 3) := by decide +kernel
theorem dX7_readDark_21 : decode cX7_readDark 21 = .ok (.iload_n 2, 1) := by decide +kernel
theorem dX7_readDark_22 : decode cX7_readDark 22 = .ok (.aload_n 0, 1) := by decide +kernel
theorem dX7_readDark_23 : decode cX7_readDark 23 = .ok (.getfield 28, 3) := by decide +kernel
theorem dX7_readDark_26 : decode cX7_readDark 26 = .ok (.iastore, 1) := by decide +kernel
theorem dX7_readDark_27 : decode cX7_readDark 27 = .ok (.aload_n 0, 1) := by decide +kernel
theorem dX7_readDark_28 : decode cX7_readDark 28 = .ok (.aload_n 1, 1) := by decide +kernel
theorem dX7_readDark_29 : decode cX7_readDark 29 = .ok (.getfield 94, 3) := by decide +kernel
theorem dX7_readDark_32 : decode cX7_readDark 32 = .ok (.iload_n 2, 1) := by decide +kernel
theorem dX7_readDark_33 : decode cX7_readDark 33 = .ok (.iaload, 1) := by decide +kernel
theorem dX7_readDark_34 : decode cX7_readDark 34 = .ok (.bipush 60, 2) := by decide +kernel
theorem dX7_readDark_36 : decode cX7_readDark 36 = .ok (.invokevirtual 65, 3) := by decide +kernel
theorem dX7_readDark_39 : decode cX7_readDark 39 = .ok (.ifCond .ne 5, 3) := by decide +kernel
theorem dX7_readDark_42 : decode cX7_readDark 42 = .ok (.iconst 0, 1) := by decide +kernel
theorem dX7_readDark_43 : decode cX7_readDark 43 = .ok (.ireturn, 1) := by decide +kernel
theorem dX7_readDark_44 : decode cX7_readDark 44 = .ok (.aload_n 1, 1) := by decide +kernel
theorem dX7_readDark_45 : decode cX7_readDark 45 = .ok (.getfield 97, 3) := by decide +kernel
theorem dX7_readDark_48 : decode cX7_readDark 48 = .ok (.iload_n 2, 1) := by decide +kernel
theorem dX7_readDark_49 : decode cX7_readDark 49 = .ok (.aload_n 0, 1) := by decide +kernel
theorem dX7_readDark_50 : decode cX7_readDark 50 = .ok (.getfield 28, 3) := by decide +kernel
theorem dX7_readDark_53 : decode cX7_readDark 53 = .ok (.iastore, 1) := by decide +kernel
theorem dX7_readDark_54 : decode cX7_readDark 54 = .ok (.aload_n 1, 1) := by decide +kernel
theorem dX7_readDark_55 : decode cX7_readDark 55 = .ok (.dup, 1) := by decide +kernel
theorem dX7_readDark_56 : decode cX7_readDark 56 = .ok (.getfield 59, 3) := by decide +kernel
theorem dX7_readDark_59 : decode cX7_readDark 59 = .ok (.iconst 1, 1) := by decide +kernel
theorem dX7_readDark_60 : decode cX7_readDark 60 = .ok (.iadd, 1) := by decide +kernel
theorem dX7_readDark_61 : decode cX7_readDark 61 = .ok (.putfield 59, 3) := by decide +kernel
theorem dX7_readDark_64 : decode cX7_readDark 64 = .ok (.aload_n 0, 1) := by decide +kernel
theorem dX7_readDark_65 : decode cX7_readDark 65 = .ok (.invokevirtual 78, 3) := by decide +kernel
theorem dX7_readDark_68 : decode cX7_readDark 68 = .ok (.ireturn, 1) := by decide +kernel
theorem dX7_nextIsNumber_0 : decode cX7_nextIsNumber 0 = .ok (.aload_n 0, 1) := by decide +kernel
theorem dX7_nextIsNumber_1 : decode cX7_nextIsNumber 1 = .ok (.invokevirtual 40, 3) := by decide +kernel
theorem dX7_nextIsNumber_4 : decode cX7_nextIsNumber 4 = .ok (.aload_n 0, 1) := by decide +kernel
theorem dX7_nextIsNumber_5 : decode cX7_nextIsNumber 5 = .ok (.getfield 25, 3) := by decide +kernel
theorem dX7_nextIsNumber_8 : decode cX7_nextIsNumber 8 = .ok (.bipush (-2), 2) := by decide +kernel
theorem dX7_nextIsNumber_10 : decode cX7_nextIsNumber 10 = .ok (.if_icmp .ne 19, 3) := by decide +kernel
theorem dX7_nextIsNumber_13 : decode cX7_nextIsNumber 13 = .ok (.aload_n 0, 1) := by decide +kernel
theorem dX7_nextIsNumber_14 : decode cX7_nextIsNumber 14 = .ok (.getfield 28, 3) := by decide +kernel
theorem dX7_nextIsNumber_17 : decode cX7_nextIsNumber 17 = .ok (.iload_n 1, 1) := by decide +kernel
theorem dX7_nextIsNumber_18 : decode cX7_nextIsNumber 18 = .ok (.iload_n 2, 1) := by decide +kernel
theorem dX7_nextIsNumber_19 : decode cX7_nextIsNumber 19 = .ok (.invokestatic 100, 3) := by decide +kernel
theorem dX7_nextIsNumber_22 : decode cX7_nextIsNumber 22 = .ok (.ifCond .eq 7, 3) := by decide +kernel
theorem dX7_nextIsNumber_25 : decode cX7_nextIsNumber 25 = .ok (.iconst 1, 1) := by decide +kernel
theorem dX7_nextIsNumber_26 : decode cX7_nextIsNumber 26 = .ok (.goto 4, 3) := by decide +kernel
theorem dX7_nextIsNumber_29 : decode cX7_nextIsNumber 29 = .ok (.iconst 0, 1) := by decide +kernel
theorem dX7_nextIsNumber_30 : decode cX7_nextIsNumber 30 = .ok (.ireturn, 1) := by decide +kernel
theorem dX7_nextIsItemEnd_0 : decode cX7_nextIsItemEnd 0 = .ok (.aload_n 0, 1) := by decide +kernel
theorem dX7_nextIsItemEnd_1 : decode cX7_nextIsItemEnd 1 = .ok (.invokevirtual 40, 3) := by decide +kernel
theorem dX7_nextIsItemEnd_4 : decode cX7_nextIsItemEnd 4 = .ok (.aload_n 0, 1) := by decide +kernel
theorem dX7_nextIsItemEnd_5 : decode cX7_nextIsItemEnd 5 = .ok (.getfield 25, 3) := by decide +kernel
theorem dX7_nextIsItemEnd_8 : decode cX7_nextIsItemEnd 8 = .ok (.bipush 59, 2) := by decide +kernel
theorem dX7_nextIsItemEnd_10 : decode cX7_nextIsItemEnd 10 = .ok (.if_icmp .ne 7, 3) := by decide +kernel
theorem dX7_nextIsItemEnd_13 : decode cX7_nextIsItemEnd 13 = .ok (.iconst 1, 1) := by decide +kernel
theorem dX7_nextIsItemEnd_14 : decode cX7_nextIsItemEnd 14 = .ok (.goto 4, 3) := by decide +kernel
theorem dX7_nextIsItemEnd_17 : decode cX7_nextIsItemEnd 17 = .ok (.iconst 0, 1) := by decide +kernel
theorem dX7_nextIsItemEnd_18 : decode cX7_nextIsItemEnd 18 = .ok (.ireturn, 1) := by decide +kernel
theorem dX7_next_0 : decode cX7_next 0 = .ok (.aload_n 0, 1) := by decide +kernel
theorem dX7_next_1 : decode cX7_next 1 = .ok (.getfield 22, 3) := by decide +kernel
theorem dX7_next_4 : decode cX7_next 4 = .ok (.aload_n 0, 1) := by decide +kernel
theorem dX7_next_5 : decode cX7_next 5 = .ok (.getfield 15, 3) := by decide +kernel
theorem dX7_next_8 : decode cX7_next 8 = .ok (.if_icmp .ge 30, 3) := by decide +kernel
theorem dX7_next_11 : decode cX7_next 11 = .ok (.aload_n 0, 1) := by decide +kernel
theorem dX7_next_12 : decode cX7_next 12 = .ok (.getfield 9, 3) := by decide +kernel
theorem dX7_next_15 : decode cX7_next 15 = .ok (.aload_n 0, 1) := by decide +kernel
theorem dX7_next_16 : decode cX7_next 16 = .ok (.getfield 22, 3) := by decide +kernel
theorem dX7_next_19 : decode cX7_next 19 = .ok (.iaload, 1) := by decide +kernel
theorem dX7_next_20 : decode cX7_next 20 = .ok (.bipush 32, 2) := by decide +kernel
theorem dX7_next_22 : decode cX7_next 22 = .ok (.if_icmp .ne 16, 3) := by decide +kernel
theorem dX7_next_25 : decode cX7_next 25 = .ok (.aload_n 0, 1) := by decide +kernel
theorem dX7_next_26 : decode cX7_next 26 = .ok (.dup, 1) := by decide +kernel
theorem dX7_next_27 : decode cX7_next 27 = .ok (.getfield 22, 3) := by decide +kernel
theorem dX7_next_30 : decode cX7_next 30 = .ok (.iconst 1, 1) := by decide +kernel
theorem dX7_next_31 : decode cX7_next 31 = .ok (.iadd, 1) := by decide +kernel
theorem dX7_next_32 : decode cX7_next 32 = .ok (.putfield 22, 3) := by decide +kernel
theorem dX7_next_35 : decode cX7_next 35 = .ok (.goto (-35), 3) := by decide +kernel
theorem dX7_next_38 : decode cX7_next 38 = .ok (.aload_n 0, 1) := by decide +kernel
theorem dX7_next_39 : decode cX7_next 39 = .ok (.aload_n 0, 1) := by decide +kernel
theorem dX7_next_40 : decode cX7_next 40 = .ok (.getfield 22, 3) := by decide +kernel
theorem dX7_next_43 : decode cX7_next 43 = .ok (.putfield 19, 3) := by decide +kernel
theorem dX7_next_46 : decode cX7_next 46 = .ok (.aload_n 0, 1) := by decide +kernel
theorem dX7_next_47 : decode cX7_next 47 = .ok (.getfield 22, 3) := by decide +kernel
theorem dX7_next_50 : decode cX7_next 50 = .ok (.aload_n 0, 1) := by decide +kernel
theorem dX7_next_51 : decode cX7_next 51 = .ok (.getfield 15, 3) := by decide +kernel
theorem dX7_next_54 : decode cX7_next 54 = .ok (.if_icmp .lt 11, 3) := by decide +kernel
theorem dX7_next_57 : decode cX7_next 57 = .ok (.aload_n 0, 1) := by decide +kernel
theorem dX7_next_58 : decode cX7_next 58 = .ok (.iconst (-1), 1) := by decide +kernel
theorem dX7_next_59 : decode cX7_next 59 = .ok (.putfield 25, 3) := by decide +kernel
theorem dX7_next_62 : decode cX7_next 62 = .ok (.goto 68, 3) := by decide +kernel
theorem dX7_next_65 : decode cX7_next 65 = .ok (.aload_n 0, 1) := by decide +kernel
theorem dX7_next_66 : decode cX7_next 66 = .ok (.getfield 9, 3) := by decide +kernel
theorem dX7_next_69 : decode cX7_next 69 = .ok (.aload_n 0, 1) := by decide +kernel
theorem dX7_next_70 : decode cX7_next 70 = .ok (.getfield 22, 3) := by decide +kernel
theorem dX7_next_73 : decode cX7_next 73 = .ok (.iaload, 1) := by decide +kernel
theorem dX7_next_74 : decode cX7_next 74 = .ok (.invokestatic 104, 3) := by decide +kernel
theorem dX7_next_77 : decode cX7_next 77 = .ok (.ifCond .eq 10, 3) := by decide +kernel
theorem dX7_next_80 : decode cX7_next 80 = .ok (.aload_n 0, 1) := by decide +kernel
theorem dX7_next_81 : decode cX7_next 81 = .ok (.invokevirtual 108, 3) := by decide +kernel
theorem dX7_next_84 : decode cX7_next 84 = .ok (.goto 46, 3) := by decide +kernel
theorem dX7_next_87 : decode cX7_next 87 = .ok (.aload_n 0, 1) := by decide +kernel
theorem dX7_next_88 : decode cX7_next 88 = .ok (.aload_n 0, 1) := by decide +kernel
theorem dX7_next_89 : decode cX7_next 89 = .ok (.getfield 9, 3) := by decide +kernel
theorem dX7_next_92 : decode cX7_next 92 = .ok (.aload_n 0, 1) := by decide +kernel
theorem dX7_next_93 : decode cX7_next 93 = .ok (.getfield 22, 3) := by decide +kernel
theorem dX7_next_96 : decode cX7_next 96 = .ok (.iaload, 1) := by decide +kernel
theorem dX7_next_97 : decode cX7_next 97 = .ok (.invokestatic 111, 3) := by decide +kernel
theorem dX7_next_100 : decode cX7_next 100 = .ok (.ifCond .eq 15, 3) := by decide +kernel
theorem dX7_next_103 : decode cX7_next 103 = .ok (.aload_n 0, 1) := by decide +kernel
theorem dX7_next_104 : decode cX7_next 104 = .ok (.getfield 9, 3) := by decide +kernel
theorem dX7_next_107 : decode cX7_next 107 = .ok (.aload_n 0, 1) := by decide +kernel
theorem dX7_next_108 : decode cX7_next 108 = .ok (.getfield 22, 3) := by decide +kernel
theorem dX7_next_111 : decode cX7_next 111 = .ok (.iaload, 1) := by decide +kernel
theorem dX7_next_112 : decode cX7_next 112 = .ok (.goto 5, 3) := by decide +kernel
theorem dX7_next_115 : decode cX7_next 115 = .ok (.bipush (-3), 2) := by decide +kernel
theorem dX7_next_117 : decode cX7_next 117 = .ok (.putfield 25, 3) := by decide +kernel
theorem dX7_next_120 : decode cX7_next 120 = .ok (.aload_n 0, 1) := by decide +kernel
theorem dX7_next_121 : decode cX7_next 121 = .ok (.dup, 1) := by decide +kernel
theorem dX7_next_122 : decode cX7_next 122 = .ok (.getfield 22, 3) := by decide +kernel
theorem dX7_next_125 : decode cX7_next 125 = .ok (.iconst 1, 1) := by decide +kernel
theorem dX7_next_126 : decode cX7_next 126 = .ok (.iadd, 1) := by decide +kernel
theorem dX7_next_127 : decode cX7_next 127 = .ok (.putfield 22, 3) := by decide +kernel
theorem dX7_next_130 : decode cX7_next 130 = .ok (.return_, 1) := by decide +kernel
theorem dX7_scanNumber_0 : decode cX7_scanNumber 0 = .ok (.aload_n 0, 1) := by decide +kernel
theorem dX7_scanNumber_1 : decode cX7_scanNumber 1 = .ok (.iconst 0, 1) := by decide +kernel
theorem dX7_scanNumber_2 : decode cX7_scanNumber 2 = .ok (.putfield 28, 3) := by decide +kernel
theorem dX7_scanNumber_5 : decode cX7_scanNumber 5 = .ok (.aload_n 0, 1) := by decide +kernel
theorem dX7_scanNumber_6 : decode cX7_scanNumber 6 = .ok (.getfield 22, 3) := by decide +kernel
theorem dX7_scanNumber_9 : decode cX7_scanNumber 9 = .ok (.aload_n 0, 1) := by decide +kernel
theorem dX7_scanNumber_10 : decode cX7_scanNumber 10 = .ok (.getfield 15, 3) := by decide +kernel
theorem dX7_scanNumber_13 : decode cX7_scanNumber 13 = .ok (.if_icmp .ge 60, 3) := by decide +kernel
theorem dX7_scanNumber_16 : decode cX7_scanNumber 16 = .ok (.aload_n 0, 1) := by decide +kernel
theorem dX7_scanNumber_17 : decode cX7_scanNumber 17 = .ok (.getfield 9, 3) := by decide +kernel
theorem dX7_scanNumber_20 : decode cX7_scanNumber 20 = .ok (.aload_n 0, 1) := by decide +kernel
theorem dX7_scanNumber_21 : decode cX7_scanNumber 21 = .ok (.getfield 22, 3) := by decide +kernel
theorem dX7_scanNumber_24 : decode cX7_scanNumber 24 = .ok (.iaload, 1) := by decide +kernel
theorem dX7_scanNumber_25 : decode cX7_scanNumber 25 = .ok (.invokestatic 104, 3) := by decide +kernel
theorem dX7_scanNumber_28 : decode cX7_scanNumber 28 = .ok (.ifCond .eq 45, 3) := by decide +kernel
theorem dX7_scanNumber_31 : decode cX7_scanNumber 31 = .ok (.aload_n 0, 1) := by decide +kernel
theorem dX7_scanNumber_32 : decode cX7_scanNumber 32 = .ok (.bipush 101, 2) := by decide +kernel
theorem dX7_scanNumber_34 : decode cX7_scanNumber 34 = .ok (.aload_n 0, 1) := by decide +kernel
theorem dX7_scanNumber_35 : decode cX7_scanNumber 35 = .ok (.getfield 28, 3) := by decide +kernel
theorem dX7_scanNumber_38 : decode cX7_scanNumber 38 = .ok (.bipush 10, 2) := by decide +kernel
theorem dX7_scanNumber_40 : decode cX7_scanNumber 40 = .ok (.imul, 1) := by decide +kernel
theorem dX7_scanNumber_41 : decode cX7_scanNumber 41 = .ok (.aload_n 0, 1) := by decide +kernel
theorem dX7_scanNumber_42 : decode cX7_scanNumber 42 = .ok (.getfield 9, 3) := by decide +kernel
theorem dX7_scanNumber_45 : decode cX7_scanNumber 45 = .ok (.aload_n 0, 1) := by decide +kernel
theorem dX7_scanNumber_46 : decode cX7_scanNumber 46 = .ok (.getfield 22, 3) := by decide +kernel
theorem dX7_scanNumber_49 : decode cX7_scanNumber 49 = .ok (.iaload, 1) := by decide +kernel
theorem dX7_scanNumber_50 : decode cX7_scanNumber 50 = .ok (.iadd, 1) := by decide +kernel
theorem dX7_scanNumber_51 : decode cX7_scanNumber 51 = .ok (.bipush 48, 2) := by decide +kernel
theorem dX7_scanNumber_53 : decode cX7_scanNumber 53 = .ok (.isub, 1) := by decide +kernel
theorem dX7_scanNumber_54 : decode cX7_scanNumber 54 = .ok (.invokestatic 114, 3) := by decide +kernel
theorem dX7_scanNumber_57 : decode cX7_scanNumber 57 = .ok (.putfield 28, 3) := by decide +kernel
theorem dX7_scanNumber_60 : decode cX7_scanNumber 60 = .ok (.aload_n 0, 1) := by decide +kernel
theorem dX7_scanNumber_61 : decode cX7_scanNumber 61 = .ok (.dup, 1) := by decide +kernel
theorem dX7_scanNumber_62 : decode cX7_scanNumber 62 = .ok (.getfield 22, 3) := by decide +kernel
theorem dX7_scanNumber_65 : decode cX7_scanNumber 65 = .ok (.iconst 1, 1) := by decide +kernel
theorem dX7_scanNumber_66 : decode cX7_scanNumber 66 = .ok (.iadd, 1) := by decide +kernel
theorem dX7_scanNumber_67 : decode cX7_scanNumber 67 = .ok (.putfield 22, 3) := by decide +kernel
theorem dX7_scanNumber_70 : decode cX7_scanNumber 70 = .ok (.goto (-65), 3) := by decide +kernel
theorem dX7_scanNumber_73 : decode cX7_scanNumber 73 = .ok (.aload_n 0, 1) := by decide +kernel
theorem dX7_scanNumber_74 : decode cX7_scanNumber 74 = .ok (.getfield 9, 3) := by decide +kernel
theorem dX7_scanNumber_77 : decode cX7_scanNumber 77 = .ok (.aload_n 0, 1) := by decide +kernel
theorem dX7_scanNumber_78 : decode cX7_scanNumber 78 = .ok (.getfield 19, 3) := by decide +kernel
theorem dX7_scanNumber_81 : decode cX7_scanNumber 81 = .ok (.iaload, 1) := by decide +kernel
theorem dX7_scanNumber_82 : decode cX7_scanNumber 82 = .ok (.bipush 48, 2) := by decide +kernel
theorem dX7_scanNumber_84 : decode cX7_scanNumber 84 = .ok (.if_icmp .ne 20, 3) := by decide +kernel
theorem dX7_scanNumber_87 : decode cX7_scanNumber 87 = .ok (.aload_n 0, 1) := by decide +kernel
theorem dX7_scanNumber_88 : decode cX7_scanNumber 88 = .ok (.getfield 22, 3) := by decide +kernel
theorem dX7_scanNumber_91 : decode cX7_scanNumber 91 = .ok (.aload_n 0, 1) := by decide +kernel
theorem dX7_scanNumber_92 : decode cX7_scanNumber 92 = .ok (.getfield 19, 3) := by decide +kernel
theorem dX7_scanNumber_95 : decode cX7_scanNumber 95 = .ok (.isub, 1) := by decide +kernel
theorem dX7_scanNumber_96 : decode cX7_scanNumber 96 = .ok (.iconst 1, 1) := by decide +kernel
theorem dX7_scanNumber_97 : decode cX7_scanNumber 97 = .ok (.if_icmp .le 7, 3) := by decide +kernel
theorem dX7_scanNumber_100 : decode cX7_scanNumber 100 = .ok (.iconst 1, 1) := by decide +kernel
theorem dX7_scanNumber_101 : decode cX7_scanNumber 101 = .ok (.goto 4, 3) := by decide +kernel
theorem dX7_scanNumber_104 : decode cX7_scanNumber 104 = .ok (.iconst 0, 1) := by decide +kernel
theorem dX7_scanNumber_105 : decode cX7_scanNumber 105 = .ok (.istore_n 1, 1) := by decide +kernel
theorem dX7_scanNumber_106 : decode cX7_scanNumber 106 = .ok (.aload_n 0, 1) := by decide +kernel
theorem dX7_scanNumber_107 : decode cX7_scanNumber 107 = .ok (.iload_n 1, 1) := by decide +kernel
theorem dX7_scanNumber_108 : decode cX7_scanNumber 108 = .ok (.ifCond .ne 12, 3) := by decide +kernel
theorem dX7_scanNumber_111 : decode cX7_scanNumber 111 = .ok (.aload_n 0, 1) := by decide +kernel
theorem dX7_scanNumber_112 : decode cX7_scanNumber 112 = .ok (.getfield 28, 3) := by decide +kernel
theorem dX7_scanNumber_115 : decode cX7_scanNumber 115 = .ok (.bipush 100, 2) := by decide +kernel
theorem dX7_scanNumber_117 : decode cX7_scanNumber 117 = .ok (.if_icmp .le 8, 3) := by decide +kernel
theorem dX7_scanNumber_120 : decode cX7_scanNumber 120 = .ok (.bipush (-3), 2) := by decide +kernel
theorem dX7_scanNumber_122 : decode cX7_scanNumber 122 = .ok (.goto 5, 3) := by decide +kernel
theorem dX7_scanNumber_125 : decode cX7_scanNumber 125 = .ok (.bipush (-2), 2) := by decide +kernel
theorem dX7_scanNumber_127 : decode cX7_scanNumber 127 = .ok (.putfield 25, 3) := by decide +kernel
theorem dX7_scanNumber_130 : decode cX7_scanNumber 130 = .ok (.return_, 1) := by decide +kernel
theorem dX7_isDigit_0 : decode cX7_isDigit 0 = .ok (.iload_n 0, 1) := by decide +kernel
theorem dX7_isDigit_1 : decode cX7_isDigit 1 = .ok (.bipush 48, 2) := by decide +kernel
theorem dX7_isDigit_3 : decode cX7_isDigit 3 = .ok (.if_icmp .lt 13, 3) := by decide +kernel
theorem dX7_isDigit_6 : decode cX7_isDigit 6 = .ok (.iload_n 0, 1) := by decide +kernel
theorem dX7_isDigit_7 : decode cX7_isDigit 7 = .ok (.bipush 57, 2) := by decide +kernel
theorem dX7_isDigit_9 : decode cX7_isDigit 9 = .ok (.if_icmp .gt 7, 3) := by decide +kernel
theorem dX7_isDigit_12 : decode cX7_isDigit 12 = .ok (.iconst 1, 1) := by decide +kernel
theorem dX7_isDigit_13 : decode cX7_isDigit 13 = .ok (.goto 4, 3) := by decide +kernel
theorem dX7_isDigit_16 : decode cX7_isDigit 16 = .ok (.iconst 0, 1) := by decide +kernel
theorem dX7_isDigit_17 : decode cX7_isDigit 17 = .ok (.ireturn, 1) := by decide +kernel
theorem dX7_isSign_0 : decode cX7_isSign 0 = .ok (.iload_n 0, 1) := by decide +kernel
theorem dX7_isSign_1 : decode cX7_isSign 1 = .ok (.bipush 116, 2) := by decide +kernel
theorem dX7_isSign_3 : decode cX7_isSign 3 = .ok (.if_icmp .eq 27, 3) := by decide +kernel
theorem dX7_isSign_6 : decode cX7_isSign 6 = .ok (.iload_n 0, 1) := by decide +kernel
theorem dX7_isSign_7 : decode cX7_isSign 7 = .ok (.bipush 104, 2) := by decide +kernel
theorem dX7_isSign_9 : decode cX7_isSign 9 = .ok (.if_icmp .eq 21, 3) := by decide +kernel
theorem dX7_isSign_12 : decode cX7_isSign 12 = .ok (.iload_n 0, 1) := by decide +kernel
theorem dX7_isSign_13 : decode cX7_isSign 13 = .ok (.bipush 99, 2) := by decide +kernel
theorem dX7_isSign_15 : decode cX7_isSign 15 = .ok (.if_icmp .eq 15, 3) := by decide +kernel
theorem dX7_isSign_18 : decode cX7_isSign 18 = .ok (.iload_n 0, 1) := by decide +kernel
theorem dX7_isSign_19 : decode cX7_isSign 19 = .ok (.bipush 100, 2) := by decide +kernel
theorem dX7_isSign_21 : decode cX7_isSign 21 = .ok (.if_icmp .eq 9, 3) := by decide +kernel
theorem dX7_isSign_24 : decode cX7_isSign 24 = .ok (.iload_n 0, 1) := by decide +kernel
theorem dX7_isSign_25 : decode cX7_isSign 25 = .ok (.bipush 59, 2) := by decide +kernel
theorem dX7_isSign_27 : decode cX7_isSign 27 = .ok (.if_icmp .ne 7, 3) := by decide +kernel
theorem dX7_isSign_30 : decode cX7_isSign 30 = .ok (.iconst 1, 1) := by decide +kernel
theorem dX7_isSign_31 : decode cX7_isSign 31 = .ok (.goto 4, 3) := by decide +kernel
theorem dX7_isSign_34 : decode cX7_isSign 34 = .ok (.iconst 0, 1) := by decide +kernel
theorem dX7_isSign_35 : decode cX7_isSign 35 = .ok (.ireturn, 1) := by decide +kernel
theorem dX8_init_0 : decode cX8_init 0 = .ok (.aload_n 0, 1) := by decide +kernel
theorem dX8_init_1 : decode cX8_init 1 = .ok (.invokespecial 1, 3) := by decide +kernel
theorem dX8_init_4 : decode cX8_init 4 = .ok (.return_, 1) := by decide +kernel
theorem dX8_worth_0 : decode cX8_worth 0 = .ok (.aload_n 1, 1) := by decide +kernel
theorem dX8_worth_1 : decode cX8_worth 1 = .ok (.dup, 1) := by decide +kernel
theorem dX8_worth_2 : decode cX8_worth 2 = .ok (.getfield 7, 3) := by decide +kernel
theorem dX8_worth_5 : decode cX8_worth 5 = .ok (.ldc2_w 13, 3) := by decide +kernel
theorem dX8_worth_8 : decode cX8_worth 8 = .ok (.ladd, 1) := by decide +kernel
theorem dX8_worth_9 : decode cX8_worth 9 = .ok (.putfield 7, 3) := by decide +kernel
theorem dX8_worth_12 : decode cX8_worth 12 = .ok (.aload_n 0, 1) := by decide +kernel
theorem dX8_worth_13 : decode cX8_worth 13 = .ok (.aload_n 1, 1) := by decide +kernel
theorem dX8_worth_14 : decode cX8_worth 14 = .ok (.iload_n 2, 1) := by decide +kernel
theorem dX8_worth_15 : decode cX8_worth 15 = .ok (.invokespecial 15, 3) := by decide +kernel
theorem dX8_worth_18 : decode cX8_worth 18 = .ok (.aload_n 1, 1) := by decide +kernel
theorem dX8_worth_19 : decode cX8_worth 19 = .ok (.getfield 19, 3) := by decide +kernel
theorem dX8_worth_22 : decode cX8_worth 22 = .ok (.getfield 23, 3) := by decide +kernel
theorem dX8_worth_25 : decode cX8_worth 25 = .ok (.iload_n 2, 1) := by decide +kernel
theorem dX8_worth_26 : decode cX8_worth 26 = .ok (.iaload, 1) := by decide +kernel
theorem dX8_worth_27 : decode cX8_worth 27 = .ok (.iadd, 1) := by decide +kernel
theorem dX8_worth_28 : decode cX8_worth 28 = .ok (.ireturn, 1) := by decide +kernel
theorem dX9_init_0 : decode cX9_init 0 = .ok (.aload_n 0, 1) := by decide +kernel
theorem dX9_init_1 : decode cX9_init 1 = .ok (.invokespecial 1, 3) := by decide +kernel
theorem dX9_init_4 : decode cX9_init 4 = .ok (.return_, 1) := by decide +kernel
theorem dX9_worth_0 : decode cX9_worth 0 = .ok (.aload_n 1, 1) := by decide +kernel
theorem dX9_worth_1 : decode cX9_worth 1 = .ok (.dup, 1) := by decide +kernel
theorem dX9_worth_2 : decode cX9_worth 2 = .ok (.getfield 7, 3) := by decide +kernel
theorem dX9_worth_5 : decode cX9_worth 5 = .ok (.lconst 1, 1) := by decide +kernel
theorem dX9_worth_6 : decode cX9_worth 6 = .ok (.ladd, 1) := by decide +kernel
theorem dX9_worth_7 : decode cX9_worth 7 = .ok (.putfield 7, 3) := by decide +kernel
theorem dX9_worth_10 : decode cX9_worth 10 = .ok (.aload_n 1, 1) := by decide +kernel
theorem dX9_worth_11 : decode cX9_worth 11 = .ok (.getfield 13, 3) := by decide +kernel
theorem dX9_worth_14 : decode cX9_worth 14 = .ok (.getfield 17, 3) := by decide +kernel
theorem dX9_worth_17 : decode cX9_worth 17 = .ok (.iload_n 2, 1) := by decide +kernel
theorem dX9_worth_18 : decode cX9_worth 18 = .ok (.iaload, 1) := by decide +kernel
theorem dX9_worth_19 : decode cX9_worth 19 = .ok (.ireturn, 1) := by decide +kernel
theorem dX10_init_0 : decode cX10_init 0 = .ok (.aload_n 0, 1) := by decide +kernel
theorem dX10_init_1 : decode cX10_init 1 = .ok (.invokespecial 3, 3) := by decide +kernel
theorem dX10_init_4 : decode cX10_init 4 = .ok (.aload_n 0, 1) := by decide +kernel
theorem dX10_init_5 : decode cX10_init 5 = .ok (.iconst 0, 1) := by decide +kernel
theorem dX10_init_6 : decode cX10_init 6 = .ok (.putfield 9, 3) := by decide +kernel
theorem dX10_init_9 : decode cX10_init 9 = .ok (.aload_n 0, 1) := by decide +kernel
theorem dX10_init_10 : decode cX10_init 10 = .ok (.iconst 1, 1) := by decide +kernel
theorem dX10_init_11 : decode cX10_init 11 = .ok (.putfield 15, 3) := by decide +kernel
theorem dX10_init_14 : decode cX10_init 14 = .ok (.aload_n 0, 1) := by decide +kernel
theorem dX10_init_15 : decode cX10_init 15 = .ok (.iconst 0, 1) := by decide +kernel
theorem dX10_init_16 : decode cX10_init 16 = .ok (.putfield 18, 3) := by decide +kernel
theorem dX10_init_19 : decode cX10_init 19 = .ok (.aload_n 0, 1) := by decide +kernel
theorem dX10_init_20 : decode cX10_init 20 = .ok (.iconst 0, 1) := by decide +kernel
theorem dX10_init_21 : decode cX10_init 21 = .ok (.putfield 21, 3) := by decide +kernel
theorem dX10_init_24 : decode cX10_init 24 = .ok (.aload_n 0, 1) := by decide +kernel
theorem dX10_init_25 : decode cX10_init 25 = .ok (.iconst 5, 1) := by decide +kernel
theorem dX10_init_26 : decode cX10_init 26 = .ok (.newarray .int, 2) := by decide +kernel
theorem dX10_init_28 : decode cX10_init 28 = .ok (.putfield 24, 3) := by decide +kernel
theorem dX10_init_31 : decode cX10_init 31 = .ok (.aload_n 0, 1) := by decide +kernel
theorem dX10_init_32 : decode cX10_init 32 = .ok (.iconst 5, 1) := by decide +kernel
theorem dX10_init_33 : decode cX10_init 33 = .ok (.newarray .int, 2) := by decide +kernel
theorem dX10_init_35 : decode cX10_init 35 = .ok (.putfield 28, 3) := by decide +kernel
theorem dX10_init_38 : decode cX10_init 38 = .ok (.aload_n 0, 1) := by decide +kernel
theorem dX10_init_39 : decode cX10_init 39 = .ok (.iconst 5, 1) := by decide +kernel
theorem dX10_init_40 : decode cX10_init 40 = .ok (.newarray .int, 2) := by decide +kernel
theorem dX10_init_42 : decode cX10_init 42 = .ok (.putfield 31, 3) := by decide +kernel
theorem dX10_init_45 : decode cX10_init 45 = .ok (.aload_n 0, 1) := by decide +kernel
theorem dX10_init_46 : decode cX10_init 46 = .ok (.bipush 8, 2) := by decide +kernel
theorem dX10_init_48 : decode cX10_init 48 = .ok (.newarray .int, 2) := by decide +kernel
theorem dX10_init_50 : decode cX10_init 50 = .ok (.putfield 34, 3) := by decide +kernel
theorem dX10_init_53 : decode cX10_init 53 = .ok (.aload_n 0, 1) := by decide +kernel
theorem dX10_init_54 : decode cX10_init 54 = .ok (.bipush 8, 2) := by decide +kernel
theorem dX10_init_56 : decode cX10_init 56 = .ok (.newarray .int, 2) := by decide +kernel
theorem dX10_init_58 : decode cX10_init 58 = .ok (.putfield 37, 3) := by decide +kernel
theorem dX10_init_61 : decode cX10_init 61 = .ok (.aload_n 0, 1) := by decide +kernel
theorem dX10_init_62 : decode cX10_init 62 = .ok (.bipush 8, 2) := by decide +kernel
theorem dX10_init_64 : decode cX10_init 64 = .ok (.newarray .int, 2) := by decide +kernel
theorem dX10_init_66 : decode cX10_init 66 = .ok (.putfield 40, 3) := by decide +kernel
theorem dX10_init_69 : decode cX10_init 69 = .ok (.aload_n 0, 1) := by decide +kernel
theorem dX10_init_70 : decode cX10_init 70 = .ok (.iconst 2, 1) := by decide +kernel
theorem dX10_init_71 : decode cX10_init 71 = .ok (.newarray .int, 2) := by decide +kernel
theorem dX10_init_73 : decode cX10_init 73 = .ok (.putfield 43, 3) := by decide +kernel
theorem dX10_init_76 : decode cX10_init 76 = .ok (.aload_n 0, 1) := by decide +kernel
theorem dX10_init_77 : decode cX10_init 77 = .ok (.iconst 2, 1) := by decide +kernel
theorem dX10_init_78 : decode cX10_init 78 = .ok (.newarray .int, 2) := by decide +kernel
theorem dX10_init_80 : decode cX10_init 80 = .ok (.putfield 46, 3) := by decide +kernel
theorem dX10_init_83 : decode cX10_init 83 = .ok (.return_, 1) := by decide +kernel
theorem dX10_empty_0 : decode cX10_empty 0 = .ok (.aload_n 0, 1) := by decide +kernel
theorem dX10_empty_1 : decode cX10_empty 1 = .ok (.iconst 0, 1) := by decide +kernel
theorem dX10_empty_2 : decode cX10_empty 2 = .ok (.putfield 9, 3) := by decide +kernel
theorem dX10_empty_5 : decode cX10_empty 5 = .ok (.aload_n 0, 1) := by decide +kernel
theorem dX10_empty_6 : decode cX10_empty 6 = .ok (.iconst 1, 1) := by decide +kernel
theorem dX10_empty_7 : decode cX10_empty 7 = .ok (.putfield 15, 3) := by decide +kernel
theorem dX10_empty_10 : decode cX10_empty 10 = .ok (.aload_n 0, 1) := by decide +kernel
theorem dX10_empty_11 : decode cX10_empty 11 = .ok (.iconst 0, 1) := by decide +kernel
theorem dX10_empty_12 : decode cX10_empty 12 = .ok (.putfield 18, 3) := by decide +kernel
theorem dX10_empty_15 : decode cX10_empty 15 = .ok (.aload_n 0, 1) := by decide +kernel
theorem dX10_empty_16 : decode cX10_empty 16 = .ok (.iconst 0, 1) := by decide +kernel
theorem dX10_empty_17 : decode cX10_empty 17 = .ok (.putfield 21, 3) := by decide +kernel
theorem dX10_empty_20 : decode cX10_empty 20 = .ok (.return_, 1) := by decide +kernel
theorem dX10_take_0 : decode cX10_take 0 = .ok (.aload_n 0, 1) := by decide +kernel
theorem dX10_take_1 : decode cX10_take 1 = .ok (.aload_n 1, 1) := by decide +kernel
theorem dX10_take_2 : decode cX10_take 2 = .ok (.getfield 9, 3) := by decide +kernel
theorem dX10_take_5 : decode cX10_take 5 = .ok (.putfield 9, 3) := by decide +kernel
theorem dX10_take_8 : decode cX10_take 8 = .ok (.aload_n 0, 1) := by decide +kernel
theorem dX10_take_9 : decode cX10_take 9 = .ok (.aload_n 1, 1) := by decide +kernel
theorem dX10_take_10 : decode cX10_take 10 = .ok (.getfield 15, 3) := by decide +kernel
theorem dX10_take_13 : decode cX10_take 13 = .ok (.putfield 15, 3) := by decide +kernel
theorem dX10_take_16 : decode cX10_take 16 = .ok (.aload_n 0, 1) := by decide +kernel
theorem dX10_take_17 : decode cX10_take 17 = .ok (.aload_n 1, 1) := by decide +kernel
theorem dX10_take_18 : decode cX10_take 18 = .ok (.getfield 18, 3) := by decide +kernel
theorem dX10_take_21 : decode cX10_take 21 = .ok (.putfield 18, 3) := by decide +kernel
theorem dX10_take_24 : decode cX10_take 24 = .ok (.aload_n 0, 1) := by decide +kernel
theorem dX10_take_25 : decode cX10_take 25 = .ok (.aload_n 1, 1) := by decide +kernel
theorem dX10_take_26 : decode cX10_take 26 = .ok (.getfield 21, 3) := by decide +kernel
theorem dX10_take_29 : decode cX10_take 29 = .ok (.putfield 21, 3) := by decide +kernel
theorem dX10_take_32 : decode cX10_take 32 = .ok (.aload_n 1, 1) := by decide +kernel
theorem dX10_take_33 : decode cX10_take 33 = .ok (.getfield 24, 3) := by decide +kernel
theorem dX10_take_36 : decode cX10_take 36 = .ok (.iconst 0, 1) := by decide +kernel
theorem dX10_take_37 : decode cX10_take 37 = .ok (.aload_n 0, 1) := by decide +kernel
theorem dX10_take_38 : decode cX10_take 38 = .ok (.getfield 24, 3) := by decide +kernel
theorem dX10_take_41 : decode cX10_take 41 = .ok (.iconst 0, 1) := by decide +kernel
theorem dX10_take_42 : decode cX10_take 42 = .ok (.iconst 5, 1) := by decide +kernel
theorem dX10_take_43 : decode cX10_take 43 = .ok (.invokestatic 49, 3) := by decide +kernel
theorem dX10_take_46 : decode cX10_take 46 = .ok (.aload_n 1, 1) := by decide +kernel
theorem dX10_take_47 : decode cX10_take 47 = .ok (.getfield 28, 3) := by decide +kernel
theorem dX10_take_50 : decode cX10_take 50 = .ok (.iconst 0, 1) := by decide +kernel
theorem dX10_take_51 : decode cX10_take 51 = .ok (.aload_n 0, 1) := by decide +kernel
theorem dX10_take_52 : decode cX10_take 52 = .ok (.getfield 28, 3) := by decide +kernel
theorem dX10_take_55 : decode cX10_take 55 = .ok (.iconst 0, 1) := by decide +kernel
theorem dX10_take_56 : decode cX10_take 56 = .ok (.iconst 5, 1) := by decide +kernel
theorem dX10_take_57 : decode cX10_take 57 = .ok (.invokestatic 49, 3) := by decide +kernel
theorem dX10_take_60 : decode cX10_take 60 = .ok (.aload_n 1, 1) := by decide +kernel
theorem dX10_take_61 : decode cX10_take 61 = .ok (.getfield 31, 3) := by decide +kernel
theorem dX10_take_64 : decode cX10_take 64 = .ok (.iconst 0, 1) := by decide +kernel
theorem dX10_take_65 : decode cX10_take 65 = .ok (.aload_n 0, 1) := by decide +kernel
theorem dX10_take_66 : decode cX10_take 66 = .ok (.getfield 31, 3) := by decide +kernel
theorem dX10_take_69 : decode cX10_take 69 = .ok (.iconst 0, 1) := by decide +kernel
theorem dX10_take_70 : decode cX10_take 70 = .ok (.iconst 5, 1) := by decide +kernel
theorem dX10_take_71 : decode cX10_take 71 = .ok (.invokestatic 49, 3) := by decide +kernel
theorem dX10_take_74 : decode cX10_take 74 = .ok (.aload_n 1, 1) := by decide +kernel
theorem dX10_take_75 : decode cX10_take 75 = .ok (.getfield 34, 3) := by decide +kernel
theorem dX10_take_78 : decode cX10_take 78 = .ok (.iconst 0, 1) := by decide +kernel
theorem dX10_take_79 : decode cX10_take 79 = .ok (.aload_n 0, 1) := by decide +kernel
theorem dX10_take_80 : decode cX10_take 80 = .ok (.getfield 34, 3) := by decide +kernel
theorem dX10_take_83 : decode cX10_take 83 = .ok (.iconst 0, 1) := by decide +kernel
theorem dX10_take_84 : decode cX10_take 84 = .ok (.bipush 8, 2) := by decide +kernel
theorem dX10_take_86 : decode cX10_take 86 = .ok (.invokestatic 49, 3) := by decide +kernel
theorem dX10_take_89 : decode cX10_take 89 = .ok (.aload_n 1, 1) := by decide +kernel
theorem dX10_take_90 : decode cX10_take 90 = .ok (.getfield 37, 3) := by decide +kernel
theorem dX10_take_93 : decode cX10_take 93 = .ok (.iconst 0, 1) := by decide +kernel
theorem dX10_take_94 : decode cX10_take 94 = .ok (.aload_n 0, 1) := by decide +kernel
theorem dX10_take_95 : decode cX10_take 95 = .ok (.getfield 37, 3) := by decide +kernel
theorem dX10_take_98 : decode cX10_take 98 = .ok (.iconst 0, 1) := by decide +kernel
theorem dX10_take_99 : decode cX10_take 99 = .ok (.bipush 8, 2) := by decide +kernel
theorem dX10_take_101 : decode cX10_take 101 = .ok (.invokestatic 49, 3) := by decide +kernel
theorem dX10_take_104 : decode cX10_take 104 = .ok (.aload_n 1, 1) := by decide +kernel
theorem dX10_take_105 : decode cX10_take 105 = .ok (.getfield 40, 3) := by decide +kernel
theorem dX10_take_108 : decode cX10_take 108 = .ok (.iconst 0, 1) := by decide +kernel
theorem dX10_take_109 : decode cX10_take 109 = .ok (.aload_n 0, 1) := by decide +kernel
theorem dX10_take_110 : decode cX10_take 110 = .ok (.getfield 40, 3) := by decide +kernel
theorem dX10_take_113 : decode cX10_take 113 = .ok (.iconst 0, 1) := by decide +kernel
theorem dX10_take_114 : decode cX10_take 114 = .ok (.bipush 8, 2) := by decide +kernel
theorem dX10_take_116 : decode cX10_take 116 = .ok (.invokestatic 49, 3) := by decide +kernel
theorem dX10_take_119 : decode cX10_take 119 = .ok (.aload_n 1, 1) := by decide +kernel
theorem dX10_take_120 : decode cX10_take 120 = .ok (.getfield 43, 3) := by decide +kernel
theorem dX10_take_123 : decode cX10_take 123 = .ok (.iconst 0, 1) := by decide +kernel
theorem dX10_take_124 : decode cX10_take 124 = .ok (.aload_n 0, 1) := by decide +kernel
theorem dX10_take_125 : decode cX10_take 125 = .ok (.getfield 43, 3) := by decide +kernel
theorem dX10_take_128 : decode cX10_take 128 = .ok (.iconst 0, 1) := by decide +kernel
theorem dX10_take_129 : decode cX10_take 129 = .ok (.iconst 2, 1) := by decide +kernel
theorem dX10_take_130 : decode cX10_take 130 = .ok (.invokestatic 49, 3) := by decide +kernel
theorem dX10_take_133 : decode cX10_take 133 = .ok (.aload_n 1, 1) := by decide +kernel
theorem dX10_take_134 : decode cX10_take 134 = .ok (.getfield 46, 3) := by decide +kernel
theorem dX10_take_137 : decode cX10_take 137 = .ok (.iconst 0, 1) := by decide +kernel
theorem dX10_take_138 : decode cX10_take 138 = .ok (.aload_n 0, 1) := by decide +kernel
theorem dX10_take_139 : decode cX10_take 139 = .ok (.getfield 46, 3) := by decide +kernel
theorem dX10_take_142 : decode cX10_take 142 = .ok (.iconst 0, 1) := by decide +kernel
theorem dX10_take_143 : decode cX10_take 143 = .ok (.iconst 2, 1) := by decide +kernel
theorem dX10_take_144 : decode cX10_take 144 = .ok (.invokestatic 49, 3) := by decide +kernel
theorem dX10_take_147 : decode cX10_take 147 = .ok (.return_, 1) := by decide +kernel
theorem dX10_canBeOn_0 : decode cX10_canBeOn 0 = .ok (.iload_n 1, 1) := by decide +kernel
theorem dX10_canBeOn_1 : decode cX10_canBeOn 1 = .ok (.ifCond .lt 28, 3) := by decide +kernel
theorem dX10_canBeOn_4 : decode cX10_canBeOn 4 = .ok (.iload_n 1, 1) := by decide +kernel
theorem dX10_canBeOn_5 : decode cX10_canBeOn 5 = .ok (.iconst 1, 1) := by decide +kernel
theorem dX10_canBeOn_6 : decode cX10_canBeOn 6 = .ok (.aload_n 0, 1) := by decide +kernel
theorem dX10_canBeOn_7 : decode cX10_canBeOn 7 = .ok (.getfield 9, 3) := by decide +kernel
theorem dX10_canBeOn_10 : decode cX10_canBeOn 10 = .ok (.ishl, 1) := by decide +kernel
theorem dX10_canBeOn_11 : decode cX10_canBeOn 11 = .ok (.if_icmp .ge 18, 3) := by decide +kernel
theorem dX10_canBeOn_14 : decode cX10_canBeOn 14 = .ok (.iload_n 1, 1) := by decide +kernel
theorem dX10_canBeOn_15 : decode cX10_canBeOn 15 = .ok (.invokestatic 55, 3) := by decide +kernel
theorem dX10_canBeOn_18 : decode cX10_canBeOn 18 = .ok (.aload_n 0, 1) := by decide +kernel
theorem dX10_canBeOn_19 : decode cX10_canBeOn 19 = .ok (.getfield 15, 3) := by decide +kernel
theorem dX10_canBeOn_22 : decode cX10_canBeOn 22 = .ok (.if_icmp .gt 7, 3) := by decide +kernel
theorem dX10_canBeOn_25 : decode cX10_canBeOn 25 = .ok (.iconst 1, 1) := by decide +kernel
theorem dX10_canBeOn_26 : decode cX10_canBeOn 26 = .ok (.goto 4, 3) := by decide +kernel
theorem dX10_canBeOn_29 : decode cX10_canBeOn 29 = .ok (.iconst 0, 1) := by decide +kernel
theorem dX10_canBeOn_30 : decode cX10_canBeOn 30 = .ok (.ireturn, 1) := by decide +kernel
theorem dX10_isDark_0 : decode cX10_isDark 0 = .ok (.iconst 0, 1) := by decide +kernel
theorem dX10_isDark_1 : decode cX10_isDark 1 = .ok (.istore_n 2, 1) := by decide +kernel
theorem dX10_isDark_2 : decode cX10_isDark 2 = .ok (.iload_n 2, 1) := by decide +kernel
theorem dX10_isDark_3 : decode cX10_isDark 3 = .ok (.aload_n 0, 1) := by decide +kernel
theorem dX10_isDark_4 : decode cX10_isDark 4 = .ok (.getfield 21, 3) := by decide +kernel
theorem dX10_isDark_7 : decode cX10_isDark 7 = .ok (.if_icmp .ge 31, 3) := by decide +kernel
theorem dX10_isDark_10 : decode cX10_isDark 10 = .ok (.iload_n 1, 1) := by decide +kernel
theorem dX10_isDark_11 : decode cX10_isDark 11 = .ok (.aload_n 0, 1) := by decide +kernel
theorem dX10_isDark_12 : decode cX10_isDark 12 = .ok (.getfield 43, 3) := by decide +kernel
theorem dX10_isDark_15 : decode cX10_isDark 15 = .ok (.iload_n 2, 1) := by decide +kernel
theorem dX10_isDark_16 : decode cX10_isDark 16 = .ok (.iaload, 1) := by decide +kernel
theorem dX10_isDark_17 : decode cX10_isDark 17 = .ok (.if_icmp .lt 15, 3) := by decide +kernel
theorem dX10_isDark_20 : decode cX10_isDark 20 = .ok (.iload_n 1, 1) := by decide +kernel
theorem dX10_isDark_21 : decode cX10_isDark 21 = .ok (.aload_n 0, 1) := by decide +kernel
theorem dX10_isDark_22 : decode cX10_isDark 22 = .ok (.getfield 46, 3) := by decide +kernel
theorem dX10_isDark_25 : decode cX10_isDark 25 = .ok (.iload_n 2, 1) := by decide +kernel
theorem dX10_isDark_26 : decode cX10_isDark 26 = .ok (.iaload, 1) := by decide +kernel
theorem dX10_isDark_27 : decode cX10_isDark 27 = .ok (.if_icmp .gt 5, 3) := by decide +kernel
theorem dX10_isDark_30 : decode cX10_isDark 30 = .ok (.iconst 1, 1) := by decide +kernel
theorem dX10_isDark_31 : decode cX10_isDark 31 = .ok (.ireturn, 1) := by decide +kernel
theorem dX10_isDark_32 : decode cX10_isDark 32 = .ok (.iinc 2 1, 3) := by decide +kernel
theorem dX10_isDark_35 : decode cX10_isDark 35 = .ok (.goto (-33), 3) := by decide +kernel
theorem dX10_isDark_38 : decode cX10_isDark 38 = .ok (.iconst 0, 1) := by decide +kernel
theorem dX10_isDark_39 : decode cX10_isDark 39 = .ok (.ireturn, 1) := by decide +kernel
theorem dX10_isCallOf_0 : decode cX10_isCallOf 0 = .ok (.aload_n 0, 1) := by decide +kernel
theorem dX10_isCallOf_1 : decode cX10_isCallOf 1 = .ok (.getfield 34, 3) := by decide +kernel
theorem dX10_isCallOf_4 : decode cX10_isCallOf 4 = .ok (.iload_n 1, 1) := by decide +kernel
theorem dX10_isCallOf_5 : decode cX10_isCallOf 5 = .ok (.iaload, 1) := by decide +kernel
theorem dX10_isCallOf_6 : decode cX10_isCallOf 6 = .ok (.iload_n 2, 1) := by decide +kernel
theorem dX10_isCallOf_7 : decode cX10_isCallOf 7 = .ok (.if_icmp .ne 17, 3) := by decide +kernel
theorem dX10_isCallOf_10 : decode cX10_isCallOf 10 = .ok (.aload_n 0, 1) := by decide +kernel
theorem dX10_isCallOf_11 : decode cX10_isCallOf 11 = .ok (.getfield 37, 3) := by decide +kernel
theorem dX10_isCallOf_14 : decode cX10_isCallOf 14 = .ok (.iload_n 1, 1) := by decide +kernel
theorem dX10_isCallOf_15 : decode cX10_isCallOf 15 = .ok (.iaload, 1) := by decide +kernel
theorem dX10_isCallOf_16 : decode cX10_isCallOf 16 = .ok (.iload_n 3, 1) := by decide +kernel
theorem dX10_isCallOf_17 : decode cX10_isCallOf 17 = .ok (.if_icmp .ne 7, 3) := by decide +kernel
theorem dX10_isCallOf_20 : decode cX10_isCallOf 20 = .ok (.iconst 1, 1) := by decide +kernel
theorem dX10_isCallOf_21 : decode cX10_isCallOf 21 = .ok (.goto 4, 3) := by decide +kernel
theorem dX10_isCallOf_24 : decode cX10_isCallOf 24 = .ok (.iconst 0, 1) := by decide +kernel
theorem dX10_isCallOf_25 : decode cX10_isCallOf 25 = .ok (.ireturn, 1) := by decide +kernel
theorem dX10_callsOf_0 : decode cX10_callsOf 0 = .ok (.iconst 0, 1) := by decide +kernel
theorem dX10_callsOf_1 : decode cX10_callsOf 1 = .ok (.istore_n 2, 1) := by decide +kernel
theorem dX10_callsOf_2 : decode cX10_callsOf 2 = .ok (.iconst 0, 1) := by decide +kernel
theorem dX10_callsOf_3 : decode cX10_callsOf 3 = .ok (.istore_n 3, 1) := by decide +kernel
theorem dX10_callsOf_4 : decode cX10_callsOf 4 = .ok (.iload_n 3, 1) := by decide +kernel
theorem dX10_callsOf_5 : decode cX10_callsOf 5 = .ok (.aload_n 0, 1) := by decide +kernel
theorem dX10_callsOf_6 : decode cX10_callsOf 6 = .ok (.getfield 18, 3) := by decide +kernel
theorem dX10_callsOf_9 : decode cX10_callsOf 9 = .ok (.if_icmp .ge 22, 3) := by decide +kernel
theorem dX10_callsOf_12 : decode cX10_callsOf 12 = .ok (.aload_n 0, 1) := by decide +kernel
theorem dX10_callsOf_13 : decode cX10_callsOf 13 = .ok (.getfield 34, 3) := by decide +kernel
theorem dX10_callsOf_16 : decode cX10_callsOf 16 = .ok (.iload_n 3, 1) := by decide +kernel
theorem dX10_callsOf_17 : decode cX10_callsOf 17 = .ok (.iaload, 1) := by decide +kernel
theorem dX10_callsOf_18 : decode cX10_callsOf 18 = .ok (.iload_n 1, 1) := by decide +kernel
theorem dX10_callsOf_19 : decode cX10_callsOf 19 = .ok (.if_icmp .ne 6, 3) := by decide +kernel
theorem dX10_callsOf_22 : decode cX10_callsOf 22 = .ok (.iinc 2 1, 3) := by decide +kernel
theorem dX10_callsOf_25 : decode cX10_callsOf 25 = .ok (.iinc 3 1, 3) := by decide +kernel
theorem dX10_callsOf_28 : decode cX10_callsOf 28 = .ok (.goto (-24), 3) := by decide +kernel
theorem dX10_callsOf_31 : decode cX10_callsOf 31 = .ok (.iload_n 2, 1) := by decide +kernel
theorem dX10_callsOf_32 : decode cX10_callsOf 32 = .ok (.ireturn, 1) := by decide +kernel
theorem dX10_missedAt_0 : decode cX10_missedAt 0 = .ok (.iload_n 3, 1) := by decide +kernel
theorem dX10_missedAt_1 : decode cX10_missedAt 1 = .ok (.istore 4, 2) := by decide +kernel
theorem dX10_missedAt_3 : decode cX10_missedAt 3 = .ok (.iconst 0, 1) := by decide +kernel
theorem dX10_missedAt_4 : decode cX10_missedAt 4 = .ok (.istore 5, 2) := by decide +kernel
theorem dX10_missedAt_6 : decode cX10_missedAt 6 = .ok (.iconst 0, 1) := by decide +kernel
theorem dX10_missedAt_7 : decode cX10_missedAt 7 = .ok (.istore 6, 2) := by decide +kernel
theorem dX10_missedAt_9 : decode cX10_missedAt 9 = .ok (.iload 6, 2) := by decide +kernel
theorem dX10_missedAt_11 : decode cX10_missedAt 11 = .ok (.aload_n 0, 1) := by decide +kernel
theorem dX10_missedAt_12 : decode cX10_missedAt 12 = .ok (.getfield 18, 3) := by decide +kernel
theorem dX10_missedAt_15 : decode cX10_missedAt 15 = .ok (.if_icmp .ge 50, 3) := by decide +kernel
theorem dX10_missedAt_18 : decode cX10_missedAt 18 = .ok (.aload_n 0, 1) := by decide +kernel
theorem dX10_missedAt_19 : decode cX10_missedAt 19 = .ok (.iload 6, 2) := by decide +kernel
theorem dX10_missedAt_21 : decode cX10_missedAt 21 = .ok (.iload_n 2, 1) := by decide +kernel
theorem dX10_missedAt_22 : decode cX10_missedAt 22 = .ok (.iload_n 1, 1) := by decide +kernel
theorem dX10_missedAt_23 : decode cX10_missedAt 23 = .ok (.invokevirtual 61, 3) := by decide +kernel
theorem dX10_missedAt_26 : decode cX10_missedAt 26 = .ok (.ifCond .eq 33, 3) := by decide +kernel
theorem dX10_missedAt_29 : decode cX10_missedAt 29 = .ok (.iload 4, 2) := by decide +kernel
theorem dX10_missedAt_31 : decode cX10_missedAt 31 = .ok (.aload_n 0, 1) := by decide +kernel
theorem dX10_missedAt_32 : decode cX10_missedAt 32 = .ok (.getfield 40, 3) := by decide +kernel
theorem dX10_missedAt_35 : decode cX10_missedAt 35 = .ok (.iload 6, 2) := by decide +kernel
theorem dX10_missedAt_37 : decode cX10_missedAt 37 = .ok (.iaload, 1) := by decide +kernel
theorem dX10_missedAt_38 : decode cX10_missedAt 38 = .ok (.if_icmp .lt 18, 3) := by decide +kernel
theorem dX10_missedAt_41 : decode cX10_missedAt 41 = .ok (.iload 4, 2) := by decide +kernel
theorem dX10_missedAt_43 : decode cX10_missedAt 43 = .ok (.aload_n 0, 1) := by decide +kernel
theorem dX10_missedAt_44 : decode cX10_missedAt 44 = .ok (.getfield 40, 3) := by decide +kernel
theorem dX10_missedAt_47 : decode cX10_missedAt 47 = .ok (.iload 6, 2) := by decide +kernel
theorem dX10_missedAt_49 : decode cX10_missedAt 49 = .ok (.iaload, 1) := by decide +kernel
theorem dX10_missedAt_50 : decode cX10_missedAt 50 = .ok (.isub, 1) := by decide +kernel
theorem dX10_missedAt_51 : decode cX10_missedAt 51 = .ok (.istore 4, 2) := by decide +kernel
theorem dX10_missedAt_53 : decode cX10_missedAt 53 = .ok (.goto 6, 3) := by decide +kernel
theorem dX10_missedAt_56 : decode cX10_missedAt 56 = .ok (.iinc 5 1, 3) := by decide +kernel
theorem dX10_missedAt_59 : decode cX10_missedAt 59 = .ok (.iinc 6 1, 3) := by decide +kernel
theorem dX10_missedAt_62 : decode cX10_missedAt 62 = .ok (.goto (-53), 3) := by decide +kernel
theorem dX10_missedAt_65 : decode cX10_missedAt 65 = .ok (.iload 5, 2) := by decide +kernel
theorem dX10_missedAt_67 : decode cX10_missedAt 67 = .ok (.ireturn, 1) := by decide +kernel
theorem dX10_leftByCalls_0 : decode cX10_leftByCalls 0 = .ok (.iload_n 3, 1) := by decide +kernel
theorem dX10_leftByCalls_1 : decode cX10_leftByCalls 1 = .ok (.istore 4, 2) := by decide +kernel
theorem dX10_leftByCalls_3 : decode cX10_leftByCalls 3 = .ok (.iconst 0, 1) := by decide +kernel
theorem dX10_leftByCalls_4 : decode cX10_leftByCalls 4 = .ok (.istore 5, 2) := by decide +kernel
theorem dX10_leftByCalls_6 : decode cX10_leftByCalls 6 = .ok (.iload 5, 2) := by decide +kernel
theorem dX10_leftByCalls_8 : decode cX10_leftByCalls 8 = .ok (.aload_n 0, 1) := by decide +kernel
theorem dX10_leftByCalls_9 : decode cX10_leftByCalls 9 = .ok (.getfield 18, 3) := by decide +kernel
theorem dX10_leftByCalls_12 : decode cX10_leftByCalls 12 = .ok (.if_icmp .ge 44, 3) := by decide +kernel
theorem dX10_leftByCalls_15 : decode cX10_leftByCalls 15 = .ok (.aload_n 0, 1) := by decide +kernel
theorem dX10_leftByCalls_16 : decode cX10_leftByCalls 16 = .ok (.iload 5, 2) := by decide +kernel
theorem dX10_leftByCalls_18 : decode cX10_leftByCalls 18 = .ok (.iload_n 2, 1) := by decide +kernel
theorem dX10_leftByCalls_19 : decode cX10_leftByCalls 19 = .ok (.iload_n 1, 1) := by decide +kernel
theorem dX10_leftByCalls_20 : decode cX10_leftByCalls 20 = .ok (.invokevirtual 61, 3) := by decide +kernel
theorem dX10_leftByCalls_23 : decode cX10_leftByCalls 23 = .ok (.ifCond .eq 27, 3) := by decide +kernel
theorem dX10_leftByCalls_26 : decode cX10_leftByCalls 26 = .ok (.iload 4, 2) := by decide +kernel
theorem dX10_leftByCalls_28 : decode cX10_leftByCalls 28 = .ok (.aload_n 0, 1) := by decide +kernel
theorem dX10_leftByCalls_29 : decode cX10_leftByCalls 29 = .ok (.getfield 40, 3) := by decide +kernel
theorem dX10_leftByCalls_32 : decode cX10_leftByCalls 32 = .ok (.iload 5, 2) := by decide +kernel
theorem dX10_leftByCalls_34 : decode cX10_leftByCalls 34 = .ok (.iaload, 1) := by decide +kernel
theorem dX10_leftByCalls_35 : decode cX10_leftByCalls 35 = .ok (.if_icmp .lt 15, 3) := by decide +kernel
theorem dX10_leftByCalls_38 : decode cX10_leftByCalls 38 = .ok (.iload 4, 2) := by decide +kernel
theorem dX10_leftByCalls_40 : decode cX10_leftByCalls 40 = .ok (.aload_n 0, 1) := by decide +kernel
theorem dX10_leftByCalls_41 : decode cX10_leftByCalls 41 = .ok (.getfield 40, 3) := by decide +kernel
theorem dX10_leftByCalls_44 : decode cX10_leftByCalls 44 = .ok (.iload 5, 2) := by decide +kernel
theorem dX10_leftByCalls_46 : decode cX10_leftByCalls 46 = .ok (.iaload, 1) := by decide +kernel
theorem dX10_leftByCalls_47 : decode cX10_leftByCalls 47 = .ok (.isub, 1) := by decide +kernel
theorem dX10_leftByCalls_48 : decode cX10_leftByCalls 48 = .ok (.istore 4, 2) := by decide +kernel
theorem dX10_leftByCalls_50 : decode cX10_leftByCalls 50 = .ok (.iinc 5 1, 3) := by decide +kernel
theorem dX10_leftByCalls_53 : decode cX10_leftByCalls 53 = .ok (.goto (-47), 3) := by decide +kernel
theorem dX10_leftByCalls_56 : decode cX10_leftByCalls 56 = .ok (.iload 4, 2) := by decide +kernel
theorem dX10_leftByCalls_58 : decode cX10_leftByCalls 58 = .ok (.ireturn, 1) := by decide +kernel
theorem dX10_filled_0 : decode cX10_filled 0 = .ok (.iload_n 2, 1) := by decide +kernel
theorem dX10_filled_1 : decode cX10_filled 1 = .ok (.bipush 80, 2) := by decide +kernel
theorem dX10_filled_3 : decode cX10_filled 3 = .ok (.if_icmp .ge 12, 3) := by decide +kernel
theorem dX10_filled_6 : decode cX10_filled 6 = .ok (.aload_n 0, 1) := by decide +kernel
theorem dX10_filled_7 : decode cX10_filled 7 = .ok (.getfield 28, 3) := by decide +kernel
theorem dX10_filled_10 : decode cX10_filled 10 = .ok (.iload_n 1, 1) := by decide +kernel
theorem dX10_filled_11 : decode cX10_filled 11 = .ok (.iaload, 1) := by decide +kernel
theorem dX10_filled_12 : decode cX10_filled 12 = .ok (.goto 15, 3) := by decide +kernel
theorem dX10_filled_15 : decode cX10_filled 15 = .ok (.iconst 1, 1) := by decide +kernel
theorem dX10_filled_16 : decode cX10_filled 16 = .ok (.aload_n 0, 1) := by decide +kernel
theorem dX10_filled_17 : decode cX10_filled 17 = .ok (.getfield 28, 3) := by decide +kernel
theorem dX10_filled_20 : decode cX10_filled 20 = .ok (.iload_n 1, 1) := by decide +kernel
theorem dX10_filled_21 : decode cX10_filled 21 = .ok (.iaload, 1) := by decide +kernel
theorem dX10_filled_22 : decode cX10_filled 22 = .ok (.iconst 2, 1) := by decide +kernel
theorem dX10_filled_23 : decode cX10_filled 23 = .ok (.idiv, 1) := by decide +kernel
theorem dX10_filled_24 : decode cX10_filled 24 = .ok (.invokestatic 65, 3) := by decide +kernel
theorem dX10_filled_27 : decode cX10_filled 27 = .ok (.istore_n 3, 1) := by decide +kernel
theorem dX10_filled_28 : decode cX10_filled 28 = .ok (.bipush 100, 2) := by decide +kernel
theorem dX10_filled_30 : decode cX10_filled 30 = .ok (.iload_n 2, 1) := by decide +kernel
theorem dX10_filled_31 : decode cX10_filled 31 = .ok (.iload_n 3, 1) := by decide +kernel
theorem dX10_filled_32 : decode cX10_filled 32 = .ok (.iadd, 1) := by decide +kernel
theorem dX10_filled_33 : decode cX10_filled 33 = .ok (.invokestatic 71, 3) := by decide +kernel
theorem dX10_filled_36 : decode cX10_filled 36 = .ok (.ireturn, 1) := by decide +kernel
theorem dX10_drained_0 : decode cX10_drained 0 = .ok (.iconst 0, 1) := by decide +kernel
theorem dX10_drained_1 : decode cX10_drained 1 = .ok (.iload_n 2, 1) := by decide +kernel
theorem dX10_drained_2 : decode cX10_drained 2 = .ok (.aload_n 0, 1) := by decide +kernel
theorem dX10_drained_3 : decode cX10_drained 3 = .ok (.getfield 31, 3) := by decide +kernel
theorem dX10_drained_6 : decode cX10_drained 6 = .ok (.iload_n 1, 1) := by decide +kernel
theorem dX10_drained_7 : decode cX10_drained 7 = .ok (.iaload, 1) := by decide +kernel
theorem dX10_drained_8 : decode cX10_drained 8 = .ok (.isub, 1) := by decide +kernel
theorem dX10_drained_9 : decode cX10_drained 9 = .ok (.invokestatic 65, 3) := by decide +kernel
theorem dX10_drained_12 : decode cX10_drained 12 = .ok (.ireturn, 1) := by decide +kernel
theorem dX10_levelBehind_0 : decode cX10_levelBehind 0 = .ok (.aload_n 0, 1) := by decide +kernel
theorem dX10_levelBehind_1 : decode cX10_levelBehind 1 = .ok (.iload_n 1, 1) := by decide +kernel
theorem dX10_levelBehind_2 : decode cX10_levelBehind 2 = .ok (.iload_n 2, 1) := by decide +kernel
theorem dX10_levelBehind_3 : decode cX10_levelBehind 3 = .ok (.iload_n 3, 1) := by decide +kernel
theorem dX10_levelBehind_4 : decode cX10_levelBehind 4 = .ok (.invokevirtual 74, 3) := by decide +kernel
theorem dX10_levelBehind_7 : decode cX10_levelBehind 7 = .ok (.istore 5, 2) := by decide +kernel
theorem dX10_levelBehind_9 : decode cX10_levelBehind 9 = .ok (.iload 4, 2) := by decide +kernel
theorem dX10_levelBehind_11 : decode cX10_levelBehind 11 = .ok (.ifCond .eq 21, 3) := by decide +kernel
theorem dX10_levelBehind_14 : decode cX10_levelBehind 14 = .ok (.aload_n 0, 1) := by decide +kernel
theorem dX10_levelBehind_15 : decode cX10_levelBehind 15 = .ok (.iload_n 1, 1) := by decide +kernel
theorem dX10_levelBehind_16 : decode cX10_levelBehind 16 = .ok (.invokevirtual 78, 3) := by decide +kernel
theorem dX10_levelBehind_19 : decode cX10_levelBehind 19 = .ok (.ifCond .ne 13, 3) := by decide +kernel
theorem dX10_levelBehind_22 : decode cX10_levelBehind 22 = .ok (.aload_n 0, 1) := by decide +kernel
theorem dX10_levelBehind_23 : decode cX10_levelBehind 23 = .ok (.iload_n 2, 1) := by decide +kernel
theorem dX10_levelBehind_24 : decode cX10_levelBehind 24 = .ok (.iload 5, 2) := by decide +kernel
theorem dX10_levelBehind_26 : decode cX10_levelBehind 26 = .ok (.invokevirtual 82, 3) := by decide +kernel
theorem dX10_levelBehind_29 : decode cX10_levelBehind 29 = .ok (.goto 10, 3) := by decide +kernel
theorem dX10_levelBehind_32 : decode cX10_levelBehind 32 = .ok (.aload_n 0, 1) := by decide +kernel
theorem dX10_levelBehind_33 : decode cX10_levelBehind 33 = .ok (.iload_n 2, 1) := by decide +kernel
theorem dX10_levelBehind_34 : decode cX10_levelBehind 34 = .ok (.iload 5, 2) := by decide +kernel
theorem dX10_levelBehind_36 : decode cX10_levelBehind 36 = .ok (.invokevirtual 85, 3) := by decide +kernel
theorem dX10_levelBehind_39 : decode cX10_levelBehind 39 = .ok (.ireturn, 1) := by decide +kernel
theorem dJ6_bitCount_0f7a4_0 : decode cJ6_bitCount_0f7a4 0 = .ok (.iload_n 0, 1) := by decide +kernel
theorem dJ6_bitCount_0f7a4_1 : decode cJ6_bitCount_0f7a4 1 = .ok (.iload_n 0, 1) := by decide +kernel
theorem dJ6_bitCount_0f7a4_2 : decode cJ6_bitCount_0f7a4 2 = .ok (.iconst 1, 1) := by decide +kernel
theorem dJ6_bitCount_0f7a4_3 : decode cJ6_bitCount_0f7a4 3 = .ok (.iushr, 1) := by decide +kernel
theorem dJ6_bitCount_0f7a4_4 : decode cJ6_bitCount_0f7a4 4 = .ok (.ldc_w 265, 3) := by decide +kernel
theorem dJ6_bitCount_0f7a4_7 : decode cJ6_bitCount_0f7a4 7 = .ok (.iand, 1) := by decide +kernel
theorem dJ6_bitCount_0f7a4_8 : decode cJ6_bitCount_0f7a4 8 = .ok (.isub, 1) := by decide +kernel
theorem dJ6_bitCount_0f7a4_9 : decode cJ6_bitCount_0f7a4 9 = .ok (.istore_n 0, 1) := by decide +kernel
theorem dJ6_bitCount_0f7a4_10 : decode cJ6_bitCount_0f7a4 10 = .ok (.iload_n 0, 1) := by decide +kernel
theorem dJ6_bitCount_0f7a4_11 : decode cJ6_bitCount_0f7a4 11 = .ok (.ldc_w 266, 3) := by decide +kernel
theorem dJ6_bitCount_0f7a4_14 : decode cJ6_bitCount_0f7a4 14 = .ok (.iand, 1) := by decide +kernel
theorem dJ6_bitCount_0f7a4_15 : decode cJ6_bitCount_0f7a4 15 = .ok (.iload_n 0, 1) := by decide +kernel
theorem dJ6_bitCount_0f7a4_16 : decode cJ6_bitCount_0f7a4 16 = .ok (.iconst 2, 1) := by decide +kernel
theorem dJ6_bitCount_0f7a4_17 : decode cJ6_bitCount_0f7a4 17 = .ok (.iushr, 1) := by decide +kernel
theorem dJ6_bitCount_0f7a4_18 : decode cJ6_bitCount_0f7a4 18 = .ok (.ldc_w 266, 3) := by decide +kernel
theorem dJ6_bitCount_0f7a4_21 : decode cJ6_bitCount_0f7a4 21 = .ok (.iand, 1) := by decide +kernel
theorem dJ6_bitCount_0f7a4_22 : decode cJ6_bitCount_0f7a4 22 = .ok (.iadd, 1) := by decide +kernel
theorem dJ6_bitCount_0f7a4_23 : decode cJ6_bitCount_0f7a4 23 = .ok (.istore_n 0, 1) := by decide +kernel
theorem dJ6_bitCount_0f7a4_24 : decode cJ6_bitCount_0f7a4 24 = .ok (.iload_n 0, 1) := by decide +kernel
theorem dJ6_bitCount_0f7a4_25 : decode cJ6_bitCount_0f7a4 25 = .ok (.iload_n 0, 1) := by decide +kernel
theorem dJ6_bitCount_0f7a4_26 : decode cJ6_bitCount_0f7a4 26 = .ok (.iconst 4, 1) := by decide +kernel
theorem dJ6_bitCount_0f7a4_27 : decode cJ6_bitCount_0f7a4 27 = .ok (.iushr, 1) := by decide +kernel
theorem dJ6_bitCount_0f7a4_28 : decode cJ6_bitCount_0f7a4 28 = .ok (.iadd, 1) := by decide +kernel
theorem dJ6_bitCount_0f7a4_29 : decode cJ6_bitCount_0f7a4 29 = .ok (.ldc_w 267, 3) := by decide +kernel
theorem dJ6_bitCount_0f7a4_32 : decode cJ6_bitCount_0f7a4 32 = .ok (.iand, 1) := by decide +kernel
theorem dJ6_bitCount_0f7a4_33 : decode cJ6_bitCount_0f7a4 33 = .ok (.istore_n 0, 1) := by decide +kernel
theorem dJ6_bitCount_0f7a4_34 : decode cJ6_bitCount_0f7a4 34 = .ok (.iload_n 0, 1) := by decide +kernel
theorem dJ6_bitCount_0f7a4_35 : decode cJ6_bitCount_0f7a4 35 = .ok (.iload_n 0, 1) := by decide +kernel
theorem dJ6_bitCount_0f7a4_36 : decode cJ6_bitCount_0f7a4 36 = .ok (.bipush 8, 2) := by decide +kernel
theorem dJ6_bitCount_0f7a4_38 : decode cJ6_bitCount_0f7a4 38 = .ok (.iushr, 1) := by decide +kernel
theorem dJ6_bitCount_0f7a4_39 : decode cJ6_bitCount_0f7a4 39 = .ok (.iadd, 1) := by decide +kernel
theorem dJ6_bitCount_0f7a4_40 : decode cJ6_bitCount_0f7a4 40 = .ok (.istore_n 0, 1) := by decide +kernel
theorem dJ6_bitCount_0f7a4_41 : decode cJ6_bitCount_0f7a4 41 = .ok (.iload_n 0, 1) := by decide +kernel
theorem dJ6_bitCount_0f7a4_42 : decode cJ6_bitCount_0f7a4 42 = .ok (.iload_n 0, 1) := by decide +kernel
theorem dJ6_bitCount_0f7a4_43 : decode cJ6_bitCount_0f7a4 43 = .ok (.bipush 16, 2) := by decide +kernel
theorem dJ6_bitCount_0f7a4_45 : decode cJ6_bitCount_0f7a4 45 = .ok (.iushr, 1) := by decide +kernel
theorem dJ6_bitCount_0f7a4_46 : decode cJ6_bitCount_0f7a4 46 = .ok (.iadd, 1) := by decide +kernel
theorem dJ6_bitCount_0f7a4_47 : decode cJ6_bitCount_0f7a4 47 = .ok (.istore_n 0, 1) := by decide +kernel
theorem dJ6_bitCount_0f7a4_48 : decode cJ6_bitCount_0f7a4 48 = .ok (.iload_n 0, 1) := by decide +kernel
theorem dJ6_bitCount_0f7a4_49 : decode cJ6_bitCount_0f7a4 49 = .ok (.bipush 63, 2) := by decide +kernel
theorem dJ6_bitCount_0f7a4_51 : decode cJ6_bitCount_0f7a4 51 = .ok (.iand, 1) := by decide +kernel
theorem dJ6_bitCount_0f7a4_52 : decode cJ6_bitCount_0f7a4 52 = .ok (.ireturn, 1) := by decide +kernel
theorem dJ9_max_7cf53_0 : decode cJ9_max_7cf53 0 = .ok (.iload_n 0, 1) := by decide +kernel
theorem dJ9_max_7cf53_1 : decode cJ9_max_7cf53 1 = .ok (.iload_n 1, 1) := by decide +kernel
theorem dJ9_max_7cf53_2 : decode cJ9_max_7cf53 2 = .ok (.if_icmp .lt 7, 3) := by decide +kernel
theorem dJ9_max_7cf53_5 : decode cJ9_max_7cf53 5 = .ok (.iload_n 0, 1) := by decide +kernel
theorem dJ9_max_7cf53_6 : decode cJ9_max_7cf53 6 = .ok (.goto 4, 3) := by decide +kernel
theorem dJ9_max_7cf53_9 : decode cJ9_max_7cf53 9 = .ok (.iload_n 1, 1) := by decide +kernel
theorem dJ9_max_7cf53_10 : decode cJ9_max_7cf53 10 = .ok (.ireturn, 1) := by decide +kernel
theorem dJ9_min_7cf53_0 : decode cJ9_min_7cf53 0 = .ok (.iload_n 0, 1) := by decide +kernel
theorem dJ9_min_7cf53_1 : decode cJ9_min_7cf53 1 = .ok (.iload_n 1, 1) := by decide +kernel
theorem dJ9_min_7cf53_2 : decode cJ9_min_7cf53 2 = .ok (.if_icmp .gt 7, 3) := by decide +kernel
theorem dJ9_min_7cf53_5 : decode cJ9_min_7cf53 5 = .ok (.iload_n 0, 1) := by decide +kernel
theorem dJ9_min_7cf53_6 : decode cJ9_min_7cf53 6 = .ok (.goto 4, 3) := by decide +kernel
theorem dJ9_min_7cf53_9 : decode cJ9_min_7cf53 9 = .ok (.iload_n 1, 1) := by decide +kernel
theorem dJ9_min_7cf53_10 : decode cJ9_min_7cf53 10 = .ok (.ireturn, 1) := by decide +kernel
