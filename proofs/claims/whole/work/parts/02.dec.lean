theorem d_Tape_init_0 : decode prog_11_method_1_code 0 = .ok (.aload_n 0, 1) := by decide +kernel
theorem d_Tape_init_1 : decode prog_11_method_1_code 1 = .ok (.invokespecial 3, 3) := by decide +kernel
theorem d_Tape_init_4 : decode prog_11_method_1_code 4 = .ok (.aload_n 0, 1) := by decide +kernel
theorem d_Tape_init_5 : decode prog_11_method_1_code 5 = .ok (.sipush 4000, 3) := by decide +kernel
theorem d_Tape_init_8 : decode prog_11_method_1_code 8 = .ok (.newarray .byte, 2) := by decide +kernel
theorem d_Tape_init_10 : decode prog_11_method_1_code 10 = .ok (.putfield 9, 3) := by decide +kernel
theorem d_Tape_init_13 : decode prog_11_method_1_code 13 = .ok (.return_, 1) := by decide +kernel
theorem d_Tape_hasRoom_0 : decode prog_11_method_2_code 0 = .ok (.aload_n 0, 1) := by decide +kernel
theorem d_Tape_hasRoom_1 : decode prog_11_method_2_code 1 = .ok (.getfield 15, 3) := by decide +kernel
theorem d_Tape_hasRoom_4 : decode prog_11_method_2_code 4 = .ok (.bipush 20, 2) := by decide +kernel
theorem d_Tape_hasRoom_6 : decode prog_11_method_2_code 6 = .ok (.iadd, 1) := by decide +kernel
theorem d_Tape_hasRoom_7 : decode prog_11_method_2_code 7 = .ok (.aload_n 0, 1) := by decide +kernel
theorem d_Tape_hasRoom_8 : decode prog_11_method_2_code 8 = .ok (.getfield 9, 3) := by decide +kernel
theorem d_Tape_hasRoom_11 : decode prog_11_method_2_code 11 = .ok (.arraylength, 1) := by decide +kernel
theorem d_Tape_hasRoom_12 : decode prog_11_method_2_code 12 = .ok (.if_icmp .gt 7, 3) := by decide +kernel
theorem d_Tape_hasRoom_15 : decode prog_11_method_2_code 15 = .ok (.iconst 1, 1) := by decide +kernel
theorem d_Tape_hasRoom_16 : decode prog_11_method_2_code 16 = .ok (.goto 4, 3) := by decide +kernel
theorem d_Tape_hasRoom_19 : decode prog_11_method_2_code 19 = .ok (.iconst 0, 1) := by decide +kernel
theorem d_Tape_hasRoom_20 : decode prog_11_method_2_code 20 = .ok (.ireturn, 1) := by decide +kernel
theorem d_Tape_putFour_0 : decode prog_11_method_3_code 0 = .ok (.bipush 24, 2) := by decide +kernel
theorem d_Tape_putFour_2 : decode prog_11_method_3_code 2 = .ok (.istore_n 2, 1) := by decide +kernel
theorem d_Tape_putFour_3 : decode prog_11_method_3_code 3 = .ok (.iload_n 2, 1) := by decide +kernel
theorem d_Tape_putFour_4 : decode prog_11_method_3_code 4 = .ok (.ifCond .lt 44, 3) := by decide +kernel
theorem d_Tape_putFour_7 : decode prog_11_method_3_code 7 = .ok (.aload_n 0, 1) := by decide +kernel
theorem d_Tape_putFour_8 : decode prog_11_method_3_code 8 = .ok (.getfield 15, 3) := by decide +kernel
theorem d_Tape_putFour_11 : decode prog_11_method_3_code 11 = .ok (.aload_n 0, 1) := by decide +kernel
theorem d_Tape_putFour_12 : decode prog_11_method_3_code 12 = .ok (.getfield 9, 3) := by decide +kernel
theorem d_Tape_putFour_15 : decode prog_11_method_3_code 15 = .ok (.arraylength, 1) := by decide +kernel
theorem d_Tape_putFour_16 : decode prog_11_method_3_code 16 = .ok (.if_icmp .ge 26, 3) := by decide +kernel
theorem d_Tape_putFour_19 : decode prog_11_method_3_code 19 = .ok (.aload_n 0, 1) := by decide +kernel
theorem d_Tape_putFour_20 : decode prog_11_method_3_code 20 = .ok (.getfield 9, 3) := by decide +kernel
theorem d_Tape_putFour_23 : decode prog_11_method_3_code 23 = .ok (.aload_n 0, 1) := by decide +kernel
theorem d_Tape_putFour_24 : decode prog_11_method_3_code 24 = .ok (.getfield 15, 3) := by decide +kernel
theorem d_Tape_putFour_27 : decode prog_11_method_3_code 27 = .ok (.iload_n 1, 1) := by decide +kernel
theorem d_Tape_putFour_28 : decode prog_11_method_3_code 28 = .ok (.iload_n 2, 1) := by decide +kernel
theorem d_Tape_putFour_29 : decode prog_11_method_3_code 29 = .ok (.ishr, 1) := by decide +kernel
theorem d_Tape_putFour_30 : decode prog_11_method_3_code 30 = .ok (.i2b, 1) := by decide +kernel
theorem d_Tape_putFour_31 : decode prog_11_method_3_code 31 = .ok (.bastore, 1) := by decide +kernel
theorem d_Tape_putFour_32 : decode prog_11_method_3_code 32 = .ok (.aload_n 0, 1) := by decide +kernel
theorem d_Tape_putFour_33 : decode prog_11_method_3_code 33 = .ok (.dup, 1) := by decide +kernel
theorem d_Tape_putFour_34 : decode prog_11_method_3_code 34 = .ok (.getfield 15, 3) := by decide +kernel
theorem d_Tape_putFour_37 : decode prog_11_method_3_code 37 = .ok (.iconst 1, 1) := by decide +kernel
theorem d_Tape_putFour_38 : decode prog_11_method_3_code 38 = .ok (.iadd, 1) := by decide +kernel
theorem d_Tape_putFour_39 : decode prog_11_method_3_code 39 = .ok (.putfield 15, 3) := by decide +kernel
theorem d_Tape_putFour_42 : decode prog_11_method_3_code 42 = .ok (.iinc 2 (-8), 3) := by decide +kernel
theorem d_Tape_putFour_45 : decode prog_11_method_3_code 45 = .ok (.goto (-42), 3) := by decide +kernel
theorem d_Tape_putFour_48 : decode prog_11_method_3_code 48 = .ok (.return_, 1) := by decide +kernel
theorem d_Tape_cut_0 : decode prog_11_method_4_code 0 = .ok (.iload_n 1, 1) := by decide +kernel
theorem d_Tape_cut_1 : decode prog_11_method_4_code 1 = .ok (.ifCond .lt 11, 3) := by decide +kernel
theorem d_Tape_cut_4 : decode prog_11_method_4_code 4 = .ok (.iload_n 1, 1) := by decide +kernel
theorem d_Tape_cut_5 : decode prog_11_method_4_code 5 = .ok (.aload_n 0, 1) := by decide +kernel
theorem d_Tape_cut_6 : decode prog_11_method_4_code 6 = .ok (.getfield 15, 3) := by decide +kernel
theorem d_Tape_cut_9 : decode prog_11_method_4_code 9 = .ok (.if_icmp .le 5, 3) := by decide +kernel
theorem d_Tape_cut_12 : decode prog_11_method_4_code 12 = .ok (.aconst_null, 1) := by decide +kernel
theorem d_Tape_cut_13 : decode prog_11_method_4_code 13 = .ok (.areturn, 1) := by decide +kernel
theorem d_Tape_cut_14 : decode prog_11_method_4_code 14 = .ok (.aload_n 0, 1) := by decide +kernel
theorem d_Tape_cut_15 : decode prog_11_method_4_code 15 = .ok (.iconst 0, 1) := by decide +kernel
theorem d_Tape_cut_16 : decode prog_11_method_4_code 16 = .ok (.putfield 15, 3) := by decide +kernel
theorem d_Tape_cut_19 : decode prog_11_method_4_code 19 = .ok (.new 19, 3) := by decide +kernel
theorem d_Tape_cut_22 : decode prog_11_method_4_code 22 = .ok (.dup, 1) := by decide +kernel
theorem d_Tape_cut_23 : decode prog_11_method_4_code 23 = .ok (.aload_n 0, 1) := by decide +kernel
theorem d_Tape_cut_24 : decode prog_11_method_4_code 24 = .ok (.getfield 9, 3) := by decide +kernel
theorem d_Tape_cut_27 : decode prog_11_method_4_code 27 = .ok (.iload_n 1, 1) := by decide +kernel
theorem d_Tape_cut_28 : decode prog_11_method_4_code 28 = .ok (.invokespecial 21, 3) := by decide +kernel
theorem d_Tape_cut_31 : decode prog_11_method_4_code 31 = .ok (.areturn, 1) := by decide +kernel
theorem d_ByteRow_init_0 : decode prog_2_method_1_code 0 = .ok (.aload_n 0, 1) := by decide +kernel
theorem d_ByteRow_init_1 : decode prog_2_method_1_code 1 = .ok (.invokespecial 3, 3) := by decide +kernel
theorem d_ByteRow_init_4 : decode prog_2_method_1_code 4 = .ok (.aload_n 0, 1) := by decide +kernel
theorem d_ByteRow_init_5 : decode prog_2_method_1_code 5 = .ok (.sipush 1024, 3) := by decide +kernel
theorem d_ByteRow_init_8 : decode prog_2_method_1_code 8 = .ok (.newarray .byte, 2) := by decide +kernel
theorem d_ByteRow_init_10 : decode prog_2_method_1_code 10 = .ok (.putfield 9, 3) := by decide +kernel
theorem d_ByteRow_init_13 : decode prog_2_method_1_code 13 = .ok (.return_, 1) := by decide +kernel
theorem d_ByteRow_clear_0 : decode prog_2_method_2_code 0 = .ok (.aload_n 0, 1) := by decide +kernel
theorem d_ByteRow_clear_1 : decode prog_2_method_2_code 1 = .ok (.iconst 0, 1) := by decide +kernel
theorem d_ByteRow_clear_2 : decode prog_2_method_2_code 2 = .ok (.putfield 15, 3) := by decide +kernel
theorem d_ByteRow_clear_5 : decode prog_2_method_2_code 5 = .ok (.return_, 1) := by decide +kernel
theorem d_ByteRow_put_0 : decode prog_2_method_4_code 0 = .ok (.aload_n 0, 1) := by decide +kernel
theorem d_ByteRow_put_1 : decode prog_2_method_4_code 1 = .ok (.getfield 15, 3) := by decide +kernel
theorem d_ByteRow_put_4 : decode prog_2_method_4_code 4 = .ok (.aload_n 0, 1) := by decide +kernel
theorem d_ByteRow_put_5 : decode prog_2_method_4_code 5 = .ok (.getfield 9, 3) := by decide +kernel
theorem d_ByteRow_put_8 : decode prog_2_method_4_code 8 = .ok (.arraylength, 1) := by decide +kernel
theorem d_ByteRow_put_9 : decode prog_2_method_4_code 9 = .ok (.if_icmp .lt 31, 3) := by decide +kernel
theorem d_ByteRow_put_12 : decode prog_2_method_4_code 12 = .ok (.aload_n 0, 1) := by decide +kernel
theorem d_ByteRow_put_13 : decode prog_2_method_4_code 13 = .ok (.getfield 9, 3) := by decide +kernel
theorem d_ByteRow_put_16 : decode prog_2_method_4_code 16 = .ok (.arraylength, 1) := by decide +kernel
theorem d_ByteRow_put_17 : decode prog_2_method_4_code 17 = .ok (.ldc 19, 2) := by decide +kernel
theorem d_ByteRow_put_19 : decode prog_2_method_4_code 19 = .ok (.if_icmp .ge 21, 3) := by decide +kernel
theorem d_ByteRow_put_22 : decode prog_2_method_4_code 22 = .ok (.aload_n 0, 1) := by decide +kernel
theorem d_ByteRow_put_23 : decode prog_2_method_4_code 23 = .ok (.aload_n 0, 1) := by decide +kernel
theorem d_ByteRow_put_24 : decode prog_2_method_4_code 24 = .ok (.getfield 9, 3) := by decide +kernel
theorem d_ByteRow_put_27 : decode prog_2_method_4_code 27 = .ok (.aload_n 0, 1) := by decide +kernel
theorem d_ByteRow_put_28 : decode prog_2_method_4_code 28 = .ok (.getfield 9, 3) := by decide +kernel
theorem d_ByteRow_put_31 : decode prog_2_method_4_code 31 = .ok (.arraylength, 1) := by decide +kernel
theorem d_ByteRow_put_32 : decode prog_2_method_4_code 32 = .ok (.iconst 2, 1) := by decide +kernel
theorem d_ByteRow_put_33 : decode prog_2_method_4_code 33 = .ok (.imul, 1) := by decide +kernel
theorem d_ByteRow_put_34 : decode prog_2_method_4_code 34 = .ok (.invokestatic 20, 3) := by decide +kernel
theorem d_ByteRow_put_37 : decode prog_2_method_4_code 37 = .ok (.putfield 9, 3) := by decide +kernel
theorem d_ByteRow_put_40 : decode prog_2_method_4_code 40 = .ok (.aload_n 0, 1) := by decide +kernel
theorem d_ByteRow_put_41 : decode prog_2_method_4_code 41 = .ok (.getfield 15, 3) := by decide +kernel
theorem d_ByteRow_put_44 : decode prog_2_method_4_code 44 = .ok (.aload_n 0, 1) := by decide +kernel
theorem d_ByteRow_put_45 : decode prog_2_method_4_code 45 = .ok (.getfield 9, 3) := by decide +kernel
theorem d_ByteRow_put_48 : decode prog_2_method_4_code 48 = .ok (.arraylength, 1) := by decide +kernel
theorem d_ByteRow_put_49 : decode prog_2_method_4_code 49 = .ok (.if_icmp .ge 24, 3) := by decide +kernel
theorem d_ByteRow_put_52 : decode prog_2_method_4_code 52 = .ok (.aload_n 0, 1) := by decide +kernel
theorem d_ByteRow_put_53 : decode prog_2_method_4_code 53 = .ok (.getfield 9, 3) := by decide +kernel
theorem d_ByteRow_put_56 : decode prog_2_method_4_code 56 = .ok (.aload_n 0, 1) := by decide +kernel
theorem d_ByteRow_put_57 : decode prog_2_method_4_code 57 = .ok (.getfield 15, 3) := by decide +kernel
theorem d_ByteRow_put_60 : decode prog_2_method_4_code 60 = .ok (.iload_n 1, 1) := by decide +kernel
theorem d_ByteRow_put_61 : decode prog_2_method_4_code 61 = .ok (.i2b, 1) := by decide +kernel
theorem d_ByteRow_put_62 : decode prog_2_method_4_code 62 = .ok (.bastore, 1) := by decide +kernel
theorem d_ByteRow_put_63 : decode prog_2_method_4_code 63 = .ok (.aload_n 0, 1) := by decide +kernel
theorem d_ByteRow_put_64 : decode prog_2_method_4_code 64 = .ok (.dup, 1) := by decide +kernel
theorem d_ByteRow_put_65 : decode prog_2_method_4_code 65 = .ok (.getfield 15, 3) := by decide +kernel
theorem d_ByteRow_put_68 : decode prog_2_method_4_code 68 = .ok (.iconst 1, 1) := by decide +kernel
theorem d_ByteRow_put_69 : decode prog_2_method_4_code 69 = .ok (.iadd, 1) := by decide +kernel
theorem d_ByteRow_put_70 : decode prog_2_method_4_code 70 = .ok (.putfield 15, 3) := by decide +kernel
theorem d_ByteRow_put_73 : decode prog_2_method_4_code 73 = .ok (.return_, 1) := by decide +kernel
theorem d_ByteRow_byteAt_0 : decode prog_2_method_3_code 0 = .ok (.iload_n 1, 1) := by decide +kernel
theorem d_ByteRow_byteAt_1 : decode prog_2_method_3_code 1 = .ok (.ifCond .lt 20, 3) := by decide +kernel
theorem d_ByteRow_byteAt_4 : decode prog_2_method_3_code 4 = .ok (.iload_n 1, 1) := by decide +kernel
theorem d_ByteRow_byteAt_5 : decode prog_2_method_3_code 5 = .ok (.aload_n 0, 1) := by decide +kernel
theorem d_ByteRow_byteAt_6 : decode prog_2_method_3_code 6 = .ok (.getfield 15, 3) := by decide +kernel
theorem d_ByteRow_byteAt_9 : decode prog_2_method_3_code 9 = .ok (.if_icmp .ge 12, 3) := by decide +kernel
theorem d_ByteRow_byteAt_12 : decode prog_2_method_3_code 12 = .ok (.iload_n 1, 1) := by decide +kernel
theorem d_ByteRow_byteAt_13 : decode prog_2_method_3_code 13 = .ok (.aload_n 0, 1) := by decide +kernel
theorem d_ByteRow_byteAt_14 : decode prog_2_method_3_code 14 = .ok (.getfield 9, 3) := by decide +kernel
theorem d_ByteRow_byteAt_17 : decode prog_2_method_3_code 17 = .ok (.arraylength, 1) := by decide +kernel
theorem d_ByteRow_byteAt_18 : decode prog_2_method_3_code 18 = .ok (.if_icmp .lt 7, 3) := by decide +kernel
theorem d_ByteRow_byteAt_21 : decode prog_2_method_3_code 21 = .ok (.iconst (-1), 1) := by decide +kernel
theorem d_ByteRow_byteAt_22 : decode prog_2_method_3_code 22 = .ok (.goto 13, 3) := by decide +kernel
theorem d_ByteRow_byteAt_25 : decode prog_2_method_3_code 25 = .ok (.aload_n 0, 1) := by decide +kernel
theorem d_ByteRow_byteAt_26 : decode prog_2_method_3_code 26 = .ok (.getfield 9, 3) := by decide +kernel
theorem d_ByteRow_byteAt_29 : decode prog_2_method_3_code 29 = .ok (.iload_n 1, 1) := by decide +kernel
theorem d_ByteRow_byteAt_30 : decode prog_2_method_3_code 30 = .ok (.baload, 1) := by decide +kernel
theorem d_ByteRow_byteAt_31 : decode prog_2_method_3_code 31 = .ok (.sipush 255, 3) := by decide +kernel
theorem d_ByteRow_byteAt_34 : decode prog_2_method_3_code 34 = .ok (.iand, 1) := by decide +kernel
theorem d_ByteRow_byteAt_35 : decode prog_2_method_3_code 35 = .ok (.ireturn, 1) := by decide +kernel
theorem d_Schema_init_0 : decode prog_9_method_1_code 0 = .ok (.aload_n 0, 1) := by decide +kernel
theorem d_Schema_init_1 : decode prog_9_method_1_code 1 = .ok (.invokespecial 3, 3) := by decide +kernel
theorem d_Schema_init_4 : decode prog_9_method_1_code 4 = .ok (.aload_n 0, 1) := by decide +kernel
theorem d_Schema_init_5 : decode prog_9_method_1_code 5 = .ok (.sipush 128, 3) := by decide +kernel
theorem d_Schema_init_8 : decode prog_9_method_1_code 8 = .ok (.anewarray 9, 3) := by decide +kernel
theorem d_Schema_init_11 : decode prog_9_method_1_code 11 = .ok (.putfield 11, 3) := by decide +kernel
theorem d_Schema_init_14 : decode prog_9_method_1_code 14 = .ok (.aload_n 0, 1) := by decide +kernel
theorem d_Schema_init_15 : decode prog_9_method_1_code 15 = .ok (.bipush 64, 2) := by decide +kernel
theorem d_Schema_init_17 : decode prog_9_method_1_code 17 = .ok (.newarray .int, 2) := by decide +kernel
theorem d_Schema_init_19 : decode prog_9_method_1_code 19 = .ok (.putfield 17, 3) := by decide +kernel
theorem d_Schema_init_22 : decode prog_9_method_1_code 22 = .ok (.return_, 1) := by decide +kernel
theorem d_Schema_hasRoomFor_0 : decode prog_9_method_4_code 0 = .ok (.aload_n 0, 1) := by decide +kernel
theorem d_Schema_hasRoomFor_1 : decode prog_9_method_4_code 1 = .ok (.getfield 21, 3) := by decide +kernel
theorem d_Schema_hasRoomFor_4 : decode prog_9_method_4_code 4 = .ok (.aload_n 0, 1) := by decide +kernel
theorem d_Schema_hasRoomFor_5 : decode prog_9_method_4_code 5 = .ok (.getfield 11, 3) := by decide +kernel
theorem d_Schema_hasRoomFor_8 : decode prog_9_method_4_code 8 = .ok (.arraylength, 1) := by decide +kernel
theorem d_Schema_hasRoomFor_9 : decode prog_9_method_4_code 9 = .ok (.if_icmp .ge 24, 3) := by decide +kernel
theorem d_Schema_hasRoomFor_12 : decode prog_9_method_4_code 12 = .ok (.iload_n 1, 1) := by decide +kernel
theorem d_Schema_hasRoomFor_13 : decode prog_9_method_4_code 13 = .ok (.iconst 4, 1) := by decide +kernel
theorem d_Schema_hasRoomFor_14 : decode prog_9_method_4_code 14 = .ok (.if_icmp .eq 15, 3) := by decide +kernel
theorem d_Schema_hasRoomFor_17 : decode prog_9_method_4_code 17 = .ok (.aload_n 0, 1) := by decide +kernel
theorem d_Schema_hasRoomFor_18 : decode prog_9_method_4_code 18 = .ok (.getfield 25, 3) := by decide +kernel
theorem d_Schema_hasRoomFor_21 : decode prog_9_method_4_code 21 = .ok (.aload_n 0, 1) := by decide +kernel
theorem d_Schema_hasRoomFor_22 : decode prog_9_method_4_code 22 = .ok (.getfield 17, 3) := by decide +kernel
theorem d_Schema_hasRoomFor_25 : decode prog_9_method_4_code 25 = .ok (.arraylength, 1) := by decide +kernel
theorem d_Schema_hasRoomFor_26 : decode prog_9_method_4_code 26 = .ok (.if_icmp .ge 7, 3) := by decide +kernel
theorem d_Schema_hasRoomFor_29 : decode prog_9_method_4_code 29 = .ok (.iconst 1, 1) := by decide +kernel
theorem d_Schema_hasRoomFor_30 : decode prog_9_method_4_code 30 = .ok (.goto 4, 3) := by decide +kernel
theorem d_Schema_hasRoomFor_33 : decode prog_9_method_4_code 33 = .ok (.iconst 0, 1) := by decide +kernel
theorem d_Schema_hasRoomFor_34 : decode prog_9_method_4_code 34 = .ok (.ireturn, 1) := by decide +kernel
theorem d_Schema_named_0 : decode prog_9_method_8_code 0 = .ok (.iconst 0, 1) := by decide +kernel
theorem d_Schema_named_1 : decode prog_9_method_8_code 1 = .ok (.istore 5, 2) := by decide +kernel
theorem d_Schema_named_3 : decode prog_9_method_8_code 3 = .ok (.iload 5, 2) := by decide +kernel
theorem d_Schema_named_5 : decode prog_9_method_8_code 5 = .ok (.aload_n 0, 1) := by decide +kernel
theorem d_Schema_named_6 : decode prog_9_method_8_code 6 = .ok (.getfield 21, 3) := by decide +kernel
theorem d_Schema_named_9 : decode prog_9_method_8_code 9 = .ok (.if_icmp .ge 46, 3) := by decide +kernel
theorem d_Schema_named_12 : decode prog_9_method_8_code 12 = .ok (.aload_n 0, 1) := by decide +kernel
theorem d_Schema_named_13 : decode prog_9_method_8_code 13 = .ok (.iload 5, 2) := by decide +kernel
theorem d_Schema_named_15 : decode prog_9_method_8_code 15 = .ok (.invokevirtual 48, 3) := by decide +kernel
theorem d_Schema_named_18 : decode prog_9_method_8_code 18 = .ok (.astore 6, 2) := by decide +kernel
theorem d_Schema_named_20 : decode prog_9_method_8_code 20 = .ok (.aload 6, 2) := by decide +kernel
theorem d_Schema_named_22 : decode prog_9_method_8_code 22 = .ok (.ifnull 27, 3) := by decide +kernel
theorem d_Schema_named_25 : decode prog_9_method_8_code 25 = .ok (.aload 6, 2) := by decide +kernel
theorem d_Schema_named_27 : decode prog_9_method_8_code 27 = .ok (.getfield 45, 3) := by decide +kernel
theorem d_Schema_named_30 : decode prog_9_method_8_code 30 = .ok (.iload_n 1, 1) := by decide +kernel
theorem d_Schema_named_31 : decode prog_9_method_8_code 31 = .ok (.if_icmp .ne 18, 3) := by decide +kernel
theorem d_Schema_named_34 : decode prog_9_method_8_code 34 = .ok (.aload 6, 2) := by decide +kernel
theorem d_Schema_named_36 : decode prog_9_method_8_code 36 = .ok (.aload_n 2, 1) := by decide +kernel
theorem d_Schema_named_37 : decode prog_9_method_8_code 37 = .ok (.iload_n 3, 1) := by decide +kernel
theorem d_Schema_named_38 : decode prog_9_method_8_code 38 = .ok (.iload 4, 2) := by decide +kernel
theorem d_Schema_named_40 : decode prog_9_method_8_code 40 = .ok (.invokevirtual 67, 3) := by decide +kernel
theorem d_Schema_named_43 : decode prog_9_method_8_code 43 = .ok (.ifCond .eq 6, 3) := by decide +kernel
theorem d_Schema_named_46 : decode prog_9_method_8_code 46 = .ok (.iload 5, 2) := by decide +kernel
theorem d_Schema_named_48 : decode prog_9_method_8_code 48 = .ok (.ireturn, 1) := by decide +kernel
theorem d_Schema_named_49 : decode prog_9_method_8_code 49 = .ok (.iinc 5 1, 3) := by decide +kernel
theorem d_Schema_named_52 : decode prog_9_method_8_code 52 = .ok (.goto (-49), 3) := by decide +kernel
theorem d_Schema_named_55 : decode prog_9_method_8_code 55 = .ok (.iconst (-1), 1) := by decide +kernel
theorem d_Schema_named_56 : decode prog_9_method_8_code 56 = .ok (.ireturn, 1) := by decide +kernel
theorem d_Schema_fieldAt_0 : decode prog_9_method_2_code 0 = .ok (.iload_n 1, 1) := by decide +kernel
theorem d_Schema_fieldAt_1 : decode prog_9_method_2_code 1 = .ok (.ifCond .lt 20, 3) := by decide +kernel
theorem d_Schema_fieldAt_4 : decode prog_9_method_2_code 4 = .ok (.iload_n 1, 1) := by decide +kernel
theorem d_Schema_fieldAt_5 : decode prog_9_method_2_code 5 = .ok (.aload_n 0, 1) := by decide +kernel
theorem d_Schema_fieldAt_6 : decode prog_9_method_2_code 6 = .ok (.getfield 21, 3) := by decide +kernel
theorem d_Schema_fieldAt_9 : decode prog_9_method_2_code 9 = .ok (.if_icmp .ge 12, 3) := by decide +kernel
theorem d_Schema_fieldAt_12 : decode prog_9_method_2_code 12 = .ok (.iload_n 1, 1) := by decide +kernel
theorem d_Schema_fieldAt_13 : decode prog_9_method_2_code 13 = .ok (.aload_n 0, 1) := by decide +kernel
theorem d_Schema_fieldAt_14 : decode prog_9_method_2_code 14 = .ok (.getfield 11, 3) := by decide +kernel
theorem d_Schema_fieldAt_17 : decode prog_9_method_2_code 17 = .ok (.arraylength, 1) := by decide +kernel
theorem d_Schema_fieldAt_18 : decode prog_9_method_2_code 18 = .ok (.if_icmp .lt 7, 3) := by decide +kernel
theorem d_Schema_fieldAt_21 : decode prog_9_method_2_code 21 = .ok (.aconst_null, 1) := by decide +kernel
theorem d_Schema_fieldAt_22 : decode prog_9_method_2_code 22 = .ok (.goto 9, 3) := by decide +kernel
theorem d_Schema_fieldAt_25 : decode prog_9_method_2_code 25 = .ok (.aload_n 0, 1) := by decide +kernel
theorem d_Schema_fieldAt_26 : decode prog_9_method_2_code 26 = .ok (.getfield 11, 3) := by decide +kernel
theorem d_Schema_fieldAt_29 : decode prog_9_method_2_code 29 = .ok (.iload_n 1, 1) := by decide +kernel
theorem d_Schema_fieldAt_30 : decode prog_9_method_2_code 30 = .ok (.aaload, 1) := by decide +kernel
theorem d_Schema_fieldAt_31 : decode prog_9_method_2_code 31 = .ok (.areturn, 1) := by decide +kernel
theorem d_Schema_append_0 : decode prog_9_method_5_code 0 = .ok (.aload_n 0, 1) := by decide +kernel
theorem d_Schema_append_1 : decode prog_9_method_5_code 1 = .ok (.iload_n 2, 1) := by decide +kernel
theorem d_Schema_append_2 : decode prog_9_method_5_code 2 = .ok (.invokevirtual 28, 3) := by decide +kernel
theorem d_Schema_append_5 : decode prog_9_method_5_code 5 = .ok (.ifCond .ne 5, 3) := by decide +kernel
theorem d_Schema_append_8 : decode prog_9_method_5_code 8 = .ok (.iconst (-1), 1) := by decide +kernel
theorem d_Schema_append_9 : decode prog_9_method_5_code 9 = .ok (.ireturn, 1) := by decide +kernel
theorem d_Schema_append_10 : decode prog_9_method_5_code 10 = .ok (.new 9, 3) := by decide +kernel
theorem d_Schema_append_13 : decode prog_9_method_5_code 13 = .ok (.dup, 1) := by decide +kernel
theorem d_Schema_append_14 : decode prog_9_method_5_code 14 = .ok (.aload_n 0, 1) := by decide +kernel
theorem d_Schema_append_15 : decode prog_9_method_5_code 15 = .ok (.getfield 21, 3) := by decide +kernel
theorem d_Schema_append_18 : decode prog_9_method_5_code 18 = .ok (.iload_n 1, 1) := by decide +kernel
theorem d_Schema_append_19 : decode prog_9_method_5_code 19 = .ok (.iload_n 2, 1) := by decide +kernel
theorem d_Schema_append_20 : decode prog_9_method_5_code 20 = .ok (.iload_n 3, 1) := by decide +kernel
theorem d_Schema_append_21 : decode prog_9_method_5_code 21 = .ok (.aload 4, 2) := by decide +kernel
theorem d_Schema_append_23 : decode prog_9_method_5_code 23 = .ok (.invokespecial 32, 3) := by decide +kernel
theorem d_Schema_append_26 : decode prog_9_method_5_code 26 = .ok (.astore 5, 2) := by decide +kernel
theorem d_Schema_append_28 : decode prog_9_method_5_code 28 = .ok (.aload_n 0, 1) := by decide +kernel
theorem d_Schema_append_29 : decode prog_9_method_5_code 29 = .ok (.aload 5, 2) := by decide +kernel
theorem d_Schema_append_31 : decode prog_9_method_5_code 31 = .ok (.invokevirtual 35, 3) := by decide +kernel
theorem d_Schema_append_34 : decode prog_9_method_5_code 34 = .ok (.iload_n 2, 1) := by decide +kernel
theorem d_Schema_append_35 : decode prog_9_method_5_code 35 = .ok (.iconst 4, 1) := by decide +kernel
theorem d_Schema_append_36 : decode prog_9_method_5_code 36 = .ok (.if_icmp .eq 35, 3) := by decide +kernel
theorem d_Schema_append_39 : decode prog_9_method_5_code 39 = .ok (.aload 5, 2) := by decide +kernel
theorem d_Schema_append_41 : decode prog_9_method_5_code 41 = .ok (.aload_n 0, 1) := by decide +kernel
theorem d_Schema_append_42 : decode prog_9_method_5_code 42 = .ok (.getfield 25, 3) := by decide +kernel
theorem d_Schema_append_45 : decode prog_9_method_5_code 45 = .ok (.putfield 39, 3) := by decide +kernel
theorem d_Schema_append_48 : decode prog_9_method_5_code 48 = .ok (.aload_n 0, 1) := by decide +kernel
theorem d_Schema_append_49 : decode prog_9_method_5_code 49 = .ok (.getfield 17, 3) := by decide +kernel
theorem d_Schema_append_52 : decode prog_9_method_5_code 52 = .ok (.aload_n 0, 1) := by decide +kernel
theorem d_Schema_append_53 : decode prog_9_method_5_code 53 = .ok (.getfield 25, 3) := by decide +kernel
theorem d_Schema_append_56 : decode prog_9_method_5_code 56 = .ok (.aload_n 0, 1) := by decide +kernel
theorem d_Schema_append_57 : decode prog_9_method_5_code 57 = .ok (.getfield 21, 3) := by decide +kernel
theorem d_Schema_append_60 : decode prog_9_method_5_code 60 = .ok (.iastore, 1) := by decide +kernel
theorem d_Schema_append_61 : decode prog_9_method_5_code 61 = .ok (.aload_n 0, 1) := by decide +kernel
theorem d_Schema_append_62 : decode prog_9_method_5_code 62 = .ok (.dup, 1) := by decide +kernel
theorem d_Schema_append_63 : decode prog_9_method_5_code 63 = .ok (.getfield 25, 3) := by decide +kernel
theorem d_Schema_append_66 : decode prog_9_method_5_code 66 = .ok (.iconst 1, 1) := by decide +kernel
theorem d_Schema_append_67 : decode prog_9_method_5_code 67 = .ok (.iadd, 1) := by decide +kernel
theorem d_Schema_append_68 : decode prog_9_method_5_code 68 = .ok (.putfield 25, 3) := by decide +kernel
theorem d_Schema_append_71 : decode prog_9_method_5_code 71 = .ok (.aload_n 0, 1) := by decide +kernel
theorem d_Schema_append_72 : decode prog_9_method_5_code 72 = .ok (.getfield 11, 3) := by decide +kernel
theorem d_Schema_append_75 : decode prog_9_method_5_code 75 = .ok (.aload_n 0, 1) := by decide +kernel
theorem d_Schema_append_76 : decode prog_9_method_5_code 76 = .ok (.getfield 21, 3) := by decide +kernel
theorem d_Schema_append_79 : decode prog_9_method_5_code 79 = .ok (.aload 5, 2) := by decide +kernel
theorem d_Schema_append_81 : decode prog_9_method_5_code 81 = .ok (.aastore, 1) := by decide +kernel
theorem d_Schema_append_82 : decode prog_9_method_5_code 82 = .ok (.aload_n 0, 1) := by decide +kernel
theorem d_Schema_append_83 : decode prog_9_method_5_code 83 = .ok (.dup, 1) := by decide +kernel
theorem d_Schema_append_84 : decode prog_9_method_5_code 84 = .ok (.getfield 21, 3) := by decide +kernel
theorem d_Schema_append_87 : decode prog_9_method_5_code 87 = .ok (.iconst 1, 1) := by decide +kernel
theorem d_Schema_append_88 : decode prog_9_method_5_code 88 = .ok (.iadd, 1) := by decide +kernel
theorem d_Schema_append_89 : decode prog_9_method_5_code 89 = .ok (.putfield 21, 3) := by decide +kernel
theorem d_Schema_append_92 : decode prog_9_method_5_code 92 = .ok (.aload 5, 2) := by decide +kernel
theorem d_Schema_append_94 : decode prog_9_method_5_code 94 = .ok (.getfield 42, 3) := by decide +kernel
theorem d_Schema_append_97 : decode prog_9_method_5_code 97 = .ok (.ireturn, 1) := by decide +kernel
theorem d_Schema_setLevels_0 : decode prog_9_method_6_code 0 = .ok (.aload_n 0, 1) := by decide +kernel
theorem d_Schema_setLevels_1 : decode prog_9_method_6_code 1 = .ok (.aload_n 1, 1) := by decide +kernel
theorem d_Schema_setLevels_2 : decode prog_9_method_6_code 2 = .ok (.getfield 45, 3) := by decide +kernel
theorem d_Schema_setLevels_5 : decode prog_9_method_6_code 5 = .ok (.invokevirtual 48, 3) := by decide +kernel
theorem d_Schema_setLevels_8 : decode prog_9_method_6_code 8 = .ok (.astore_n 2, 1) := by decide +kernel
theorem d_Schema_setLevels_9 : decode prog_9_method_6_code 9 = .ok (.aload_n 2, 1) := by decide +kernel
theorem d_Schema_setLevels_10 : decode prog_9_method_6_code 10 = .ok (.ifnull 19, 3) := by decide +kernel
theorem d_Schema_setLevels_13 : decode prog_9_method_6_code 13 = .ok (.aload_n 1, 1) := by decide +kernel
theorem d_Schema_setLevels_14 : decode prog_9_method_6_code 14 = .ok (.aload_n 2, 1) := by decide +kernel
theorem d_Schema_setLevels_15 : decode prog_9_method_6_code 15 = .ok (.getfield 52, 3) := by decide +kernel
theorem d_Schema_setLevels_18 : decode prog_9_method_6_code 18 = .ok (.putfield 52, 3) := by decide +kernel
theorem d_Schema_setLevels_21 : decode prog_9_method_6_code 21 = .ok (.aload_n 1, 1) := by decide +kernel
theorem d_Schema_setLevels_22 : decode prog_9_method_6_code 22 = .ok (.aload_n 2, 1) := by decide +kernel
theorem d_Schema_setLevels_23 : decode prog_9_method_6_code 23 = .ok (.getfield 55, 3) := by decide +kernel
theorem d_Schema_setLevels_26 : decode prog_9_method_6_code 26 = .ok (.putfield 55, 3) := by decide +kernel
theorem d_Schema_setLevels_29 : decode prog_9_method_6_code 29 = .ok (.aload_n 1, 1) := by decide +kernel
theorem d_Schema_setLevels_30 : decode prog_9_method_6_code 30 = .ok (.getfield 58, 3) := by decide +kernel
theorem d_Schema_setLevels_33 : decode prog_9_method_6_code 33 = .ok (.iconst 2, 1) := by decide +kernel
theorem d_Schema_setLevels_34 : decode prog_9_method_6_code 34 = .ok (.if_icmp .ne 13, 3) := by decide +kernel
theorem d_Schema_setLevels_37 : decode prog_9_method_6_code 37 = .ok (.aload_n 1, 1) := by decide +kernel
theorem d_Schema_setLevels_38 : decode prog_9_method_6_code 38 = .ok (.dup, 1) := by decide +kernel
theorem d_Schema_setLevels_39 : decode prog_9_method_6_code 39 = .ok (.getfield 52, 3) := by decide +kernel
theorem d_Schema_setLevels_42 : decode prog_9_method_6_code 42 = .ok (.iconst 1, 1) := by decide +kernel
theorem d_Schema_setLevels_43 : decode prog_9_method_6_code 43 = .ok (.iadd, 1) := by decide +kernel
theorem d_Schema_setLevels_44 : decode prog_9_method_6_code 44 = .ok (.putfield 52, 3) := by decide +kernel
theorem d_Schema_setLevels_47 : decode prog_9_method_6_code 47 = .ok (.aload_n 1, 1) := by decide +kernel
theorem d_Schema_setLevels_48 : decode prog_9_method_6_code 48 = .ok (.getfield 58, 3) := by decide +kernel
theorem d_Schema_setLevels_51 : decode prog_9_method_6_code 51 = .ok (.ifCond .eq 16, 3) := by decide +kernel
theorem d_Schema_setLevels_54 : decode prog_9_method_6_code 54 = .ok (.aload_n 1, 1) := by decide +kernel
theorem d_Schema_setLevels_55 : decode prog_9_method_6_code 55 = .ok (.dup, 1) := by decide +kernel
theorem d_Schema_setLevels_56 : decode prog_9_method_6_code 56 = .ok (.getfield 55, 3) := by decide +kernel
theorem d_Schema_setLevels_59 : decode prog_9_method_6_code 59 = .ok (.iconst 1, 1) := by decide +kernel
theorem d_Schema_setLevels_60 : decode prog_9_method_6_code 60 = .ok (.iadd, 1) := by decide +kernel
theorem d_Schema_setLevels_61 : decode prog_9_method_6_code 61 = .ok (.putfield 55, 3) := by decide +kernel
theorem d_Schema_setLevels_64 : decode prog_9_method_6_code 64 = .ok (.goto 30, 3) := by decide +kernel
theorem d_Schema_setLevels_67 : decode prog_9_method_6_code 67 = .ok (.aload_n 2, 1) := by decide +kernel
theorem d_Schema_setLevels_68 : decode prog_9_method_6_code 68 = .ok (.ifnull 16, 3) := by decide +kernel
theorem d_Schema_setLevels_71 : decode prog_9_method_6_code 71 = .ok (.aload_n 2, 1) := by decide +kernel
theorem d_Schema_setLevels_72 : decode prog_9_method_6_code 72 = .ok (.dup, 1) := by decide +kernel
theorem d_Schema_setLevels_73 : decode prog_9_method_6_code 73 = .ok (.getfield 61, 3) := by decide +kernel
theorem d_Schema_setLevels_76 : decode prog_9_method_6_code 76 = .ok (.iconst 1, 1) := by decide +kernel
theorem d_Schema_setLevels_77 : decode prog_9_method_6_code 77 = .ok (.iadd, 1) := by decide +kernel
theorem d_Schema_setLevels_78 : decode prog_9_method_6_code 78 = .ok (.putfield 61, 3) := by decide +kernel
theorem d_Schema_setLevels_81 : decode prog_9_method_6_code 81 = .ok (.goto 13, 3) := by decide +kernel
theorem d_Schema_setLevels_84 : decode prog_9_method_6_code 84 = .ok (.aload_n 0, 1) := by decide +kernel
theorem d_Schema_setLevels_85 : decode prog_9_method_6_code 85 = .ok (.dup, 1) := by decide +kernel
theorem d_Schema_setLevels_86 : decode prog_9_method_6_code 86 = .ok (.getfield 64, 3) := by decide +kernel
theorem d_Schema_setLevels_89 : decode prog_9_method_6_code 89 = .ok (.iconst 1, 1) := by decide +kernel
theorem d_Schema_setLevels_90 : decode prog_9_method_6_code 90 = .ok (.iadd, 1) := by decide +kernel
theorem d_Schema_setLevels_91 : decode prog_9_method_6_code 91 = .ok (.putfield 64, 3) := by decide +kernel
theorem d_Schema_setLevels_94 : decode prog_9_method_6_code 94 = .ok (.return_, 1) := by decide +kernel
theorem d_Schema_fieldOfColumn_0 : decode prog_9_method_3_code 0 = .ok (.iload_n 1, 1) := by decide +kernel
theorem d_Schema_fieldOfColumn_1 : decode prog_9_method_3_code 1 = .ok (.ifCond .lt 20, 3) := by decide +kernel
theorem d_Schema_fieldOfColumn_4 : decode prog_9_method_3_code 4 = .ok (.iload_n 1, 1) := by decide +kernel
theorem d_Schema_fieldOfColumn_5 : decode prog_9_method_3_code 5 = .ok (.aload_n 0, 1) := by decide +kernel
theorem d_Schema_fieldOfColumn_6 : decode prog_9_method_3_code 6 = .ok (.getfield 25, 3) := by decide +kernel
theorem d_Schema_fieldOfColumn_9 : decode prog_9_method_3_code 9 = .ok (.if_icmp .ge 12, 3) := by decide +kernel
theorem d_Schema_fieldOfColumn_12 : decode prog_9_method_3_code 12 = .ok (.iload_n 1, 1) := by decide +kernel
theorem d_Schema_fieldOfColumn_13 : decode prog_9_method_3_code 13 = .ok (.aload_n 0, 1) := by decide +kernel
theorem d_Schema_fieldOfColumn_14 : decode prog_9_method_3_code 14 = .ok (.getfield 17, 3) := by decide +kernel
theorem d_Schema_fieldOfColumn_17 : decode prog_9_method_3_code 17 = .ok (.arraylength, 1) := by decide +kernel
theorem d_Schema_fieldOfColumn_18 : decode prog_9_method_3_code 18 = .ok (.if_icmp .lt 7, 3) := by decide +kernel
theorem d_Schema_fieldOfColumn_21 : decode prog_9_method_3_code 21 = .ok (.iconst (-1), 1) := by decide +kernel
theorem d_Schema_fieldOfColumn_22 : decode prog_9_method_3_code 22 = .ok (.goto 9, 3) := by decide +kernel
theorem d_Schema_fieldOfColumn_25 : decode prog_9_method_3_code 25 = .ok (.aload_n 0, 1) := by decide +kernel
theorem d_Schema_fieldOfColumn_26 : decode prog_9_method_3_code 26 = .ok (.getfield 17, 3) := by decide +kernel
theorem d_Schema_fieldOfColumn_29 : decode prog_9_method_3_code 29 = .ok (.iload_n 1, 1) := by decide +kernel
theorem d_Schema_fieldOfColumn_30 : decode prog_9_method_3_code 30 = .ok (.iaload, 1) := by decide +kernel
theorem d_Schema_fieldOfColumn_31 : decode prog_9_method_3_code 31 = .ok (.ireturn, 1) := by decide +kernel
theorem d_Schema_meantFrom_0 : decode prog_9_method_9_code 0 = .ok (.iload_n 1, 1) := by decide +kernel
theorem d_Schema_meantFrom_1 : decode prog_9_method_9_code 1 = .ok (.istore 4, 2) := by decide +kernel
theorem d_Schema_meantFrom_3 : decode prog_9_method_9_code 3 = .ok (.iload 4, 2) := by decide +kernel
theorem d_Schema_meantFrom_5 : decode prog_9_method_9_code 5 = .ok (.aload_n 0, 1) := by decide +kernel
theorem d_Schema_meantFrom_6 : decode prog_9_method_9_code 6 = .ok (.getfield 21, 3) := by decide +kernel
theorem d_Schema_meantFrom_9 : decode prog_9_method_9_code 9 = .ok (.if_icmp .ge 61, 3) := by decide +kernel
theorem d_Schema_meantFrom_12 : decode prog_9_method_9_code 12 = .ok (.aload_n 0, 1) := by decide +kernel
theorem d_Schema_meantFrom_13 : decode prog_9_method_9_code 13 = .ok (.iload 4, 2) := by decide +kernel
theorem d_Schema_meantFrom_15 : decode prog_9_method_9_code 15 = .ok (.invokevirtual 48, 3) := by decide +kernel
theorem d_Schema_meantFrom_18 : decode prog_9_method_9_code 18 = .ok (.astore 5, 2) := by decide +kernel
theorem d_Schema_meantFrom_20 : decode prog_9_method_9_code 20 = .ok (.aload 5, 2) := by decide +kernel
theorem d_Schema_meantFrom_22 : decode prog_9_method_9_code 22 = .ok (.ifnull 42, 3) := by decide +kernel
theorem d_Schema_meantFrom_25 : decode prog_9_method_9_code 25 = .ok (.aload 5, 2) := by decide +kernel
theorem d_Schema_meantFrom_27 : decode prog_9_method_9_code 27 = .ok (.getfield 45, 3) := by decide +kernel
theorem d_Schema_meantFrom_30 : decode prog_9_method_9_code 30 = .ok (.iload_n 2, 1) := by decide +kernel
theorem d_Schema_meantFrom_31 : decode prog_9_method_9_code 31 = .ok (.if_icmp .ne 33, 3) := by decide +kernel
theorem d_Schema_meantFrom_34 : decode prog_9_method_9_code 34 = .ok (.aload 5, 2) := by decide +kernel
theorem d_Schema_meantFrom_36 : decode prog_9_method_9_code 36 = .ok (.aload_n 3, 1) := by decide +kernel
theorem d_Schema_meantFrom_37 : decode prog_9_method_9_code 37 = .ok (.aload_n 3, 1) := by decide +kernel
theorem d_Schema_meantFrom_38 : decode prog_9_method_9_code 38 = .ok (.getfield 71, 3) := by decide +kernel
theorem d_Schema_meantFrom_41 : decode prog_9_method_9_code 41 = .ok (.aload_n 3, 1) := by decide +kernel
theorem d_Schema_meantFrom_42 : decode prog_9_method_9_code 42 = .ok (.getfield 76, 3) := by decide +kernel
theorem d_Schema_meantFrom_45 : decode prog_9_method_9_code 45 = .ok (.invokevirtual 67, 3) := by decide +kernel
theorem d_Schema_meantFrom_48 : decode prog_9_method_9_code 48 = .ok (.ifCond .eq 6, 3) := by decide +kernel
theorem d_Schema_meantFrom_51 : decode prog_9_method_9_code 51 = .ok (.iload 4, 2) := by decide +kernel
theorem d_Schema_meantFrom_53 : decode prog_9_method_9_code 53 = .ok (.ireturn, 1) := by decide +kernel
theorem d_Schema_meantFrom_54 : decode prog_9_method_9_code 54 = .ok (.aload 5, 2) := by decide +kernel
theorem d_Schema_meantFrom_56 : decode prog_9_method_9_code 56 = .ok (.getfield 58, 3) := by decide +kernel
theorem d_Schema_meantFrom_59 : decode prog_9_method_9_code 59 = .ok (.ifCond .ne 5, 3) := by decide +kernel
theorem d_Schema_meantFrom_62 : decode prog_9_method_9_code 62 = .ok (.iconst (-1), 1) := by decide +kernel
theorem d_Schema_meantFrom_63 : decode prog_9_method_9_code 63 = .ok (.ireturn, 1) := by decide +kernel
theorem d_Schema_meantFrom_64 : decode prog_9_method_9_code 64 = .ok (.iinc 4 1, 3) := by decide +kernel
theorem d_Schema_meantFrom_67 : decode prog_9_method_9_code 67 = .ok (.goto (-64), 3) := by decide +kernel
theorem d_Schema_meantFrom_70 : decode prog_9_method_9_code 70 = .ok (.iconst (-1), 1) := by decide +kernel
theorem d_Schema_meantFrom_71 : decode prog_9_method_9_code 71 = .ok (.ireturn, 1) := by decide +kernel
theorem d_Schema_hasRequiredFrom_0 : decode prog_9_method_10_code 0 = .ok (.iload_n 1, 1) := by decide +kernel
theorem d_Schema_hasRequiredFrom_1 : decode prog_9_method_10_code 1 = .ok (.istore_n 3, 1) := by decide +kernel
theorem d_Schema_hasRequiredFrom_2 : decode prog_9_method_10_code 2 = .ok (.iload_n 3, 1) := by decide +kernel
theorem d_Schema_hasRequiredFrom_3 : decode prog_9_method_10_code 3 = .ok (.aload_n 0, 1) := by decide +kernel
theorem d_Schema_hasRequiredFrom_4 : decode prog_9_method_10_code 4 = .ok (.getfield 21, 3) := by decide +kernel
theorem d_Schema_hasRequiredFrom_7 : decode prog_9_method_10_code 7 = .ok (.if_icmp .ge 40, 3) := by decide +kernel
theorem d_Schema_hasRequiredFrom_10 : decode prog_9_method_10_code 10 = .ok (.aload_n 0, 1) := by decide +kernel
theorem d_Schema_hasRequiredFrom_11 : decode prog_9_method_10_code 11 = .ok (.iload_n 3, 1) := by decide +kernel
theorem d_Schema_hasRequiredFrom_12 : decode prog_9_method_10_code 12 = .ok (.invokevirtual 48, 3) := by decide +kernel
theorem d_Schema_hasRequiredFrom_15 : decode prog_9_method_10_code 15 = .ok (.astore 4, 2) := by decide +kernel
theorem d_Schema_hasRequiredFrom_17 : decode prog_9_method_10_code 17 = .ok (.aload 4, 2) := by decide +kernel
theorem d_Schema_hasRequiredFrom_19 : decode prog_9_method_10_code 19 = .ok (.ifnull 22, 3) := by decide +kernel
theorem d_Schema_hasRequiredFrom_22 : decode prog_9_method_10_code 22 = .ok (.aload 4, 2) := by decide +kernel
theorem d_Schema_hasRequiredFrom_24 : decode prog_9_method_10_code 24 = .ok (.getfield 45, 3) := by decide +kernel
theorem d_Schema_hasRequiredFrom_27 : decode prog_9_method_10_code 27 = .ok (.iload_n 2, 1) := by decide +kernel
theorem d_Schema_hasRequiredFrom_28 : decode prog_9_method_10_code 28 = .ok (.if_icmp .ne 13, 3) := by decide +kernel
theorem d_Schema_hasRequiredFrom_31 : decode prog_9_method_10_code 31 = .ok (.aload 4, 2) := by decide +kernel
theorem d_Schema_hasRequiredFrom_33 : decode prog_9_method_10_code 33 = .ok (.getfield 58, 3) := by decide +kernel
theorem d_Schema_hasRequiredFrom_36 : decode prog_9_method_10_code 36 = .ok (.ifCond .ne 5, 3) := by decide +kernel
theorem d_Schema_hasRequiredFrom_39 : decode prog_9_method_10_code 39 = .ok (.iconst 1, 1) := by decide +kernel
theorem d_Schema_hasRequiredFrom_40 : decode prog_9_method_10_code 40 = .ok (.ireturn, 1) := by decide +kernel
theorem d_Schema_hasRequiredFrom_41 : decode prog_9_method_10_code 41 = .ok (.iinc 3 1, 3) := by decide +kernel
theorem d_Schema_hasRequiredFrom_44 : decode prog_9_method_10_code 44 = .ok (.goto (-42), 3) := by decide +kernel
theorem d_Schema_hasRequiredFrom_47 : decode prog_9_method_10_code 47 = .ok (.iconst 0, 1) := by decide +kernel
theorem d_Schema_hasRequiredFrom_48 : decode prog_9_method_10_code 48 = .ok (.ireturn, 1) := by decide +kernel
theorem d_Schema_requiredOf_0 : decode prog_9_method_7_code 0 = .ok (.iload_n 1, 1) := by decide +kernel
theorem d_Schema_requiredOf_1 : decode prog_9_method_7_code 1 = .ok (.iconst (-1), 1) := by decide +kernel
theorem d_Schema_requiredOf_2 : decode prog_9_method_7_code 2 = .ok (.if_icmp .ne 8, 3) := by decide +kernel
theorem d_Schema_requiredOf_5 : decode prog_9_method_7_code 5 = .ok (.aload_n 0, 1) := by decide +kernel
theorem d_Schema_requiredOf_6 : decode prog_9_method_7_code 6 = .ok (.getfield 64, 3) := by decide +kernel
theorem d_Schema_requiredOf_9 : decode prog_9_method_7_code 9 = .ok (.ireturn, 1) := by decide +kernel
theorem d_Schema_requiredOf_10 : decode prog_9_method_7_code 10 = .ok (.aload_n 0, 1) := by decide +kernel
theorem d_Schema_requiredOf_11 : decode prog_9_method_7_code 11 = .ok (.iload_n 1, 1) := by decide +kernel
theorem d_Schema_requiredOf_12 : decode prog_9_method_7_code 12 = .ok (.invokevirtual 48, 3) := by decide +kernel
theorem d_Schema_requiredOf_15 : decode prog_9_method_7_code 15 = .ok (.astore_n 2, 1) := by decide +kernel
theorem d_Schema_requiredOf_16 : decode prog_9_method_7_code 16 = .ok (.aload_n 2, 1) := by decide +kernel
theorem d_Schema_requiredOf_17 : decode prog_9_method_7_code 17 = .ok (.ifnonnull 7, 3) := by decide +kernel
theorem d_Schema_requiredOf_20 : decode prog_9_method_7_code 20 = .ok (.iconst 0, 1) := by decide +kernel
theorem d_Schema_requiredOf_21 : decode prog_9_method_7_code 21 = .ok (.goto 7, 3) := by decide +kernel
theorem d_Schema_requiredOf_24 : decode prog_9_method_7_code 24 = .ok (.aload_n 2, 1) := by decide +kernel
theorem d_Schema_requiredOf_25 : decode prog_9_method_7_code 25 = .ok (.getfield 61, 3) := by decide +kernel
theorem d_Schema_requiredOf_28 : decode prog_9_method_7_code 28 = .ok (.ireturn, 1) := by decide +kernel
theorem d_NodeRow_init_0 : decode prog_5_method_1_code 0 = .ok (.aload_n 0, 1) := by decide +kernel
theorem d_NodeRow_init_1 : decode prog_5_method_1_code 1 = .ok (.invokespecial 3, 3) := by decide +kernel
theorem d_NodeRow_init_4 : decode prog_5_method_1_code 4 = .ok (.aload_n 0, 1) := by decide +kernel
theorem d_NodeRow_init_5 : decode prog_5_method_1_code 5 = .ok (.sipush 2000, 3) := by decide +kernel
theorem d_NodeRow_init_8 : decode prog_5_method_1_code 8 = .ok (.anewarray 9, 3) := by decide +kernel
theorem d_NodeRow_init_11 : decode prog_5_method_1_code 11 = .ok (.putfield 11, 3) := by decide +kernel
theorem d_NodeRow_init_14 : decode prog_5_method_1_code 14 = .ok (.aload_n 0, 1) := by decide +kernel
theorem d_NodeRow_init_15 : decode prog_5_method_1_code 15 = .ok (.invokevirtual 17, 3) := by decide +kernel
theorem d_NodeRow_init_18 : decode prog_5_method_1_code 18 = .ok (.return_, 1) := by decide +kernel
theorem d_NodeRow_clear_0 : decode prog_5_method_2_code 0 = .ok (.aload_n 0, 1) := by decide +kernel
theorem d_NodeRow_clear_1 : decode prog_5_method_2_code 1 = .ok (.getfield 11, 3) := by decide +kernel
theorem d_NodeRow_clear_4 : decode prog_5_method_2_code 4 = .ok (.iconst 0, 1) := by decide +kernel
theorem d_NodeRow_clear_5 : decode prog_5_method_2_code 5 = .ok (.new 9, 3) := by decide +kernel
theorem d_NodeRow_clear_8 : decode prog_5_method_2_code 8 = .ok (.dup, 1) := by decide +kernel
theorem d_NodeRow_clear_9 : decode prog_5_method_2_code 9 = .ok (.iconst (-1), 1) := by decide +kernel
theorem d_NodeRow_clear_10 : decode prog_5_method_2_code 10 = .ok (.iconst (-1), 1) := by decide +kernel
theorem d_NodeRow_clear_11 : decode prog_5_method_2_code 11 = .ok (.lconst 0, 1) := by decide +kernel
theorem d_NodeRow_clear_12 : decode prog_5_method_2_code 12 = .ok (.getstatic 20, 3) := by decide +kernel
theorem d_NodeRow_clear_15 : decode prog_5_method_2_code 15 = .ok (.invokespecial 24, 3) := by decide +kernel
theorem d_NodeRow_clear_18 : decode prog_5_method_2_code 18 = .ok (.aastore, 1) := by decide +kernel
theorem d_NodeRow_clear_19 : decode prog_5_method_2_code 19 = .ok (.aload_n 0, 1) := by decide +kernel
theorem d_NodeRow_clear_20 : decode prog_5_method_2_code 20 = .ok (.iconst 1, 1) := by decide +kernel
theorem d_NodeRow_clear_21 : decode prog_5_method_2_code 21 = .ok (.putfield 27, 3) := by decide +kernel
theorem d_NodeRow_clear_24 : decode prog_5_method_2_code 24 = .ok (.aload_n 0, 1) := by decide +kernel
theorem d_NodeRow_clear_25 : decode prog_5_method_2_code 25 = .ok (.iconst 0, 1) := by decide +kernel
theorem d_NodeRow_clear_26 : decode prog_5_method_2_code 26 = .ok (.putfield 31, 3) := by decide +kernel
theorem d_NodeRow_clear_29 : decode prog_5_method_2_code 29 = .ok (.return_, 1) := by decide +kernel
theorem d_NodeRow_append_0 : decode prog_5_method_4_code 0 = .ok (.aload_n 0, 1) := by decide +kernel
theorem d_NodeRow_append_1 : decode prog_5_method_4_code 1 = .ok (.iload_n 1, 1) := by decide +kernel
theorem d_NodeRow_append_2 : decode prog_5_method_4_code 2 = .ok (.invokevirtual 34, 3) := by decide +kernel
theorem d_NodeRow_append_5 : decode prog_5_method_4_code 5 = .ok (.astore 6, 2) := by decide +kernel
theorem d_NodeRow_append_7 : decode prog_5_method_4_code 7 = .ok (.aload 6, 2) := by decide +kernel
theorem d_NodeRow_append_9 : decode prog_5_method_4_code 9 = .ok (.ifnull 29, 3) := by decide +kernel
theorem d_NodeRow_append_12 : decode prog_5_method_4_code 12 = .ok (.aload_n 0, 1) := by decide +kernel
theorem d_NodeRow_append_13 : decode prog_5_method_4_code 13 = .ok (.getfield 27, 3) := by decide +kernel
theorem d_NodeRow_append_16 : decode prog_5_method_4_code 16 = .ok (.aload_n 0, 1) := by decide +kernel
theorem d_NodeRow_append_17 : decode prog_5_method_4_code 17 = .ok (.getfield 11, 3) := by decide +kernel
theorem d_NodeRow_append_20 : decode prog_5_method_4_code 20 = .ok (.arraylength, 1) := by decide +kernel
theorem d_NodeRow_append_21 : decode prog_5_method_4_code 21 = .ok (.if_icmp .ge 17, 3) := by decide +kernel
theorem d_NodeRow_append_24 : decode prog_5_method_4_code 24 = .ok (.aload_n 0, 1) := by decide +kernel
theorem d_NodeRow_append_25 : decode prog_5_method_4_code 25 = .ok (.getfield 31, 3) := by decide +kernel
theorem d_NodeRow_append_28 : decode prog_5_method_4_code 28 = .ok (.aload 5, 2) := by decide +kernel
theorem d_NodeRow_append_30 : decode prog_5_method_4_code 30 = .ok (.arraylength, 1) := by decide +kernel
theorem d_NodeRow_append_31 : decode prog_5_method_4_code 31 = .ok (.iadd, 1) := by decide +kernel
theorem d_NodeRow_append_32 : decode prog_5_method_4_code 32 = .ok (.sipush 16000, 3) := by decide +kernel
theorem d_NodeRow_append_35 : decode prog_5_method_4_code 35 = .ok (.if_icmp .le 5, 3) := by decide +kernel
theorem d_NodeRow_append_38 : decode prog_5_method_4_code 38 = .ok (.iconst (-1), 1) := by decide +kernel
theorem d_NodeRow_append_39 : decode prog_5_method_4_code 39 = .ok (.ireturn, 1) := by decide +kernel
theorem d_NodeRow_append_40 : decode prog_5_method_4_code 40 = .ok (.aload 6, 2) := by decide +kernel
theorem d_NodeRow_append_42 : decode prog_5_method_4_code 42 = .ok (.dup, 1) := by decide +kernel
theorem d_NodeRow_append_43 : decode prog_5_method_4_code 43 = .ok (.getfield 38, 3) := by decide +kernel
theorem d_NodeRow_append_46 : decode prog_5_method_4_code 46 = .ok (.iconst 1, 1) := by decide +kernel
theorem d_NodeRow_append_47 : decode prog_5_method_4_code 47 = .ok (.iadd, 1) := by decide +kernel
theorem d_NodeRow_append_48 : decode prog_5_method_4_code 48 = .ok (.putfield 38, 3) := by decide +kernel
theorem d_NodeRow_append_51 : decode prog_5_method_4_code 51 = .ok (.aload 6, 2) := by decide +kernel
theorem d_NodeRow_append_53 : decode prog_5_method_4_code 53 = .ok (.aload_n 2, 1) := by decide +kernel
theorem d_NodeRow_append_54 : decode prog_5_method_4_code 54 = .ok (.getfield 41, 3) := by decide +kernel
theorem d_NodeRow_append_57 : decode prog_5_method_4_code 57 = .ok (.putfield 46, 3) := by decide +kernel
theorem d_NodeRow_append_60 : decode prog_5_method_4_code 60 = .ok (.aload_n 2, 1) := by decide +kernel
theorem d_NodeRow_append_61 : decode prog_5_method_4_code 61 = .ok (.getfield 49, 3) := by decide +kernel
theorem d_NodeRow_append_64 : decode prog_5_method_4_code 64 = .ok (.ifCond .ne 14, 3) := by decide +kernel
theorem d_NodeRow_append_67 : decode prog_5_method_4_code 67 = .ok (.aload 6, 2) := by decide +kernel
theorem d_NodeRow_append_69 : decode prog_5_method_4_code 69 = .ok (.dup, 1) := by decide +kernel
theorem d_NodeRow_append_70 : decode prog_5_method_4_code 70 = .ok (.getfield 52, 3) := by decide +kernel
theorem d_NodeRow_append_73 : decode prog_5_method_4_code 73 = .ok (.iconst 1, 1) := by decide +kernel
theorem d_NodeRow_append_74 : decode prog_5_method_4_code 74 = .ok (.iadd, 1) := by decide +kernel
theorem d_NodeRow_append_75 : decode prog_5_method_4_code 75 = .ok (.putfield 52, 3) := by decide +kernel
theorem d_NodeRow_append_78 : decode prog_5_method_4_code 78 = .ok (.aload_n 0, 1) := by decide +kernel
theorem d_NodeRow_append_79 : decode prog_5_method_4_code 79 = .ok (.getfield 11, 3) := by decide +kernel
theorem d_NodeRow_append_82 : decode prog_5_method_4_code 82 = .ok (.aload_n 0, 1) := by decide +kernel
theorem d_NodeRow_append_83 : decode prog_5_method_4_code 83 = .ok (.getfield 27, 3) := by decide +kernel
theorem d_NodeRow_append_86 : decode prog_5_method_4_code 86 = .ok (.new 9, 3) := by decide +kernel
theorem d_NodeRow_append_89 : decode prog_5_method_4_code 89 = .ok (.dup, 1) := by decide +kernel
theorem d_NodeRow_append_90 : decode prog_5_method_4_code 90 = .ok (.aload_n 2, 1) := by decide +kernel
theorem d_NodeRow_append_91 : decode prog_5_method_4_code 91 = .ok (.getfield 41, 3) := by decide +kernel
theorem d_NodeRow_append_94 : decode prog_5_method_4_code 94 = .ok (.iload_n 1, 1) := by decide +kernel
theorem d_NodeRow_append_95 : decode prog_5_method_4_code 95 = .ok (.lload_n 3, 1) := by decide +kernel
theorem d_NodeRow_append_96 : decode prog_5_method_4_code 96 = .ok (.aload 5, 2) := by decide +kernel
theorem d_NodeRow_append_98 : decode prog_5_method_4_code 98 = .ok (.invokespecial 24, 3) := by decide +kernel
theorem d_NodeRow_append_101 : decode prog_5_method_4_code 101 = .ok (.aastore, 1) := by decide +kernel
theorem d_NodeRow_append_102 : decode prog_5_method_4_code 102 = .ok (.aload_n 0, 1) := by decide +kernel
theorem d_NodeRow_append_103 : decode prog_5_method_4_code 103 = .ok (.dup, 1) := by decide +kernel
theorem d_NodeRow_append_104 : decode prog_5_method_4_code 104 = .ok (.getfield 31, 3) := by decide +kernel
theorem d_NodeRow_append_107 : decode prog_5_method_4_code 107 = .ok (.aload 5, 2) := by decide +kernel
theorem d_NodeRow_append_109 : decode prog_5_method_4_code 109 = .ok (.arraylength, 1) := by decide +kernel
theorem d_NodeRow_append_110 : decode prog_5_method_4_code 110 = .ok (.iadd, 1) := by decide +kernel
theorem d_NodeRow_append_111 : decode prog_5_method_4_code 111 = .ok (.putfield 31, 3) := by decide +kernel
theorem d_NodeRow_append_114 : decode prog_5_method_4_code 114 = .ok (.aload_n 0, 1) := by decide +kernel
theorem d_NodeRow_append_115 : decode prog_5_method_4_code 115 = .ok (.dup, 1) := by decide +kernel
theorem d_NodeRow_append_116 : decode prog_5_method_4_code 116 = .ok (.getfield 27, 3) := by decide +kernel
theorem d_NodeRow_append_119 : decode prog_5_method_4_code 119 = .ok (.iconst 1, 1) := by decide +kernel
theorem d_NodeRow_append_120 : decode prog_5_method_4_code 120 = .ok (.iadd, 1) := by decide +kernel
theorem d_NodeRow_append_121 : decode prog_5_method_4_code 121 = .ok (.putfield 27, 3) := by decide +kernel
theorem d_NodeRow_append_124 : decode prog_5_method_4_code 124 = .ok (.aload_n 0, 1) := by decide +kernel
theorem d_NodeRow_append_125 : decode prog_5_method_4_code 125 = .ok (.getfield 27, 3) := by decide +kernel
theorem d_NodeRow_append_128 : decode prog_5_method_4_code 128 = .ok (.iconst 1, 1) := by decide +kernel
theorem d_NodeRow_append_129 : decode prog_5_method_4_code 129 = .ok (.isub, 1) := by decide +kernel
theorem d_NodeRow_append_130 : decode prog_5_method_4_code 130 = .ok (.ireturn, 1) := by decide +kernel
theorem d_NodeRow_nodeAt_0 : decode prog_5_method_3_code 0 = .ok (.iload_n 1, 1) := by decide +kernel
theorem d_NodeRow_nodeAt_1 : decode prog_5_method_3_code 1 = .ok (.ifCond .lt 20, 3) := by decide +kernel
theorem d_NodeRow_nodeAt_4 : decode prog_5_method_3_code 4 = .ok (.iload_n 1, 1) := by decide +kernel
theorem d_NodeRow_nodeAt_5 : decode prog_5_method_3_code 5 = .ok (.aload_n 0, 1) := by decide +kernel
theorem d_NodeRow_nodeAt_6 : decode prog_5_method_3_code 6 = .ok (.getfield 27, 3) := by decide +kernel
theorem d_NodeRow_nodeAt_9 : decode prog_5_method_3_code 9 = .ok (.if_icmp .ge 12, 3) := by decide +kernel
theorem d_NodeRow_nodeAt_12 : decode prog_5_method_3_code 12 = .ok (.iload_n 1, 1) := by decide +kernel
theorem d_NodeRow_nodeAt_13 : decode prog_5_method_3_code 13 = .ok (.aload_n 0, 1) := by decide +kernel
theorem d_NodeRow_nodeAt_14 : decode prog_5_method_3_code 14 = .ok (.getfield 11, 3) := by decide +kernel
theorem d_NodeRow_nodeAt_17 : decode prog_5_method_3_code 17 = .ok (.arraylength, 1) := by decide +kernel
theorem d_NodeRow_nodeAt_18 : decode prog_5_method_3_code 18 = .ok (.if_icmp .lt 7, 3) := by decide +kernel
theorem d_NodeRow_nodeAt_21 : decode prog_5_method_3_code 21 = .ok (.aconst_null, 1) := by decide +kernel
theorem d_NodeRow_nodeAt_22 : decode prog_5_method_3_code 22 = .ok (.goto 9, 3) := by decide +kernel
theorem d_NodeRow_nodeAt_25 : decode prog_5_method_3_code 25 = .ok (.aload_n 0, 1) := by decide +kernel
theorem d_NodeRow_nodeAt_26 : decode prog_5_method_3_code 26 = .ok (.getfield 11, 3) := by decide +kernel
theorem d_NodeRow_nodeAt_29 : decode prog_5_method_3_code 29 = .ok (.iload_n 1, 1) := by decide +kernel
theorem d_NodeRow_nodeAt_30 : decode prog_5_method_3_code 30 = .ok (.aaload, 1) := by decide +kernel
theorem d_NodeRow_nodeAt_31 : decode prog_5_method_3_code 31 = .ok (.areturn, 1) := by decide +kernel
theorem d_NodeRow_mayTake_0 : decode prog_5_method_5_code 0 = .ok (.aload_n 0, 1) := by decide +kernel
theorem d_NodeRow_mayTake_1 : decode prog_5_method_5_code 1 = .ok (.iload_n 1, 1) := by decide +kernel
theorem d_NodeRow_mayTake_2 : decode prog_5_method_5_code 2 = .ok (.invokevirtual 34, 3) := by decide +kernel
theorem d_NodeRow_mayTake_5 : decode prog_5_method_5_code 5 = .ok (.astore_n 3, 1) := by decide +kernel
theorem d_NodeRow_mayTake_6 : decode prog_5_method_5_code 6 = .ok (.aload_n 3, 1) := by decide +kernel
theorem d_NodeRow_mayTake_7 : decode prog_5_method_5_code 7 = .ok (.ifnull 22, 3) := by decide +kernel
theorem d_NodeRow_mayTake_10 : decode prog_5_method_5_code 10 = .ok (.aload_n 3, 1) := by decide +kernel
theorem d_NodeRow_mayTake_11 : decode prog_5_method_5_code 11 = .ok (.getfield 55, 3) := by decide +kernel
theorem d_NodeRow_mayTake_14 : decode prog_5_method_5_code 14 = .ok (.aload_n 2, 1) := by decide +kernel
theorem d_NodeRow_mayTake_15 : decode prog_5_method_5_code 15 = .ok (.getfield 58, 3) := by decide +kernel
theorem d_NodeRow_mayTake_18 : decode prog_5_method_5_code 18 = .ok (.if_icmp .ne 11, 3) := by decide +kernel
theorem d_NodeRow_mayTake_21 : decode prog_5_method_5_code 21 = .ok (.aload_n 0, 1) := by decide +kernel
theorem d_NodeRow_mayTake_22 : decode prog_5_method_5_code 22 = .ok (.iload_n 1, 1) := by decide +kernel
theorem d_NodeRow_mayTake_23 : decode prog_5_method_5_code 23 = .ok (.invokevirtual 61, 3) := by decide +kernel
theorem d_NodeRow_mayTake_26 : decode prog_5_method_5_code 26 = .ok (.ifCond .ne 5, 3) := by decide +kernel
theorem d_NodeRow_mayTake_29 : decode prog_5_method_5_code 29 = .ok (.iconst 0, 1) := by decide +kernel
theorem d_NodeRow_mayTake_30 : decode prog_5_method_5_code 30 = .ok (.ireturn, 1) := by decide +kernel
theorem d_NodeRow_mayTake_31 : decode prog_5_method_5_code 31 = .ok (.aload_n 2, 1) := by decide +kernel
theorem d_NodeRow_mayTake_32 : decode prog_5_method_5_code 32 = .ok (.getfield 41, 3) := by decide +kernel
theorem d_NodeRow_mayTake_35 : decode prog_5_method_5_code 35 = .ok (.aload_n 3, 1) := by decide +kernel
theorem d_NodeRow_mayTake_36 : decode prog_5_method_5_code 36 = .ok (.getfield 46, 3) := by decide +kernel
theorem d_NodeRow_mayTake_39 : decode prog_5_method_5_code 39 = .ok (.if_icmp .gt 22, 3) := by decide +kernel
theorem d_NodeRow_mayTake_42 : decode prog_5_method_5_code 42 = .ok (.aload_n 2, 1) := by decide +kernel
theorem d_NodeRow_mayTake_43 : decode prog_5_method_5_code 43 = .ok (.getfield 41, 3) := by decide +kernel
theorem d_NodeRow_mayTake_46 : decode prog_5_method_5_code 46 = .ok (.aload_n 3, 1) := by decide +kernel
theorem d_NodeRow_mayTake_47 : decode prog_5_method_5_code 47 = .ok (.getfield 46, 3) := by decide +kernel
theorem d_NodeRow_mayTake_50 : decode prog_5_method_5_code 50 = .ok (.if_icmp .ne 15, 3) := by decide +kernel
theorem d_NodeRow_mayTake_53 : decode prog_5_method_5_code 53 = .ok (.aload_n 2, 1) := by decide +kernel
theorem d_NodeRow_mayTake_54 : decode prog_5_method_5_code 54 = .ok (.getfield 49, 3) := by decide +kernel
theorem d_NodeRow_mayTake_57 : decode prog_5_method_5_code 57 = .ok (.iconst 2, 1) := by decide +kernel
theorem d_NodeRow_mayTake_58 : decode prog_5_method_5_code 58 = .ok (.if_icmp .ne 7, 3) := by decide +kernel
theorem d_NodeRow_mayTake_61 : decode prog_5_method_5_code 61 = .ok (.iconst 1, 1) := by decide +kernel
theorem d_NodeRow_mayTake_62 : decode prog_5_method_5_code 62 = .ok (.goto 4, 3) := by decide +kernel
theorem d_NodeRow_mayTake_65 : decode prog_5_method_5_code 65 = .ok (.iconst 0, 1) := by decide +kernel
theorem d_NodeRow_mayTake_66 : decode prog_5_method_5_code 66 = .ok (.ireturn, 1) := by decide +kernel
theorem d_NodeRow_isOpen_0 : decode prog_5_method_6_code 0 = .ok (.aload_n 0, 1) := by decide +kernel
theorem d_NodeRow_isOpen_1 : decode prog_5_method_6_code 1 = .ok (.getfield 27, 3) := by decide +kernel
theorem d_NodeRow_isOpen_4 : decode prog_5_method_6_code 4 = .ok (.iconst 1, 1) := by decide +kernel
theorem d_NodeRow_isOpen_5 : decode prog_5_method_6_code 5 = .ok (.isub, 1) := by decide +kernel
theorem d_NodeRow_isOpen_6 : decode prog_5_method_6_code 6 = .ok (.istore_n 2, 1) := by decide +kernel
theorem d_NodeRow_isOpen_7 : decode prog_5_method_6_code 7 = .ok (.iconst 0, 1) := by decide +kernel
theorem d_NodeRow_isOpen_8 : decode prog_5_method_6_code 8 = .ok (.istore_n 3, 1) := by decide +kernel
theorem d_NodeRow_isOpen_9 : decode prog_5_method_6_code 9 = .ok (.iload_n 3, 1) := by decide +kernel
theorem d_NodeRow_isOpen_10 : decode prog_5_method_6_code 10 = .ok (.aload_n 0, 1) := by decide +kernel
theorem d_NodeRow_isOpen_11 : decode prog_5_method_6_code 11 = .ok (.getfield 27, 3) := by decide +kernel
theorem d_NodeRow_isOpen_14 : decode prog_5_method_6_code 14 = .ok (.if_icmp .ge 36, 3) := by decide +kernel
theorem d_NodeRow_isOpen_17 : decode prog_5_method_6_code 17 = .ok (.iload_n 2, 1) := by decide +kernel
theorem d_NodeRow_isOpen_18 : decode prog_5_method_6_code 18 = .ok (.iload_n 1, 1) := by decide +kernel
theorem d_NodeRow_isOpen_19 : decode prog_5_method_6_code 19 = .ok (.if_icmp .le 31, 3) := by decide +kernel
theorem d_NodeRow_isOpen_22 : decode prog_5_method_6_code 22 = .ok (.aload_n 0, 1) := by decide +kernel
theorem d_NodeRow_isOpen_23 : decode prog_5_method_6_code 23 = .ok (.iload_n 2, 1) := by decide +kernel
theorem d_NodeRow_isOpen_24 : decode prog_5_method_6_code 24 = .ok (.invokevirtual 34, 3) := by decide +kernel
theorem d_NodeRow_isOpen_27 : decode prog_5_method_6_code 27 = .ok (.astore 4, 2) := by decide +kernel
theorem d_NodeRow_isOpen_29 : decode prog_5_method_6_code 29 = .ok (.aload 4, 2) := by decide +kernel
theorem d_NodeRow_isOpen_31 : decode prog_5_method_6_code 31 = .ok (.ifnonnull 7, 3) := by decide +kernel
theorem d_NodeRow_isOpen_34 : decode prog_5_method_6_code 34 = .ok (.iconst (-1), 1) := by decide +kernel
theorem d_NodeRow_isOpen_35 : decode prog_5_method_6_code 35 = .ok (.goto 8, 3) := by decide +kernel
theorem d_NodeRow_isOpen_38 : decode prog_5_method_6_code 38 = .ok (.aload 4, 2) := by decide +kernel
theorem d_NodeRow_isOpen_40 : decode prog_5_method_6_code 40 = .ok (.getfield 65, 3) := by decide +kernel
theorem d_NodeRow_isOpen_43 : decode prog_5_method_6_code 43 = .ok (.istore_n 2, 1) := by decide +kernel
theorem d_NodeRow_isOpen_44 : decode prog_5_method_6_code 44 = .ok (.iinc 3 1, 3) := by decide +kernel
theorem d_NodeRow_isOpen_47 : decode prog_5_method_6_code 47 = .ok (.goto (-38), 3) := by decide +kernel
theorem d_NodeRow_isOpen_50 : decode prog_5_method_6_code 50 = .ok (.iload_n 2, 1) := by decide +kernel
theorem d_NodeRow_isOpen_51 : decode prog_5_method_6_code 51 = .ok (.iload_n 1, 1) := by decide +kernel
theorem d_NodeRow_isOpen_52 : decode prog_5_method_6_code 52 = .ok (.if_icmp .ne 7, 3) := by decide +kernel
theorem d_NodeRow_isOpen_55 : decode prog_5_method_6_code 55 = .ok (.iconst 1, 1) := by decide +kernel
theorem d_NodeRow_isOpen_56 : decode prog_5_method_6_code 56 = .ok (.goto 4, 3) := by decide +kernel
theorem d_NodeRow_isOpen_59 : decode prog_5_method_6_code 59 = .ok (.iconst 0, 1) := by decide +kernel
theorem d_NodeRow_isOpen_60 : decode prog_5_method_6_code 60 = .ok (.ireturn, 1) := by decide +kernel
theorem d_NodeRow_lacksNothing_0 : decode prog_5_method_7_code 0 = .ok (.iconst 0, 1) := by decide +kernel
theorem d_NodeRow_lacksNothing_1 : decode prog_5_method_7_code 1 = .ok (.istore_n 2, 1) := by decide +kernel
theorem d_NodeRow_lacksNothing_2 : decode prog_5_method_7_code 2 = .ok (.iload_n 2, 1) := by decide +kernel
theorem d_NodeRow_lacksNothing_3 : decode prog_5_method_7_code 3 = .ok (.aload_n 0, 1) := by decide +kernel
theorem d_NodeRow_lacksNothing_4 : decode prog_5_method_7_code 4 = .ok (.getfield 27, 3) := by decide +kernel
theorem d_NodeRow_lacksNothing_7 : decode prog_5_method_7_code 7 = .ok (.if_icmp .ge 36, 3) := by decide +kernel
theorem d_NodeRow_lacksNothing_10 : decode prog_5_method_7_code 10 = .ok (.aload_n 0, 1) := by decide +kernel
theorem d_NodeRow_lacksNothing_11 : decode prog_5_method_7_code 11 = .ok (.iload_n 2, 1) := by decide +kernel
theorem d_NodeRow_lacksNothing_12 : decode prog_5_method_7_code 12 = .ok (.invokevirtual 34, 3) := by decide +kernel
theorem d_NodeRow_lacksNothing_15 : decode prog_5_method_7_code 15 = .ok (.astore_n 3, 1) := by decide +kernel
theorem d_NodeRow_lacksNothing_16 : decode prog_5_method_7_code 16 = .ok (.aload_n 3, 1) := by decide +kernel
theorem d_NodeRow_lacksNothing_17 : decode prog_5_method_7_code 17 = .ok (.ifnull 20, 3) := by decide +kernel
theorem d_NodeRow_lacksNothing_20 : decode prog_5_method_7_code 20 = .ok (.aload_n 3, 1) := by decide +kernel
theorem d_NodeRow_lacksNothing_21 : decode prog_5_method_7_code 21 = .ok (.getfield 52, 3) := by decide +kernel
theorem d_NodeRow_lacksNothing_24 : decode prog_5_method_7_code 24 = .ok (.aload_n 1, 1) := by decide +kernel
theorem d_NodeRow_lacksNothing_25 : decode prog_5_method_7_code 25 = .ok (.aload_n 3, 1) := by decide +kernel
theorem d_NodeRow_lacksNothing_26 : decode prog_5_method_7_code 26 = .ok (.getfield 55, 3) := by decide +kernel
theorem d_NodeRow_lacksNothing_29 : decode prog_5_method_7_code 29 = .ok (.invokevirtual 68, 3) := by decide +kernel
theorem d_NodeRow_lacksNothing_32 : decode prog_5_method_7_code 32 = .ok (.if_icmp .ge 5, 3) := by decide +kernel
theorem d_NodeRow_lacksNothing_35 : decode prog_5_method_7_code 35 = .ok (.iconst 0, 1) := by decide +kernel
theorem d_NodeRow_lacksNothing_36 : decode prog_5_method_7_code 36 = .ok (.ireturn, 1) := by decide +kernel
theorem d_NodeRow_lacksNothing_37 : decode prog_5_method_7_code 37 = .ok (.iinc 2 1, 3) := by decide +kernel
theorem d_NodeRow_lacksNothing_40 : decode prog_5_method_7_code 40 = .ok (.goto (-38), 3) := by decide +kernel
theorem d_NodeRow_lacksNothing_43 : decode prog_5_method_7_code 43 = .ok (.iconst 1, 1) := by decide +kernel
theorem d_NodeRow_lacksNothing_44 : decode prog_5_method_7_code 44 = .ok (.ireturn, 1) := by decide +kernel
theorem d_Node_init_0 : decode prog_4_method_1_code 0 = .ok (.aload_n 0, 1) := by decide +kernel
theorem d_Node_init_1 : decode prog_4_method_1_code 1 = .ok (.invokespecial 3, 3) := by decide +kernel
theorem d_Node_init_4 : decode prog_4_method_1_code 4 = .ok (.aload_n 0, 1) := by decide +kernel
theorem d_Node_init_5 : decode prog_4_method_1_code 5 = .ok (.iload_n 1, 1) := by decide +kernel
theorem d_Node_init_6 : decode prog_4_method_1_code 6 = .ok (.putfield 9, 3) := by decide +kernel
theorem d_Node_init_9 : decode prog_4_method_1_code 9 = .ok (.aload_n 0, 1) := by decide +kernel
theorem d_Node_init_10 : decode prog_4_method_1_code 10 = .ok (.iload_n 2, 1) := by decide +kernel
theorem d_Node_init_11 : decode prog_4_method_1_code 11 = .ok (.putfield 15, 3) := by decide +kernel
theorem d_Node_init_14 : decode prog_4_method_1_code 14 = .ok (.aload_n 0, 1) := by decide +kernel
theorem d_Node_init_15 : decode prog_4_method_1_code 15 = .ok (.lload_n 3, 1) := by decide +kernel
theorem d_Node_init_16 : decode prog_4_method_1_code 16 = .ok (.putfield 18, 3) := by decide +kernel
theorem d_Node_init_19 : decode prog_4_method_1_code 19 = .ok (.aload_n 0, 1) := by decide +kernel
theorem d_Node_init_20 : decode prog_4_method_1_code 20 = .ok (.aload 5, 2) := by decide +kernel
theorem d_Node_init_22 : decode prog_4_method_1_code 22 = .ok (.putfield 22, 3) := by decide +kernel
theorem d_Node_init_25 : decode prog_4_method_1_code 25 = .ok (.aload_n 0, 1) := by decide +kernel
theorem d_Node_init_26 : decode prog_4_method_1_code 26 = .ok (.iconst (-1), 1) := by decide +kernel
theorem d_Node_init_27 : decode prog_4_method_1_code 27 = .ok (.putfield 26, 3) := by decide +kernel
theorem d_Node_init_30 : decode prog_4_method_1_code 30 = .ok (.return_, 1) := by decide +kernel
theorem d_Node_property_0 : decode prog_4_method_2_code 0 = .ok (.iload_n 1, 1) := by decide +kernel
theorem d_Node_property_1 : decode prog_4_method_2_code 1 = .ok (.tableswitch 52 0 3 #[31, 36, 41, 46], 31) := by decide +kernel
theorem d_Node_property_32 : decode prog_4_method_2_code 32 = .ok (.aload_n 0, 1) := by decide +kernel
theorem d_Node_property_33 : decode prog_4_method_2_code 33 = .ok (.getfield 9, 3) := by decide +kernel
theorem d_Node_property_36 : decode prog_4_method_2_code 36 = .ok (.ireturn, 1) := by decide +kernel
theorem d_Node_property_37 : decode prog_4_method_2_code 37 = .ok (.aload_n 0, 1) := by decide +kernel
theorem d_Node_property_38 : decode prog_4_method_2_code 38 = .ok (.getfield 15, 3) := by decide +kernel
theorem d_Node_property_41 : decode prog_4_method_2_code 41 = .ok (.ireturn, 1) := by decide +kernel
theorem d_Node_property_42 : decode prog_4_method_2_code 42 = .ok (.aload_n 0, 1) := by decide +kernel
theorem d_Node_property_43 : decode prog_4_method_2_code 43 = .ok (.getfield 29, 3) := by decide +kernel
theorem d_Node_property_46 : decode prog_4_method_2_code 46 = .ok (.ireturn, 1) := by decide +kernel
theorem d_Node_property_47 : decode prog_4_method_2_code 47 = .ok (.aload_n 0, 1) := by decide +kernel
theorem d_Node_property_48 : decode prog_4_method_2_code 48 = .ok (.getfield 22, 3) := by decide +kernel
theorem d_Node_property_51 : decode prog_4_method_2_code 51 = .ok (.arraylength, 1) := by decide +kernel
theorem d_Node_property_52 : decode prog_4_method_2_code 52 = .ok (.ireturn, 1) := by decide +kernel
theorem d_Node_property_53 : decode prog_4_method_2_code 53 = .ok (.iconst (-1), 1) := by decide +kernel
theorem d_Node_property_54 : decode prog_4_method_2_code 54 = .ok (.ireturn, 1) := by decide +kernel
theorem d_Scanner_init_0 : decode prog_8_method_1_code 0 = .ok (.aload_n 0, 1) := by decide +kernel
theorem d_Scanner_init_1 : decode prog_8_method_1_code 1 = .ok (.invokespecial 3, 3) := by decide +kernel
theorem d_Scanner_init_4 : decode prog_8_method_1_code 4 = .ok (.aload_n 0, 1) := by decide +kernel
theorem d_Scanner_init_5 : decode prog_8_method_1_code 5 = .ok (.aload_n 1, 1) := by decide +kernel
theorem d_Scanner_init_6 : decode prog_8_method_1_code 6 = .ok (.putfield 9, 3) := by decide +kernel
theorem d_Scanner_init_9 : decode prog_8_method_1_code 9 = .ok (.aload_n 0, 1) := by decide +kernel
theorem d_Scanner_init_10 : decode prog_8_method_1_code 10 = .ok (.iload_n 2, 1) := by decide +kernel
theorem d_Scanner_init_11 : decode prog_8_method_1_code 11 = .ok (.putfield 15, 3) := by decide +kernel
theorem d_Scanner_init_14 : decode prog_8_method_1_code 14 = .ok (.aload_n 0, 1) := by decide +kernel
theorem d_Scanner_init_15 : decode prog_8_method_1_code 15 = .ok (.iconst (-1), 1) := by decide +kernel
theorem d_Scanner_init_16 : decode prog_8_method_1_code 16 = .ok (.putfield 19, 3) := by decide +kernel
theorem d_Scanner_init_19 : decode prog_8_method_1_code 19 = .ok (.return_, 1) := by decide +kernel
theorem d_Scanner_next_0 : decode prog_8_method_6_code 0 = .ok (.aload_n 0, 1) := by decide +kernel
theorem d_Scanner_next_1 : decode prog_8_method_6_code 1 = .ok (.getfield 31, 3) := by decide +kernel
theorem d_Scanner_next_4 : decode prog_8_method_6_code 4 = .ok (.aload_n 0, 1) := by decide +kernel
theorem d_Scanner_next_5 : decode prog_8_method_6_code 5 = .ok (.getfield 15, 3) := by decide +kernel
theorem d_Scanner_next_8 : decode prog_8_method_6_code 8 = .ok (.if_icmp .ge 44, 3) := by decide +kernel
theorem d_Scanner_next_11 : decode prog_8_method_6_code 11 = .ok (.aload_n 0, 1) := by decide +kernel
theorem d_Scanner_next_12 : decode prog_8_method_6_code 12 = .ok (.getfield 9, 3) := by decide +kernel
theorem d_Scanner_next_15 : decode prog_8_method_6_code 15 = .ok (.aload_n 0, 1) := by decide +kernel
theorem d_Scanner_next_16 : decode prog_8_method_6_code 16 = .ok (.getfield 31, 3) := by decide +kernel
theorem d_Scanner_next_19 : decode prog_8_method_6_code 19 = .ok (.baload, 1) := by decide +kernel
theorem d_Scanner_next_20 : decode prog_8_method_6_code 20 = .ok (.bipush 32, 2) := by decide +kernel
theorem d_Scanner_next_22 : decode prog_8_method_6_code 22 = .ok (.if_icmp .eq 17, 3) := by decide +kernel
theorem d_Scanner_next_25 : decode prog_8_method_6_code 25 = .ok (.aload_n 0, 1) := by decide +kernel
theorem d_Scanner_next_26 : decode prog_8_method_6_code 26 = .ok (.getfield 9, 3) := by decide +kernel
theorem d_Scanner_next_29 : decode prog_8_method_6_code 29 = .ok (.aload_n 0, 1) := by decide +kernel
theorem d_Scanner_next_30 : decode prog_8_method_6_code 30 = .ok (.getfield 31, 3) := by decide +kernel
theorem d_Scanner_next_33 : decode prog_8_method_6_code 33 = .ok (.baload, 1) := by decide +kernel
theorem d_Scanner_next_34 : decode prog_8_method_6_code 34 = .ok (.bipush 10, 2) := by decide +kernel
theorem d_Scanner_next_36 : decode prog_8_method_6_code 36 = .ok (.if_icmp .ne 16, 3) := by decide +kernel
theorem d_Scanner_next_39 : decode prog_8_method_6_code 39 = .ok (.aload_n 0, 1) := by decide +kernel
theorem d_Scanner_next_40 : decode prog_8_method_6_code 40 = .ok (.dup, 1) := by decide +kernel
theorem d_Scanner_next_41 : decode prog_8_method_6_code 41 = .ok (.getfield 31, 3) := by decide +kernel
theorem d_Scanner_next_44 : decode prog_8_method_6_code 44 = .ok (.iconst 1, 1) := by decide +kernel
theorem d_Scanner_next_45 : decode prog_8_method_6_code 45 = .ok (.iadd, 1) := by decide +kernel
theorem d_Scanner_next_46 : decode prog_8_method_6_code 46 = .ok (.putfield 31, 3) := by decide +kernel
theorem d_Scanner_next_49 : decode prog_8_method_6_code 49 = .ok (.goto (-49), 3) := by decide +kernel
theorem d_Scanner_next_52 : decode prog_8_method_6_code 52 = .ok (.aload_n 0, 1) := by decide +kernel
theorem d_Scanner_next_53 : decode prog_8_method_6_code 53 = .ok (.invokevirtual 34, 3) := by decide +kernel
theorem d_Scanner_next_56 : decode prog_8_method_6_code 56 = .ok (.ireturn, 1) := by decide +kernel
theorem d_Scanner_here_0 : decode prog_8_method_4_code 0 = .ok (.aload_n 0, 1) := by decide +kernel
theorem d_Scanner_here_1 : decode prog_8_method_4_code 1 = .ok (.getfield 31, 3) := by decide +kernel
theorem d_Scanner_here_4 : decode prog_8_method_4_code 4 = .ok (.aload_n 0, 1) := by decide +kernel
theorem d_Scanner_here_5 : decode prog_8_method_4_code 5 = .ok (.getfield 15, 3) := by decide +kernel
theorem d_Scanner_here_8 : decode prog_8_method_4_code 8 = .ok (.if_icmp .ge 19, 3) := by decide +kernel
theorem d_Scanner_here_11 : decode prog_8_method_4_code 11 = .ok (.aload_n 0, 1) := by decide +kernel
theorem d_Scanner_here_12 : decode prog_8_method_4_code 12 = .ok (.getfield 9, 3) := by decide +kernel
theorem d_Scanner_here_15 : decode prog_8_method_4_code 15 = .ok (.aload_n 0, 1) := by decide +kernel
theorem d_Scanner_here_16 : decode prog_8_method_4_code 16 = .ok (.getfield 31, 3) := by decide +kernel
theorem d_Scanner_here_19 : decode prog_8_method_4_code 19 = .ok (.baload, 1) := by decide +kernel
theorem d_Scanner_here_20 : decode prog_8_method_4_code 20 = .ok (.sipush 255, 3) := by decide +kernel
theorem d_Scanner_here_23 : decode prog_8_method_4_code 23 = .ok (.iand, 1) := by decide +kernel
theorem d_Scanner_here_24 : decode prog_8_method_4_code 24 = .ok (.goto 4, 3) := by decide +kernel
theorem d_Scanner_here_27 : decode prog_8_method_4_code 27 = .ok (.iconst (-1), 1) := by decide +kernel
theorem d_Scanner_here_28 : decode prog_8_method_4_code 28 = .ok (.ireturn, 1) := by decide +kernel
theorem d_Scanner_takeWord_0 : decode prog_8_method_11_code 0 = .ok (.aload_n 0, 1) := by decide +kernel
theorem d_Scanner_takeWord_1 : decode prog_8_method_11_code 1 = .ok (.invokevirtual 45, 3) := by decide +kernel
theorem d_Scanner_takeWord_4 : decode prog_8_method_11_code 4 = .ok (.invokestatic 52, 3) := by decide +kernel
theorem d_Scanner_takeWord_7 : decode prog_8_method_11_code 7 = .ok (.ifCond .ne 8, 3) := by decide +kernel
theorem d_Scanner_takeWord_10 : decode prog_8_method_11_code 10 = .ok (.aload_n 0, 1) := by decide +kernel
theorem d_Scanner_takeWord_11 : decode prog_8_method_11_code 11 = .ok (.invokevirtual 48, 3) := by decide +kernel
theorem d_Scanner_takeWord_14 : decode prog_8_method_11_code 14 = .ok (.ireturn, 1) := by decide +kernel
theorem d_Scanner_takeWord_15 : decode prog_8_method_11_code 15 = .ok (.aload_n 0, 1) := by decide +kernel
theorem d_Scanner_takeWord_16 : decode prog_8_method_11_code 16 = .ok (.aload_n 0, 1) := by decide +kernel
theorem d_Scanner_takeWord_17 : decode prog_8_method_11_code 17 = .ok (.getfield 31, 3) := by decide +kernel
theorem d_Scanner_takeWord_20 : decode prog_8_method_11_code 20 = .ok (.putfield 42, 3) := by decide +kernel
theorem d_Scanner_takeWord_23 : decode prog_8_method_11_code 23 = .ok (.aload_n 0, 1) := by decide +kernel
theorem d_Scanner_takeWord_24 : decode prog_8_method_11_code 24 = .ok (.getfield 31, 3) := by decide +kernel
theorem d_Scanner_takeWord_27 : decode prog_8_method_11_code 27 = .ok (.aload_n 0, 1) := by decide +kernel
theorem d_Scanner_takeWord_28 : decode prog_8_method_11_code 28 = .ok (.getfield 15, 3) := by decide +kernel
theorem d_Scanner_takeWord_31 : decode prog_8_method_11_code 31 = .ok (.if_icmp .ge 31, 3) := by decide +kernel
theorem d_Scanner_takeWord_34 : decode prog_8_method_11_code 34 = .ok (.aload_n 0, 1) := by decide +kernel
theorem d_Scanner_takeWord_35 : decode prog_8_method_11_code 35 = .ok (.getfield 9, 3) := by decide +kernel
theorem d_Scanner_takeWord_38 : decode prog_8_method_11_code 38 = .ok (.aload_n 0, 1) := by decide +kernel
theorem d_Scanner_takeWord_39 : decode prog_8_method_11_code 39 = .ok (.getfield 31, 3) := by decide +kernel
theorem d_Scanner_takeWord_42 : decode prog_8_method_11_code 42 = .ok (.baload, 1) := by decide +kernel
theorem d_Scanner_takeWord_43 : decode prog_8_method_11_code 43 = .ok (.invokestatic 55, 3) := by decide +kernel
theorem d_Scanner_takeWord_46 : decode prog_8_method_11_code 46 = .ok (.ifCond .eq 16, 3) := by decide +kernel
theorem d_Scanner_takeWord_49 : decode prog_8_method_11_code 49 = .ok (.aload_n 0, 1) := by decide +kernel
theorem d_Scanner_takeWord_50 : decode prog_8_method_11_code 50 = .ok (.dup, 1) := by decide +kernel
theorem d_Scanner_takeWord_51 : decode prog_8_method_11_code 51 = .ok (.getfield 31, 3) := by decide +kernel
theorem d_Scanner_takeWord_54 : decode prog_8_method_11_code 54 = .ok (.iconst 1, 1) := by decide +kernel
theorem d_Scanner_takeWord_55 : decode prog_8_method_11_code 55 = .ok (.iadd, 1) := by decide +kernel
theorem d_Scanner_takeWord_56 : decode prog_8_method_11_code 56 = .ok (.putfield 31, 3) := by decide +kernel
theorem d_Scanner_takeWord_59 : decode prog_8_method_11_code 59 = .ok (.goto (-36), 3) := by decide +kernel
theorem d_Scanner_takeWord_62 : decode prog_8_method_11_code 62 = .ok (.aload_n 0, 1) := by decide +kernel
theorem d_Scanner_takeWord_63 : decode prog_8_method_11_code 63 = .ok (.aload_n 0, 1) := by decide +kernel
theorem d_Scanner_takeWord_64 : decode prog_8_method_11_code 64 = .ok (.getfield 31, 3) := by decide +kernel
theorem d_Scanner_takeWord_67 : decode prog_8_method_11_code 67 = .ok (.putfield 58, 3) := by decide +kernel
theorem d_Scanner_takeWord_70 : decode prog_8_method_11_code 70 = .ok (.iconst 1, 1) := by decide +kernel
theorem d_Scanner_takeWord_71 : decode prog_8_method_11_code 71 = .ok (.ireturn, 1) := by decide +kernel
theorem d_Scanner_isLetter_0 : decode prog_8_method_15_code 0 = .ok (.iload_n 0, 1) := by decide +kernel
theorem d_Scanner_isLetter_1 : decode prog_8_method_15_code 1 = .ok (.bipush 97, 2) := by decide +kernel
theorem d_Scanner_isLetter_3 : decode prog_8_method_15_code 3 = .ok (.if_icmp .lt 9, 3) := by decide +kernel
theorem d_Scanner_isLetter_6 : decode prog_8_method_15_code 6 = .ok (.iload_n 0, 1) := by decide +kernel
theorem d_Scanner_isLetter_7 : decode prog_8_method_15_code 7 = .ok (.bipush 122, 2) := by decide +kernel
theorem d_Scanner_isLetter_9 : decode prog_8_method_15_code 9 = .ok (.if_icmp .le 15, 3) := by decide +kernel
theorem d_Scanner_isLetter_12 : decode prog_8_method_15_code 12 = .ok (.iload_n 0, 1) := by decide +kernel
theorem d_Scanner_isLetter_13 : decode prog_8_method_15_code 13 = .ok (.bipush 65, 2) := by decide +kernel
theorem d_Scanner_isLetter_15 : decode prog_8_method_15_code 15 = .ok (.if_icmp .lt 13, 3) := by decide +kernel
theorem d_Scanner_isLetter_18 : decode prog_8_method_15_code 18 = .ok (.iload_n 0, 1) := by decide +kernel
theorem d_Scanner_isLetter_19 : decode prog_8_method_15_code 19 = .ok (.bipush 90, 2) := by decide +kernel
theorem d_Scanner_isLetter_21 : decode prog_8_method_15_code 21 = .ok (.if_icmp .gt 7, 3) := by decide +kernel
theorem d_Scanner_isLetter_24 : decode prog_8_method_15_code 24 = .ok (.iconst 1, 1) := by decide +kernel
theorem d_Scanner_isLetter_25 : decode prog_8_method_15_code 25 = .ok (.goto 4, 3) := by decide +kernel
theorem d_Scanner_isLetter_28 : decode prog_8_method_15_code 28 = .ok (.iconst 0, 1) := by decide +kernel
theorem d_Scanner_isLetter_29 : decode prog_8_method_15_code 29 = .ok (.ireturn, 1) := by decide +kernel
theorem d_Scanner_failHere_0 : decode prog_8_method_8_code 0 = .ok (.aload_n 0, 1) := by decide +kernel
theorem d_Scanner_failHere_1 : decode prog_8_method_8_code 1 = .ok (.aload_n 0, 1) := by decide +kernel
theorem d_Scanner_failHere_2 : decode prog_8_method_8_code 2 = .ok (.getfield 31, 3) := by decide +kernel
theorem d_Scanner_failHere_5 : decode prog_8_method_8_code 5 = .ok (.invokevirtual 38, 3) := by decide +kernel
theorem d_Scanner_failHere_8 : decode prog_8_method_8_code 8 = .ok (.ireturn, 1) := by decide +kernel
theorem d_Scanner_fail_0 : decode prog_8_method_7_code 0 = .ok (.aload_n 0, 1) := by decide +kernel
theorem d_Scanner_fail_1 : decode prog_8_method_7_code 1 = .ok (.iload_n 1, 1) := by decide +kernel
theorem d_Scanner_fail_2 : decode prog_8_method_7_code 2 = .ok (.putfield 19, 3) := by decide +kernel
theorem d_Scanner_fail_5 : decode prog_8_method_7_code 5 = .ok (.iconst 0, 1) := by decide +kernel
theorem d_Scanner_fail_6 : decode prog_8_method_7_code 6 = .ok (.ireturn, 1) := by decide +kernel
theorem d_Scanner_isOfWord_0 : decode prog_8_method_16_code 0 = .ok (.iload_n 0, 1) := by decide +kernel
theorem d_Scanner_isOfWord_1 : decode prog_8_method_16_code 1 = .ok (.invokestatic 52, 3) := by decide +kernel
theorem d_Scanner_isOfWord_4 : decode prog_8_method_16_code 4 = .ok (.ifCond .ne 16, 3) := by decide +kernel
theorem d_Scanner_isOfWord_7 : decode prog_8_method_16_code 7 = .ok (.iload_n 0, 1) := by decide +kernel
theorem d_Scanner_isOfWord_8 : decode prog_8_method_16_code 8 = .ok (.invokestatic 74, 3) := by decide +kernel
theorem d_Scanner_isOfWord_11 : decode prog_8_method_16_code 11 = .ok (.ifCond .ne 9, 3) := by decide +kernel
theorem d_Scanner_isOfWord_14 : decode prog_8_method_16_code 14 = .ok (.iload_n 0, 1) := by decide +kernel
theorem d_Scanner_isOfWord_15 : decode prog_8_method_16_code 15 = .ok (.bipush 95, 2) := by decide +kernel
theorem d_Scanner_isOfWord_17 : decode prog_8_method_16_code 17 = .ok (.if_icmp .ne 7, 3) := by decide +kernel
theorem d_Scanner_isOfWord_20 : decode prog_8_method_16_code 20 = .ok (.iconst 1, 1) := by decide +kernel
theorem d_Scanner_isOfWord_21 : decode prog_8_method_16_code 21 = .ok (.goto 4, 3) := by decide +kernel
theorem d_Scanner_isOfWord_24 : decode prog_8_method_16_code 24 = .ok (.iconst 0, 1) := by decide +kernel
theorem d_Scanner_isOfWord_25 : decode prog_8_method_16_code 25 = .ok (.ireturn, 1) := by decide +kernel
theorem d_Scanner_isDigit_0 : decode prog_8_method_14_code 0 = .ok (.iload_n 0, 1) := by decide +kernel
theorem d_Scanner_isDigit_1 : decode prog_8_method_14_code 1 = .ok (.bipush 48, 2) := by decide +kernel
theorem d_Scanner_isDigit_3 : decode prog_8_method_14_code 3 = .ok (.if_icmp .lt 13, 3) := by decide +kernel
theorem d_Scanner_isDigit_6 : decode prog_8_method_14_code 6 = .ok (.iload_n 0, 1) := by decide +kernel
theorem d_Scanner_isDigit_7 : decode prog_8_method_14_code 7 = .ok (.bipush 57, 2) := by decide +kernel
theorem d_Scanner_isDigit_9 : decode prog_8_method_14_code 9 = .ok (.if_icmp .gt 7, 3) := by decide +kernel
theorem d_Scanner_isDigit_12 : decode prog_8_method_14_code 12 = .ok (.iconst 1, 1) := by decide +kernel
theorem d_Scanner_isDigit_13 : decode prog_8_method_14_code 13 = .ok (.goto 4, 3) := by decide +kernel
theorem d_Scanner_isDigit_16 : decode prog_8_method_14_code 16 = .ok (.iconst 0, 1) := by decide +kernel
theorem d_Scanner_isDigit_17 : decode prog_8_method_14_code 17 = .ok (.ireturn, 1) := by decide +kernel
theorem d_Scanner_wordIs_0 : decode prog_8_method_13_code 0 = .ok (.aload_n 0, 1) := by decide +kernel
theorem d_Scanner_wordIs_1 : decode prog_8_method_13_code 1 = .ok (.getfield 58, 3) := by decide +kernel
theorem d_Scanner_wordIs_4 : decode prog_8_method_13_code 4 = .ok (.aload_n 0, 1) := by decide +kernel
theorem d_Scanner_wordIs_5 : decode prog_8_method_13_code 5 = .ok (.getfield 42, 3) := by decide +kernel
theorem d_Scanner_wordIs_8 : decode prog_8_method_13_code 8 = .ok (.isub, 1) := by decide +kernel
theorem d_Scanner_wordIs_9 : decode prog_8_method_13_code 9 = .ok (.aload_n 1, 1) := by decide +kernel
theorem d_Scanner_wordIs_10 : decode prog_8_method_13_code 10 = .ok (.invokevirtual 61, 3) := by decide +kernel
theorem d_Scanner_wordIs_13 : decode prog_8_method_13_code 13 = .ok (.if_icmp .eq 5, 3) := by decide +kernel
theorem d_Scanner_wordIs_16 : decode prog_8_method_13_code 16 = .ok (.iconst 0, 1) := by decide +kernel
theorem d_Scanner_wordIs_17 : decode prog_8_method_13_code 17 = .ok (.ireturn, 1) := by decide +kernel
theorem d_Scanner_wordIs_18 : decode prog_8_method_13_code 18 = .ok (.iconst 0, 1) := by decide +kernel
theorem d_Scanner_wordIs_19 : decode prog_8_method_13_code 19 = .ok (.istore_n 2, 1) := by decide +kernel
theorem d_Scanner_wordIs_20 : decode prog_8_method_13_code 20 = .ok (.iload_n 2, 1) := by decide +kernel
theorem d_Scanner_wordIs_21 : decode prog_8_method_13_code 21 = .ok (.aload_n 1, 1) := by decide +kernel
theorem d_Scanner_wordIs_22 : decode prog_8_method_13_code 22 = .ok (.invokevirtual 61, 3) := by decide +kernel
theorem d_Scanner_wordIs_25 : decode prog_8_method_13_code 25 = .ok (.if_icmp .ge 29, 3) := by decide +kernel
theorem d_Scanner_wordIs_28 : decode prog_8_method_13_code 28 = .ok (.aload_n 0, 1) := by decide +kernel
theorem d_Scanner_wordIs_29 : decode prog_8_method_13_code 29 = .ok (.aload_n 0, 1) := by decide +kernel
theorem d_Scanner_wordIs_30 : decode prog_8_method_13_code 30 = .ok (.getfield 42, 3) := by decide +kernel
theorem d_Scanner_wordIs_33 : decode prog_8_method_13_code 33 = .ok (.iload_n 2, 1) := by decide +kernel
theorem d_Scanner_wordIs_34 : decode prog_8_method_13_code 34 = .ok (.iadd, 1) := by decide +kernel
theorem d_Scanner_wordIs_35 : decode prog_8_method_13_code 35 = .ok (.invokevirtual 66, 3) := by decide +kernel
theorem d_Scanner_wordIs_38 : decode prog_8_method_13_code 38 = .ok (.aload_n 1, 1) := by decide +kernel
theorem d_Scanner_wordIs_39 : decode prog_8_method_13_code 39 = .ok (.iload_n 2, 1) := by decide +kernel
theorem d_Scanner_wordIs_40 : decode prog_8_method_13_code 40 = .ok (.invokevirtual 70, 3) := by decide +kernel
theorem d_Scanner_wordIs_43 : decode prog_8_method_13_code 43 = .ok (.if_icmp .eq 5, 3) := by decide +kernel
theorem d_Scanner_wordIs_46 : decode prog_8_method_13_code 46 = .ok (.iconst 0, 1) := by decide +kernel
theorem d_Scanner_wordIs_47 : decode prog_8_method_13_code 47 = .ok (.ireturn, 1) := by decide +kernel
theorem d_Scanner_wordIs_48 : decode prog_8_method_13_code 48 = .ok (.iinc 2 1, 3) := by decide +kernel
theorem d_Scanner_wordIs_51 : decode prog_8_method_13_code 51 = .ok (.goto (-31), 3) := by decide +kernel
theorem d_Scanner_wordIs_54 : decode prog_8_method_13_code 54 = .ok (.iconst 1, 1) := by decide +kernel
theorem d_Scanner_wordIs_55 : decode prog_8_method_13_code 55 = .ok (.ireturn, 1) := by decide +kernel
theorem d_Scanner_byteAt_0 : decode prog_8_method_2_code 0 = .ok (.iload_n 1, 1) := by decide +kernel
theorem d_Scanner_byteAt_1 : decode prog_8_method_2_code 1 = .ok (.ifCond .lt 11, 3) := by decide +kernel
theorem d_Scanner_byteAt_4 : decode prog_8_method_2_code 4 = .ok (.iload_n 1, 1) := by decide +kernel
theorem d_Scanner_byteAt_5 : decode prog_8_method_2_code 5 = .ok (.aload_n 0, 1) := by decide +kernel
theorem d_Scanner_byteAt_6 : decode prog_8_method_2_code 6 = .ok (.getfield 15, 3) := by decide +kernel
theorem d_Scanner_byteAt_9 : decode prog_8_method_2_code 9 = .ok (.if_icmp .lt 7, 3) := by decide +kernel
theorem d_Scanner_byteAt_12 : decode prog_8_method_2_code 12 = .ok (.iconst (-1), 1) := by decide +kernel
theorem d_Scanner_byteAt_13 : decode prog_8_method_2_code 13 = .ok (.goto 13, 3) := by decide +kernel
theorem d_Scanner_byteAt_16 : decode prog_8_method_2_code 16 = .ok (.aload_n 0, 1) := by decide +kernel
theorem d_Scanner_byteAt_17 : decode prog_8_method_2_code 17 = .ok (.getfield 9, 3) := by decide +kernel
theorem d_Scanner_byteAt_20 : decode prog_8_method_2_code 20 = .ok (.iload_n 1, 1) := by decide +kernel
theorem d_Scanner_byteAt_21 : decode prog_8_method_2_code 21 = .ok (.baload, 1) := by decide +kernel
theorem d_Scanner_byteAt_22 : decode prog_8_method_2_code 22 = .ok (.sipush 255, 3) := by decide +kernel
theorem d_Scanner_byteAt_25 : decode prog_8_method_2_code 25 = .ok (.iand, 1) := by decide +kernel
theorem d_Scanner_byteAt_26 : decode prog_8_method_2_code 26 = .ok (.ireturn, 1) := by decide +kernel
theorem d_Scanner_failAtWord_0 : decode prog_8_method_9_code 0 = .ok (.aload_n 0, 1) := by decide +kernel
theorem d_Scanner_failAtWord_1 : decode prog_8_method_9_code 1 = .ok (.aload_n 0, 1) := by decide +kernel
theorem d_Scanner_failAtWord_2 : decode prog_8_method_9_code 2 = .ok (.getfield 42, 3) := by decide +kernel
theorem d_Scanner_failAtWord_5 : decode prog_8_method_9_code 5 = .ok (.invokevirtual 38, 3) := by decide +kernel
theorem d_Scanner_failAtWord_8 : decode prog_8_method_9_code 8 = .ok (.ireturn, 1) := by decide +kernel
theorem d_Scanner_copy_0 : decode prog_8_method_3_code 0 = .ok (.iload_n 1, 1) := by decide +kernel
theorem d_Scanner_copy_1 : decode prog_8_method_3_code 1 = .ok (.ifCond .lt 16, 3) := by decide +kernel
theorem d_Scanner_copy_4 : decode prog_8_method_3_code 4 = .ok (.iload_n 2, 1) := by decide +kernel
theorem d_Scanner_copy_5 : decode prog_8_method_3_code 5 = .ok (.iload_n 1, 1) := by decide +kernel
theorem d_Scanner_copy_6 : decode prog_8_method_3_code 6 = .ok (.if_icmp .lt 11, 3) := by decide +kernel
theorem d_Scanner_copy_9 : decode prog_8_method_3_code 9 = .ok (.iload_n 2, 1) := by decide +kernel
theorem d_Scanner_copy_10 : decode prog_8_method_3_code 10 = .ok (.aload_n 0, 1) := by decide +kernel
theorem d_Scanner_copy_11 : decode prog_8_method_3_code 11 = .ok (.getfield 15, 3) := by decide +kernel
theorem d_Scanner_copy_14 : decode prog_8_method_3_code 14 = .ok (.if_icmp .le 9, 3) := by decide +kernel
theorem d_Scanner_copy_17 : decode prog_8_method_3_code 17 = .ok (.getstatic 22, 3) := by decide +kernel
theorem d_Scanner_copy_20 : decode prog_8_method_3_code 20 = .ok (.goto 12, 3) := by decide +kernel
theorem d_Scanner_copy_23 : decode prog_8_method_3_code 23 = .ok (.aload_n 0, 1) := by decide +kernel
theorem d_Scanner_copy_24 : decode prog_8_method_3_code 24 = .ok (.getfield 9, 3) := by decide +kernel
theorem d_Scanner_copy_27 : decode prog_8_method_3_code 27 = .ok (.iload_n 1, 1) := by decide +kernel
theorem d_Scanner_copy_28 : decode prog_8_method_3_code 28 = .ok (.iload_n 2, 1) := by decide +kernel
theorem d_Scanner_copy_29 : decode prog_8_method_3_code 29 = .ok (.invokestatic 25, 3) := by decide +kernel
theorem d_Scanner_copy_32 : decode prog_8_method_3_code 32 = .ok (.areturn, 1) := by decide +kernel
theorem d_Scanner_takeSign_0 : decode prog_8_method_10_code 0 = .ok (.aload_n 0, 1) := by decide +kernel
theorem d_Scanner_takeSign_1 : decode prog_8_method_10_code 1 = .ok (.invokevirtual 45, 3) := by decide +kernel
theorem d_Scanner_takeSign_4 : decode prog_8_method_10_code 4 = .ok (.iload_n 1, 1) := by decide +kernel
theorem d_Scanner_takeSign_5 : decode prog_8_method_10_code 5 = .ok (.if_icmp .eq 8, 3) := by decide +kernel
theorem d_Scanner_takeSign_8 : decode prog_8_method_10_code 8 = .ok (.aload_n 0, 1) := by decide +kernel
theorem d_Scanner_takeSign_9 : decode prog_8_method_10_code 9 = .ok (.invokevirtual 48, 3) := by decide +kernel
theorem d_Scanner_takeSign_12 : decode prog_8_method_10_code 12 = .ok (.ireturn, 1) := by decide +kernel
theorem d_Scanner_takeSign_13 : decode prog_8_method_10_code 13 = .ok (.aload_n 0, 1) := by decide +kernel
theorem d_Scanner_takeSign_14 : decode prog_8_method_10_code 14 = .ok (.dup, 1) := by decide +kernel
theorem d_Scanner_takeSign_15 : decode prog_8_method_10_code 15 = .ok (.getfield 31, 3) := by decide +kernel
theorem d_Scanner_takeSign_18 : decode prog_8_method_10_code 18 = .ok (.iconst 1, 1) := by decide +kernel
theorem d_Scanner_takeSign_19 : decode prog_8_method_10_code 19 = .ok (.iadd, 1) := by decide +kernel
theorem d_Scanner_takeSign_20 : decode prog_8_method_10_code 20 = .ok (.putfield 31, 3) := by decide +kernel
theorem d_Scanner_takeSign_23 : decode prog_8_method_10_code 23 = .ok (.iconst 1, 1) := by decide +kernel
theorem d_Scanner_takeSign_24 : decode prog_8_method_10_code 24 = .ok (.ireturn, 1) := by decide +kernel
theorem d_Scanner_step_0 : decode prog_8_method_5_code 0 = .ok (.aload_n 0, 1) := by decide +kernel
theorem d_Scanner_step_1 : decode prog_8_method_5_code 1 = .ok (.dup, 1) := by decide +kernel
theorem d_Scanner_step_2 : decode prog_8_method_5_code 2 = .ok (.getfield 31, 3) := by decide +kernel
theorem d_Scanner_step_5 : decode prog_8_method_5_code 5 = .ok (.iload_n 1, 1) := by decide +kernel
theorem d_Scanner_step_6 : decode prog_8_method_5_code 6 = .ok (.iadd, 1) := by decide +kernel
theorem d_Scanner_step_7 : decode prog_8_method_5_code 7 = .ok (.putfield 31, 3) := by decide +kernel
theorem d_Scanner_step_10 : decode prog_8_method_5_code 10 = .ok (.return_, 1) := by decide +kernel
theorem d_Scanner_takeEnd_0 : decode prog_8_method_12_code 0 = .ok (.aload_n 0, 1) := by decide +kernel
theorem d_Scanner_takeEnd_1 : decode prog_8_method_12_code 1 = .ok (.invokevirtual 45, 3) := by decide +kernel
theorem d_Scanner_takeEnd_4 : decode prog_8_method_12_code 4 = .ok (.iconst (-1), 1) := by decide +kernel
theorem d_Scanner_takeEnd_5 : decode prog_8_method_12_code 5 = .ok (.if_icmp .eq 10, 3) := by decide +kernel
theorem d_Scanner_takeEnd_8 : decode prog_8_method_12_code 8 = .ok (.aload_n 0, 1) := by decide +kernel
theorem d_Scanner_takeEnd_9 : decode prog_8_method_12_code 9 = .ok (.invokevirtual 48, 3) := by decide +kernel
theorem d_Scanner_takeEnd_12 : decode prog_8_method_12_code 12 = .ok (.ifCond .eq 7, 3) := by decide +kernel
theorem d_Scanner_takeEnd_15 : decode prog_8_method_12_code 15 = .ok (.iconst 1, 1) := by decide +kernel
theorem d_Scanner_takeEnd_16 : decode prog_8_method_12_code 16 = .ok (.goto 4, 3) := by decide +kernel
theorem d_Scanner_takeEnd_19 : decode prog_8_method_12_code 19 = .ok (.iconst 0, 1) := by decide +kernel
theorem d_Scanner_takeEnd_20 : decode prog_8_method_12_code 20 = .ok (.ireturn, 1) := by decide +kernel
theorem d_SchemaReader_init_0 : decode prog_10_method_1_code 0 = .ok (.aload_n 0, 1) := by decide +kernel
theorem d_SchemaReader_init_1 : decode prog_10_method_1_code 1 = .ok (.invokespecial 3, 3) := by decide +kernel
theorem d_SchemaReader_init_4 : decode prog_10_method_1_code 4 = .ok (.aload_n 0, 1) := by decide +kernel
theorem d_SchemaReader_init_5 : decode prog_10_method_1_code 5 = .ok (.aload_n 1, 1) := by decide +kernel
theorem d_SchemaReader_init_6 : decode prog_10_method_1_code 6 = .ok (.putfield 9, 3) := by decide +kernel
theorem d_SchemaReader_init_9 : decode prog_10_method_1_code 9 = .ok (.aload_n 0, 1) := by decide +kernel
theorem d_SchemaReader_init_10 : decode prog_10_method_1_code 10 = .ok (.aload_n 2, 1) := by decide +kernel
theorem d_SchemaReader_init_11 : decode prog_10_method_1_code 11 = .ok (.putfield 15, 3) := by decide +kernel
theorem d_SchemaReader_init_14 : decode prog_10_method_1_code 14 = .ok (.return_, 1) := by decide +kernel
theorem d_SchemaReader_readSchema_0 : decode prog_10_method_2_code 0 = .ok (.iconst 0, 1) := by decide +kernel
theorem d_SchemaReader_readSchema_1 : decode prog_10_method_2_code 1 = .ok (.istore_n 1, 1) := by decide +kernel
theorem d_SchemaReader_readSchema_2 : decode prog_10_method_2_code 2 = .ok (.iload_n 1, 1) := by decide +kernel
theorem d_SchemaReader_readSchema_3 : decode prog_10_method_2_code 3 = .ok (.sipush 128, 3) := by decide +kernel
theorem d_SchemaReader_readSchema_6 : decode prog_10_method_2_code 6 = .ok (.if_icmp .gt 37, 3) := by decide +kernel
theorem d_SchemaReader_readSchema_9 : decode prog_10_method_2_code 9 = .ok (.iload_n 1, 1) := by decide +kernel
theorem d_SchemaReader_readSchema_10 : decode prog_10_method_2_code 10 = .ok (.ifCond .le 16, 3) := by decide +kernel
theorem d_SchemaReader_readSchema_13 : decode prog_10_method_2_code 13 = .ok (.aload_n 0, 1) := by decide +kernel
theorem d_SchemaReader_readSchema_14 : decode prog_10_method_2_code 14 = .ok (.getfield 9, 3) := by decide +kernel
theorem d_SchemaReader_readSchema_17 : decode prog_10_method_2_code 17 = .ok (.invokevirtual 19, 3) := by decide +kernel
theorem d_SchemaReader_readSchema_20 : decode prog_10_method_2_code 20 = .ok (.iconst (-1), 1) := by decide +kernel
theorem d_SchemaReader_readSchema_21 : decode prog_10_method_2_code 21 = .ok (.if_icmp .ne 5, 3) := by decide +kernel
theorem d_SchemaReader_readSchema_24 : decode prog_10_method_2_code 24 = .ok (.iconst 1, 1) := by decide +kernel
theorem d_SchemaReader_readSchema_25 : decode prog_10_method_2_code 25 = .ok (.ireturn, 1) := by decide +kernel
theorem d_SchemaReader_readSchema_26 : decode prog_10_method_2_code 26 = .ok (.aload_n 0, 1) := by decide +kernel
theorem d_SchemaReader_readSchema_27 : decode prog_10_method_2_code 27 = .ok (.iconst (-1), 1) := by decide +kernel
theorem d_SchemaReader_readSchema_28 : decode prog_10_method_2_code 28 = .ok (.iconst 0, 1) := by decide +kernel
theorem d_SchemaReader_readSchema_29 : decode prog_10_method_2_code 29 = .ok (.invokevirtual 25, 3) := by decide +kernel
theorem d_SchemaReader_readSchema_32 : decode prog_10_method_2_code 32 = .ok (.ifCond .ne 5, 3) := by decide +kernel
theorem d_SchemaReader_readSchema_35 : decode prog_10_method_2_code 35 = .ok (.iconst 0, 1) := by decide +kernel
theorem d_SchemaReader_readSchema_36 : decode prog_10_method_2_code 36 = .ok (.ireturn, 1) := by decide +kernel
theorem d_SchemaReader_readSchema_37 : decode prog_10_method_2_code 37 = .ok (.iinc 1 1, 3) := by decide +kernel
theorem d_SchemaReader_readSchema_40 : decode prog_10_method_2_code 40 = .ok (.goto (-38), 3) := by decide +kernel
theorem d_SchemaReader_readSchema_43 : decode prog_10_method_2_code 43 = .ok (.aload_n 0, 1) := by decide +kernel
theorem d_SchemaReader_readSchema_44 : decode prog_10_method_2_code 44 = .ok (.getfield 9, 3) := by decide +kernel
theorem d_SchemaReader_readSchema_47 : decode prog_10_method_2_code 47 = .ok (.invokevirtual 29, 3) := by decide +kernel
theorem d_SchemaReader_readSchema_50 : decode prog_10_method_2_code 50 = .ok (.ireturn, 1) := by decide +kernel
theorem d_SchemaReader_readField_0 : decode prog_10_method_3_code 0 = .ok (.aload_n 0, 1) := by decide +kernel
theorem d_SchemaReader_readField_1 : decode prog_10_method_3_code 1 = .ok (.invokevirtual 33, 3) := by decide +kernel
theorem d_SchemaReader_readField_4 : decode prog_10_method_3_code 4 = .ok (.istore_n 3, 1) := by decide +kernel
theorem d_SchemaReader_readField_5 : decode prog_10_method_3_code 5 = .ok (.iload_n 3, 1) := by decide +kernel
theorem d_SchemaReader_readField_6 : decode prog_10_method_3_code 6 = .ok (.iconst (-1), 1) := by decide +kernel
theorem d_SchemaReader_readField_7 : decode prog_10_method_3_code 7 = .ok (.if_icmp .ne 5, 3) := by decide +kernel
theorem d_SchemaReader_readField_10 : decode prog_10_method_3_code 10 = .ok (.iconst 0, 1) := by decide +kernel
theorem d_SchemaReader_readField_11 : decode prog_10_method_3_code 11 = .ok (.ireturn, 1) := by decide +kernel
theorem d_SchemaReader_readField_12 : decode prog_10_method_3_code 12 = .ok (.aload_n 0, 1) := by decide +kernel
theorem d_SchemaReader_readField_13 : decode prog_10_method_3_code 13 = .ok (.invokevirtual 36, 3) := by decide +kernel
theorem d_SchemaReader_readField_16 : decode prog_10_method_3_code 16 = .ok (.istore 4, 2) := by decide +kernel
theorem d_SchemaReader_readField_18 : decode prog_10_method_3_code 18 = .ok (.iload 4, 2) := by decide +kernel
theorem d_SchemaReader_readField_20 : decode prog_10_method_3_code 20 = .ok (.iconst (-1), 1) := by decide +kernel
theorem d_SchemaReader_readField_21 : decode prog_10_method_3_code 21 = .ok (.if_icmp .eq 13, 3) := by decide +kernel
theorem d_SchemaReader_readField_24 : decode prog_10_method_3_code 24 = .ok (.aload_n 0, 1) := by decide +kernel
theorem d_SchemaReader_readField_25 : decode prog_10_method_3_code 25 = .ok (.getfield 9, 3) := by decide +kernel
theorem d_SchemaReader_readField_28 : decode prog_10_method_3_code 28 = .ok (.invokevirtual 39, 3) := by decide +kernel
theorem d_SchemaReader_readField_31 : decode prog_10_method_3_code 31 = .ok (.ifCond .ne 5, 3) := by decide +kernel
theorem d_SchemaReader_readField_34 : decode prog_10_method_3_code 34 = .ok (.iconst 0, 1) := by decide +kernel
theorem d_SchemaReader_readField_35 : decode prog_10_method_3_code 35 = .ok (.ireturn, 1) := by decide +kernel
theorem d_SchemaReader_readField_36 : decode prog_10_method_3_code 36 = .ok (.aload_n 0, 1) := by decide +kernel
theorem d_SchemaReader_readField_37 : decode prog_10_method_3_code 37 = .ok (.iload_n 1, 1) := by decide +kernel
theorem d_SchemaReader_readField_38 : decode prog_10_method_3_code 38 = .ok (.iload 4, 2) := by decide +kernel
theorem d_SchemaReader_readField_40 : decode prog_10_method_3_code 40 = .ok (.iload_n 2, 1) := by decide +kernel
theorem d_SchemaReader_readField_41 : decode prog_10_method_3_code 41 = .ok (.invokevirtual 42, 3) := by decide +kernel
theorem d_SchemaReader_readField_44 : decode prog_10_method_3_code 44 = .ok (.ifCond .ne 11, 3) := by decide +kernel
theorem d_SchemaReader_readField_47 : decode prog_10_method_3_code 47 = .ok (.aload_n 0, 1) := by decide +kernel
theorem d_SchemaReader_readField_48 : decode prog_10_method_3_code 48 = .ok (.getfield 9, 3) := by decide +kernel
theorem d_SchemaReader_readField_51 : decode prog_10_method_3_code 51 = .ok (.invokevirtual 46, 3) := by decide +kernel
theorem d_SchemaReader_readField_54 : decode prog_10_method_3_code 54 = .ok (.ireturn, 1) := by decide +kernel
theorem d_SchemaReader_readField_55 : decode prog_10_method_3_code 55 = .ok (.aload_n 0, 1) := by decide +kernel
theorem d_SchemaReader_readField_56 : decode prog_10_method_3_code 56 = .ok (.getfield 15, 3) := by decide +kernel
theorem d_SchemaReader_readField_59 : decode prog_10_method_3_code 59 = .ok (.iload_n 3, 1) := by decide +kernel
theorem d_SchemaReader_readField_60 : decode prog_10_method_3_code 60 = .ok (.iload 4, 2) := by decide +kernel
theorem d_SchemaReader_readField_62 : decode prog_10_method_3_code 62 = .ok (.iload_n 1, 1) := by decide +kernel
theorem d_SchemaReader_readField_63 : decode prog_10_method_3_code 63 = .ok (.aload_n 0, 1) := by decide +kernel
theorem d_SchemaReader_readField_64 : decode prog_10_method_3_code 64 = .ok (.getfield 9, 3) := by decide +kernel
theorem d_SchemaReader_readField_67 : decode prog_10_method_3_code 67 = .ok (.aload_n 0, 1) := by decide +kernel
theorem d_SchemaReader_readField_68 : decode prog_10_method_3_code 68 = .ok (.getfield 9, 3) := by decide +kernel
theorem d_SchemaReader_readField_71 : decode prog_10_method_3_code 71 = .ok (.getfield 49, 3) := by decide +kernel
theorem d_SchemaReader_readField_74 : decode prog_10_method_3_code 74 = .ok (.aload_n 0, 1) := by decide +kernel
theorem d_SchemaReader_readField_75 : decode prog_10_method_3_code 75 = .ok (.getfield 9, 3) := by decide +kernel
theorem d_SchemaReader_readField_78 : decode prog_10_method_3_code 78 = .ok (.getfield 53, 3) := by decide +kernel
theorem d_SchemaReader_readField_81 : decode prog_10_method_3_code 81 = .ok (.invokevirtual 56, 3) := by decide +kernel
theorem d_SchemaReader_readField_84 : decode prog_10_method_3_code 84 = .ok (.invokevirtual 60, 3) := by decide +kernel
theorem d_SchemaReader_readField_87 : decode prog_10_method_3_code 87 = .ok (.istore 5, 2) := by decide +kernel
theorem d_SchemaReader_readField_89 : decode prog_10_method_3_code 89 = .ok (.iload 4, 2) := by decide +kernel
theorem d_SchemaReader_readField_91 : decode prog_10_method_3_code 91 = .ok (.iconst 4, 1) := by decide +kernel
theorem d_SchemaReader_readField_92 : decode prog_10_method_3_code 92 = .ok (.if_icmp .ne 15, 3) := by decide +kernel
theorem d_SchemaReader_readField_95 : decode prog_10_method_3_code 95 = .ok (.aload_n 0, 1) := by decide +kernel
theorem d_SchemaReader_readField_96 : decode prog_10_method_3_code 96 = .ok (.iload 5, 2) := by decide +kernel
theorem d_SchemaReader_readField_98 : decode prog_10_method_3_code 98 = .ok (.iload_n 2, 1) := by decide +kernel
theorem d_SchemaReader_readField_99 : decode prog_10_method_3_code 99 = .ok (.iconst 1, 1) := by decide +kernel
theorem d_SchemaReader_readField_100 : decode prog_10_method_3_code 100 = .ok (.iadd, 1) := by decide +kernel
theorem d_SchemaReader_readField_101 : decode prog_10_method_3_code 101 = .ok (.invokevirtual 66, 3) := by decide +kernel
theorem d_SchemaReader_readField_104 : decode prog_10_method_3_code 104 = .ok (.goto 12, 3) := by decide +kernel
theorem d_SchemaReader_readField_107 : decode prog_10_method_3_code 107 = .ok (.aload_n 0, 1) := by decide +kernel
theorem d_SchemaReader_readField_108 : decode prog_10_method_3_code 108 = .ok (.getfield 9, 3) := by decide +kernel
theorem d_SchemaReader_readField_111 : decode prog_10_method_3_code 111 = .ok (.bipush 59, 2) := by decide +kernel
theorem d_SchemaReader_readField_113 : decode prog_10_method_3_code 113 = .ok (.invokevirtual 69, 3) := by decide +kernel
theorem d_SchemaReader_readField_116 : decode prog_10_method_3_code 116 = .ok (.ireturn, 1) := by decide +kernel
theorem d_SchemaReader_readKind_0 : decode prog_10_method_6_code 0 = .ok (.aload_n 0, 1) := by decide +kernel
theorem d_SchemaReader_readKind_1 : decode prog_10_method_6_code 1 = .ok (.getfield 9, 3) := by decide +kernel
theorem d_SchemaReader_readKind_4 : decode prog_10_method_6_code 4 = .ok (.invokevirtual 39, 3) := by decide +kernel
theorem d_SchemaReader_readKind_7 : decode prog_10_method_6_code 7 = .ok (.ifCond .ne 5, 3) := by decide +kernel
theorem d_SchemaReader_readKind_10 : decode prog_10_method_6_code 10 = .ok (.iconst (-1), 1) := by decide +kernel
theorem d_SchemaReader_readKind_11 : decode prog_10_method_6_code 11 = .ok (.ireturn, 1) := by decide +kernel
theorem d_SchemaReader_readKind_12 : decode prog_10_method_6_code 12 = .ok (.aload_n 0, 1) := by decide +kernel
theorem d_SchemaReader_readKind_13 : decode prog_10_method_6_code 13 = .ok (.getfield 9, 3) := by decide +kernel
theorem d_SchemaReader_readKind_16 : decode prog_10_method_6_code 16 = .ok (.ldc 80, 2) := by decide +kernel
theorem d_SchemaReader_readKind_18 : decode prog_10_method_6_code 18 = .ok (.invokevirtual 82, 3) := by decide +kernel
theorem d_SchemaReader_readKind_21 : decode prog_10_method_6_code 21 = .ok (.ifCond .eq 5, 3) := by decide +kernel
theorem d_SchemaReader_readKind_24 : decode prog_10_method_6_code 24 = .ok (.iconst 0, 1) := by decide +kernel
theorem d_SchemaReader_readKind_25 : decode prog_10_method_6_code 25 = .ok (.ireturn, 1) := by decide +kernel
theorem d_SchemaReader_readKind_26 : decode prog_10_method_6_code 26 = .ok (.aload_n 0, 1) := by decide +kernel
theorem d_SchemaReader_readKind_27 : decode prog_10_method_6_code 27 = .ok (.getfield 9, 3) := by decide +kernel
theorem d_SchemaReader_readKind_30 : decode prog_10_method_6_code 30 = .ok (.ldc 86, 2) := by decide +kernel
theorem d_SchemaReader_readKind_32 : decode prog_10_method_6_code 32 = .ok (.invokevirtual 82, 3) := by decide +kernel
theorem d_SchemaReader_readKind_35 : decode prog_10_method_6_code 35 = .ok (.ifCond .eq 5, 3) := by decide +kernel
theorem d_SchemaReader_readKind_38 : decode prog_10_method_6_code 38 = .ok (.iconst 1, 1) := by decide +kernel
theorem d_SchemaReader_readKind_39 : decode prog_10_method_6_code 39 = .ok (.ireturn, 1) := by decide +kernel
theorem d_SchemaReader_readKind_40 : decode prog_10_method_6_code 40 = .ok (.aload_n 0, 1) := by decide +kernel
theorem d_SchemaReader_readKind_41 : decode prog_10_method_6_code 41 = .ok (.getfield 9, 3) := by decide +kernel
theorem d_SchemaReader_readKind_44 : decode prog_10_method_6_code 44 = .ok (.ldc 88, 2) := by decide +kernel
theorem d_SchemaReader_readKind_46 : decode prog_10_method_6_code 46 = .ok (.invokevirtual 82, 3) := by decide +kernel
theorem d_SchemaReader_readKind_49 : decode prog_10_method_6_code 49 = .ok (.ifCond .eq 5, 3) := by decide +kernel
theorem d_SchemaReader_readKind_52 : decode prog_10_method_6_code 52 = .ok (.iconst 2, 1) := by decide +kernel
theorem d_SchemaReader_readKind_53 : decode prog_10_method_6_code 53 = .ok (.ireturn, 1) := by decide +kernel
theorem d_SchemaReader_readKind_54 : decode prog_10_method_6_code 54 = .ok (.aload_n 0, 1) := by decide +kernel
theorem d_SchemaReader_readKind_55 : decode prog_10_method_6_code 55 = .ok (.getfield 9, 3) := by decide +kernel
theorem d_SchemaReader_readKind_58 : decode prog_10_method_6_code 58 = .ok (.invokevirtual 46, 3) := by decide +kernel
theorem d_SchemaReader_readKind_61 : decode prog_10_method_6_code 61 = .ok (.pop, 1) := by decide +kernel
theorem d_SchemaReader_readKind_62 : decode prog_10_method_6_code 62 = .ok (.iconst (-1), 1) := by decide +kernel
theorem d_SchemaReader_readKind_63 : decode prog_10_method_6_code 63 = .ok (.ireturn, 1) := by decide +kernel
theorem d_SchemaReader_readType_0 : decode prog_10_method_7_code 0 = .ok (.aload_n 0, 1) := by decide +kernel
theorem d_SchemaReader_readType_1 : decode prog_10_method_7_code 1 = .ok (.getfield 9, 3) := by decide +kernel
theorem d_SchemaReader_readType_4 : decode prog_10_method_7_code 4 = .ok (.invokevirtual 39, 3) := by decide +kernel
theorem d_SchemaReader_readType_7 : decode prog_10_method_7_code 7 = .ok (.ifCond .ne 5, 3) := by decide +kernel
theorem d_SchemaReader_readType_10 : decode prog_10_method_7_code 10 = .ok (.iconst (-1), 1) := by decide +kernel
theorem d_SchemaReader_readType_11 : decode prog_10_method_7_code 11 = .ok (.ireturn, 1) := by decide +kernel
theorem d_SchemaReader_readType_12 : decode prog_10_method_7_code 12 = .ok (.aload_n 0, 1) := by decide +kernel
theorem d_SchemaReader_readType_13 : decode prog_10_method_7_code 13 = .ok (.getfield 9, 3) := by decide +kernel
theorem d_SchemaReader_readType_16 : decode prog_10_method_7_code 16 = .ok (.ldc 90, 2) := by decide +kernel
theorem d_SchemaReader_readType_18 : decode prog_10_method_7_code 18 = .ok (.invokevirtual 82, 3) := by decide +kernel
theorem d_SchemaReader_readType_21 : decode prog_10_method_7_code 21 = .ok (.ifCond .eq 5, 3) := by decide +kernel
theorem d_SchemaReader_readType_24 : decode prog_10_method_7_code 24 = .ok (.iconst 0, 1) := by decide +kernel
theorem d_SchemaReader_readType_25 : decode prog_10_method_7_code 25 = .ok (.ireturn, 1) := by decide +kernel
theorem d_SchemaReader_readType_26 : decode prog_10_method_7_code 26 = .ok (.aload_n 0, 1) := by decide +kernel
theorem d_SchemaReader_readType_27 : decode prog_10_method_7_code 27 = .ok (.getfield 9, 3) := by decide +kernel
theorem d_SchemaReader_readType_30 : decode prog_10_method_7_code 30 = .ok (.ldc 92, 2) := by decide +kernel
theorem d_SchemaReader_readType_32 : decode prog_10_method_7_code 32 = .ok (.invokevirtual 82, 3) := by decide +kernel
theorem d_SchemaReader_readType_35 : decode prog_10_method_7_code 35 = .ok (.ifCond .eq 5, 3) := by decide +kernel
theorem d_SchemaReader_readType_38 : decode prog_10_method_7_code 38 = .ok (.iconst 1, 1) := by decide +kernel
theorem d_SchemaReader_readType_39 : decode prog_10_method_7_code 39 = .ok (.ireturn, 1) := by decide +kernel
theorem d_SchemaReader_readType_40 : decode prog_10_method_7_code 40 = .ok (.aload_n 0, 1) := by decide +kernel
theorem d_SchemaReader_readType_41 : decode prog_10_method_7_code 41 = .ok (.getfield 9, 3) := by decide +kernel
theorem d_SchemaReader_readType_44 : decode prog_10_method_7_code 44 = .ok (.ldc 94, 2) := by decide +kernel
theorem d_SchemaReader_readType_46 : decode prog_10_method_7_code 46 = .ok (.invokevirtual 82, 3) := by decide +kernel
theorem d_SchemaReader_readType_49 : decode prog_10_method_7_code 49 = .ok (.ifCond .eq 5, 3) := by decide +kernel
theorem d_SchemaReader_readType_52 : decode prog_10_method_7_code 52 = .ok (.iconst 2, 1) := by decide +kernel
theorem d_SchemaReader_readType_53 : decode prog_10_method_7_code 53 = .ok (.ireturn, 1) := by decide +kernel
theorem d_SchemaReader_readType_54 : decode prog_10_method_7_code 54 = .ok (.aload_n 0, 1) := by decide +kernel
theorem d_SchemaReader_readType_55 : decode prog_10_method_7_code 55 = .ok (.getfield 9, 3) := by decide +kernel
theorem d_SchemaReader_readType_58 : decode prog_10_method_7_code 58 = .ok (.ldc 96, 2) := by decide +kernel
theorem d_SchemaReader_readType_60 : decode prog_10_method_7_code 60 = .ok (.invokevirtual 82, 3) := by decide +kernel
theorem d_SchemaReader_readType_63 : decode prog_10_method_7_code 63 = .ok (.ifCond .eq 5, 3) := by decide +kernel
theorem d_SchemaReader_readType_66 : decode prog_10_method_7_code 66 = .ok (.iconst 3, 1) := by decide +kernel
theorem d_SchemaReader_readType_67 : decode prog_10_method_7_code 67 = .ok (.ireturn, 1) := by decide +kernel
theorem d_SchemaReader_readType_68 : decode prog_10_method_7_code 68 = .ok (.aload_n 0, 1) := by decide +kernel
theorem d_SchemaReader_readType_69 : decode prog_10_method_7_code 69 = .ok (.getfield 9, 3) := by decide +kernel
theorem d_SchemaReader_readType_72 : decode prog_10_method_7_code 72 = .ok (.ldc 97, 2) := by decide +kernel
theorem d_SchemaReader_readType_74 : decode prog_10_method_7_code 74 = .ok (.invokevirtual 82, 3) := by decide +kernel
theorem d_SchemaReader_readType_77 : decode prog_10_method_7_code 77 = .ok (.ifCond .eq 5, 3) := by decide +kernel
theorem d_SchemaReader_readType_80 : decode prog_10_method_7_code 80 = .ok (.iconst 4, 1) := by decide +kernel
theorem d_SchemaReader_readType_81 : decode prog_10_method_7_code 81 = .ok (.ireturn, 1) := by decide +kernel
theorem d_SchemaReader_readType_82 : decode prog_10_method_7_code 82 = .ok (.aload_n 0, 1) := by decide +kernel
theorem d_SchemaReader_readType_83 : decode prog_10_method_7_code 83 = .ok (.getfield 9, 3) := by decide +kernel
theorem d_SchemaReader_readType_86 : decode prog_10_method_7_code 86 = .ok (.invokevirtual 46, 3) := by decide +kernel
theorem d_SchemaReader_readType_89 : decode prog_10_method_7_code 89 = .ok (.pop, 1) := by decide +kernel
theorem d_SchemaReader_readType_90 : decode prog_10_method_7_code 90 = .ok (.iconst (-1), 1) := by decide +kernel
theorem d_SchemaReader_readType_91 : decode prog_10_method_7_code 91 = .ok (.ireturn, 1) := by decide +kernel
theorem d_SchemaReader_nameStands_0 : decode prog_10_method_5_code 0 = .ok (.aload_n 0, 1) := by decide +kernel
theorem d_SchemaReader_nameStands_1 : decode prog_10_method_5_code 1 = .ok (.getfield 9, 3) := by decide +kernel
theorem d_SchemaReader_nameStands_4 : decode prog_10_method_5_code 4 = .ok (.getfield 53, 3) := by decide +kernel
theorem d_SchemaReader_nameStands_7 : decode prog_10_method_5_code 7 = .ok (.aload_n 0, 1) := by decide +kernel
theorem d_SchemaReader_nameStands_8 : decode prog_10_method_5_code 8 = .ok (.getfield 9, 3) := by decide +kernel
theorem d_SchemaReader_nameStands_11 : decode prog_10_method_5_code 11 = .ok (.getfield 49, 3) := by decide +kernel
theorem d_SchemaReader_nameStands_14 : decode prog_10_method_5_code 14 = .ok (.isub, 1) := by decide +kernel
theorem d_SchemaReader_nameStands_15 : decode prog_10_method_5_code 15 = .ok (.bipush 16, 2) := by decide +kernel
theorem d_SchemaReader_nameStands_17 : decode prog_10_method_5_code 17 = .ok (.if_icmp .gt 59, 3) := by decide +kernel
theorem d_SchemaReader_nameStands_20 : decode prog_10_method_5_code 20 = .ok (.aload_n 0, 1) := by decide +kernel
theorem d_SchemaReader_nameStands_21 : decode prog_10_method_5_code 21 = .ok (.getfield 15, 3) := by decide +kernel
theorem d_SchemaReader_nameStands_24 : decode prog_10_method_5_code 24 = .ok (.iload_n 2, 1) := by decide +kernel
theorem d_SchemaReader_nameStands_25 : decode prog_10_method_5_code 25 = .ok (.invokevirtual 73, 3) := by decide +kernel
theorem d_SchemaReader_nameStands_28 : decode prog_10_method_5_code 28 = .ok (.ifCond .eq 48, 3) := by decide +kernel
theorem d_SchemaReader_nameStands_31 : decode prog_10_method_5_code 31 = .ok (.iload_n 2, 1) := by decide +kernel
theorem d_SchemaReader_nameStands_32 : decode prog_10_method_5_code 32 = .ok (.iconst 4, 1) := by decide +kernel
theorem d_SchemaReader_nameStands_33 : decode prog_10_method_5_code 33 = .ok (.if_icmp .ne 9, 3) := by decide +kernel
theorem d_SchemaReader_nameStands_36 : decode prog_10_method_5_code 36 = .ok (.iload_n 3, 1) := by decide +kernel
theorem d_SchemaReader_nameStands_37 : decode prog_10_method_5_code 37 = .ok (.bipush 16, 2) := by decide +kernel
theorem d_SchemaReader_nameStands_39 : decode prog_10_method_5_code 39 = .ok (.if_icmp .ge 37, 3) := by decide +kernel
theorem d_SchemaReader_nameStands_42 : decode prog_10_method_5_code 42 = .ok (.aload_n 0, 1) := by decide +kernel
theorem d_SchemaReader_nameStands_43 : decode prog_10_method_5_code 43 = .ok (.getfield 15, 3) := by decide +kernel
theorem d_SchemaReader_nameStands_46 : decode prog_10_method_5_code 46 = .ok (.iload_n 1, 1) := by decide +kernel
theorem d_SchemaReader_nameStands_47 : decode prog_10_method_5_code 47 = .ok (.aload_n 0, 1) := by decide +kernel
theorem d_SchemaReader_nameStands_48 : decode prog_10_method_5_code 48 = .ok (.getfield 9, 3) := by decide +kernel
theorem d_SchemaReader_nameStands_51 : decode prog_10_method_5_code 51 = .ok (.aload_n 0, 1) := by decide +kernel
theorem d_SchemaReader_nameStands_52 : decode prog_10_method_5_code 52 = .ok (.getfield 9, 3) := by decide +kernel
theorem d_SchemaReader_nameStands_55 : decode prog_10_method_5_code 55 = .ok (.getfield 49, 3) := by decide +kernel
theorem d_SchemaReader_nameStands_58 : decode prog_10_method_5_code 58 = .ok (.aload_n 0, 1) := by decide +kernel
theorem d_SchemaReader_nameStands_59 : decode prog_10_method_5_code 59 = .ok (.getfield 9, 3) := by decide +kernel
theorem d_SchemaReader_nameStands_62 : decode prog_10_method_5_code 62 = .ok (.getfield 53, 3) := by decide +kernel
theorem d_SchemaReader_nameStands_65 : decode prog_10_method_5_code 65 = .ok (.invokevirtual 76, 3) := by decide +kernel
theorem d_SchemaReader_nameStands_68 : decode prog_10_method_5_code 68 = .ok (.iconst (-1), 1) := by decide +kernel
theorem d_SchemaReader_nameStands_69 : decode prog_10_method_5_code 69 = .ok (.if_icmp .ne 7, 3) := by decide +kernel
theorem d_SchemaReader_nameStands_72 : decode prog_10_method_5_code 72 = .ok (.iconst 1, 1) := by decide +kernel
theorem d_SchemaReader_nameStands_73 : decode prog_10_method_5_code 73 = .ok (.goto 4, 3) := by decide +kernel
theorem d_SchemaReader_nameStands_76 : decode prog_10_method_5_code 76 = .ok (.iconst 0, 1) := by decide +kernel
theorem d_SchemaReader_nameStands_77 : decode prog_10_method_5_code 77 = .ok (.ireturn, 1) := by decide +kernel
theorem d_SchemaReader_readGroup_0 : decode prog_10_method_4_code 0 = .ok (.aload_n 0, 1) := by decide +kernel
theorem d_SchemaReader_readGroup_1 : decode prog_10_method_4_code 1 = .ok (.getfield 9, 3) := by decide +kernel
theorem d_SchemaReader_readGroup_4 : decode prog_10_method_4_code 4 = .ok (.bipush 123, 2) := by decide +kernel
theorem d_SchemaReader_readGroup_6 : decode prog_10_method_4_code 6 = .ok (.invokevirtual 69, 3) := by decide +kernel
theorem d_SchemaReader_readGroup_9 : decode prog_10_method_4_code 9 = .ok (.ifCond .ne 5, 3) := by decide +kernel
theorem d_SchemaReader_readGroup_12 : decode prog_10_method_4_code 12 = .ok (.iconst 0, 1) := by decide +kernel
theorem d_SchemaReader_readGroup_13 : decode prog_10_method_4_code 13 = .ok (.ireturn, 1) := by decide +kernel
theorem d_SchemaReader_readGroup_14 : decode prog_10_method_4_code 14 = .ok (.iconst 0, 1) := by decide +kernel
theorem d_SchemaReader_readGroup_15 : decode prog_10_method_4_code 15 = .ok (.istore_n 3, 1) := by decide +kernel
theorem d_SchemaReader_readGroup_16 : decode prog_10_method_4_code 16 = .ok (.iload_n 3, 1) := by decide +kernel
theorem d_SchemaReader_readGroup_17 : decode prog_10_method_4_code 17 = .ok (.sipush 128, 3) := by decide +kernel
theorem d_SchemaReader_readGroup_20 : decode prog_10_method_4_code 20 = .ok (.if_icmp .gt 46, 3) := by decide +kernel
theorem d_SchemaReader_readGroup_23 : decode prog_10_method_4_code 23 = .ok (.iload_n 3, 1) := by decide +kernel
theorem d_SchemaReader_readGroup_24 : decode prog_10_method_4_code 24 = .ok (.ifCond .le 25, 3) := by decide +kernel
theorem d_SchemaReader_readGroup_27 : decode prog_10_method_4_code 27 = .ok (.aload_n 0, 1) := by decide +kernel
theorem d_SchemaReader_readGroup_28 : decode prog_10_method_4_code 28 = .ok (.getfield 9, 3) := by decide +kernel
theorem d_SchemaReader_readGroup_31 : decode prog_10_method_4_code 31 = .ok (.invokevirtual 19, 3) := by decide +kernel
theorem d_SchemaReader_readGroup_34 : decode prog_10_method_4_code 34 = .ok (.bipush 125, 2) := by decide +kernel
theorem d_SchemaReader_readGroup_36 : decode prog_10_method_4_code 36 = .ok (.if_icmp .ne 13, 3) := by decide +kernel
theorem d_SchemaReader_readGroup_39 : decode prog_10_method_4_code 39 = .ok (.aload_n 0, 1) := by decide +kernel
theorem d_SchemaReader_readGroup_40 : decode prog_10_method_4_code 40 = .ok (.getfield 9, 3) := by decide +kernel
theorem d_SchemaReader_readGroup_43 : decode prog_10_method_4_code 43 = .ok (.bipush 125, 2) := by decide +kernel
theorem d_SchemaReader_readGroup_45 : decode prog_10_method_4_code 45 = .ok (.invokevirtual 69, 3) := by decide +kernel
theorem d_SchemaReader_readGroup_48 : decode prog_10_method_4_code 48 = .ok (.ireturn, 1) := by decide +kernel
theorem d_SchemaReader_readGroup_49 : decode prog_10_method_4_code 49 = .ok (.aload_n 0, 1) := by decide +kernel
theorem d_SchemaReader_readGroup_50 : decode prog_10_method_4_code 50 = .ok (.iload_n 1, 1) := by decide +kernel
theorem d_SchemaReader_readGroup_51 : decode prog_10_method_4_code 51 = .ok (.iload_n 2, 1) := by decide +kernel
theorem d_SchemaReader_readGroup_52 : decode prog_10_method_4_code 52 = .ok (.invokevirtual 25, 3) := by decide +kernel
theorem d_SchemaReader_readGroup_55 : decode prog_10_method_4_code 55 = .ok (.ifCond .ne 5, 3) := by decide +kernel
theorem d_SchemaReader_readGroup_58 : decode prog_10_method_4_code 58 = .ok (.iconst 0, 1) := by decide +kernel
theorem d_SchemaReader_readGroup_59 : decode prog_10_method_4_code 59 = .ok (.ireturn, 1) := by decide +kernel
theorem d_SchemaReader_readGroup_60 : decode prog_10_method_4_code 60 = .ok (.iinc 3 1, 3) := by decide +kernel
theorem d_SchemaReader_readGroup_63 : decode prog_10_method_4_code 63 = .ok (.goto (-47), 3) := by decide +kernel
theorem d_SchemaReader_readGroup_66 : decode prog_10_method_4_code 66 = .ok (.aload_n 0, 1) := by decide +kernel
theorem d_SchemaReader_readGroup_67 : decode prog_10_method_4_code 67 = .ok (.getfield 9, 3) := by decide +kernel
theorem d_SchemaReader_readGroup_70 : decode prog_10_method_4_code 70 = .ok (.invokevirtual 29, 3) := by decide +kernel
theorem d_SchemaReader_readGroup_73 : decode prog_10_method_4_code 73 = .ok (.ireturn, 1) := by decide +kernel
theorem d_JS_length_0 : decode prog_16_method_54_code 0 = .ok (.aload_n 0, 1) := by decide +kernel
theorem d_JS_length_1 : decode prog_16_method_54_code 1 = .ok (.getfield 9, 3) := by decide +kernel
theorem d_JS_length_4 : decode prog_16_method_54_code 4 = .ok (.arraylength, 1) := by decide +kernel
theorem d_JS_length_5 : decode prog_16_method_54_code 5 = .ok (.aload_n 0, 1) := by decide +kernel
theorem d_JS_length_6 : decode prog_16_method_54_code 6 = .ok (.invokevirtual 335, 3) := by decide +kernel
theorem d_JS_length_9 : decode prog_16_method_54_code 9 = .ok (.ishr, 1) := by decide +kernel
theorem d_JS_length_10 : decode prog_16_method_54_code 10 = .ok (.ireturn, 1) := by decide +kernel
theorem d_JS_coder_0 : decode prog_16_method_152_code 0 = .ok (.getstatic 38, 3) := by decide +kernel
theorem d_JS_coder_3 : decode prog_16_method_152_code 3 = .ok (.ifCond .eq 10, 3) := by decide +kernel
theorem d_JS_coder_6 : decode prog_16_method_152_code 6 = .ok (.aload_n 0, 1) := by decide +kernel
theorem d_JS_coder_7 : decode prog_16_method_152_code 7 = .ok (.getfield 15, 3) := by decide +kernel
theorem d_JS_coder_10 : decode prog_16_method_152_code 10 = .ok (.goto 4, 3) := by decide +kernel
theorem d_JS_coder_13 : decode prog_16_method_152_code 13 = .ok (.iconst 1, 1) := by decide +kernel
theorem d_JS_coder_14 : decode prog_16_method_152_code 14 = .ok (.ireturn, 1) := by decide +kernel
theorem d_JS_charAt_0 : decode prog_16_method_56_code 0 = .ok (.aload_n 0, 1) := by decide +kernel
theorem d_JS_charAt_1 : decode prog_16_method_56_code 1 = .ok (.invokevirtual 492, 3) := by decide +kernel
theorem d_JS_charAt_4 : decode prog_16_method_56_code 4 = .ok (.ifCond .eq 12, 3) := by decide +kernel
theorem d_JS_charAt_7 : decode prog_16_method_56_code 7 = .ok (.aload_n 0, 1) := by decide +kernel
theorem d_JS_charAt_8 : decode prog_16_method_56_code 8 = .ok (.getfield 9, 3) := by decide +kernel
theorem d_JS_charAt_11 : decode prog_16_method_56_code 11 = .ok (.iload_n 1, 1) := by decide +kernel
theorem d_JS_charAt_12 : decode prog_16_method_56_code 12 = .ok (.invokestatic 495, 3) := by decide +kernel
theorem d_JS_charAt_15 : decode prog_16_method_56_code 15 = .ok (.ireturn, 1) := by decide +kernel
theorem d_JS_charAt_16 : decode prog_16_method_56_code 16 = .ok (.aload_n 0, 1) := by decide +kernel
theorem d_JS_charAt_17 : decode prog_16_method_56_code 17 = .ok (.getfield 9, 3) := by decide +kernel
theorem d_JS_charAt_20 : decode prog_16_method_56_code 20 = .ok (.iload_n 1, 1) := by decide +kernel
theorem d_JS_charAt_21 : decode prog_16_method_56_code 21 = .ok (.invokestatic 498, 3) := by decide +kernel
theorem d_JS_charAt_24 : decode prog_16_method_56_code 24 = .ok (.ireturn, 1) := by decide +kernel
theorem d_JS_isLatin1_0 : decode prog_16_method_154_code 0 = .ok (.getstatic 38, 3) := by decide +kernel
theorem d_JS_isLatin1_3 : decode prog_16_method_154_code 3 = .ok (.ifCond .eq 14, 3) := by decide +kernel
theorem d_JS_isLatin1_6 : decode prog_16_method_154_code 6 = .ok (.aload_n 0, 1) := by decide +kernel
theorem d_JS_isLatin1_7 : decode prog_16_method_154_code 7 = .ok (.getfield 15, 3) := by decide +kernel
theorem d_JS_isLatin1_10 : decode prog_16_method_154_code 10 = .ok (.ifCond .ne 7, 3) := by decide +kernel
theorem d_JS_isLatin1_13 : decode prog_16_method_154_code 13 = .ok (.iconst 1, 1) := by decide +kernel
theorem d_JS_isLatin1_14 : decode prog_16_method_154_code 14 = .ok (.goto 4, 3) := by decide +kernel
theorem d_JS_isLatin1_17 : decode prog_16_method_154_code 17 = .ok (.iconst 0, 1) := by decide +kernel
theorem d_JS_isLatin1_18 : decode prog_16_method_154_code 18 = .ok (.ireturn, 1) := by decide +kernel
theorem d_JL_charAt_0 : decode prog_17_method_2_code 0 = .ok (.iload_n 1, 1) := by decide +kernel
theorem d_JL_charAt_1 : decode prog_17_method_2_code 1 = .ok (.aload_n 0, 1) := by decide +kernel
theorem d_JL_charAt_2 : decode prog_17_method_2_code 2 = .ok (.arraylength, 1) := by decide +kernel
theorem d_JL_charAt_3 : decode prog_17_method_2_code 3 = .ok (.invokestatic 9, 3) := by decide +kernel
theorem d_JL_charAt_6 : decode prog_17_method_2_code 6 = .ok (.aload_n 0, 1) := by decide +kernel
theorem d_JL_charAt_7 : decode prog_17_method_2_code 7 = .ok (.iload_n 1, 1) := by decide +kernel
theorem d_JL_charAt_8 : decode prog_17_method_2_code 8 = .ok (.baload, 1) := by decide +kernel
theorem d_JL_charAt_9 : decode prog_17_method_2_code 9 = .ok (.sipush 255, 3) := by decide +kernel
theorem d_JL_charAt_12 : decode prog_17_method_2_code 12 = .ok (.iand, 1) := by decide +kernel
theorem d_JL_charAt_13 : decode prog_17_method_2_code 13 = .ok (.i2c, 1) := by decide +kernel
theorem d_JL_charAt_14 : decode prog_17_method_2_code 14 = .ok (.ireturn, 1) := by decide +kernel
theorem d_JS_checkIndex_0 : decode prog_16_method_155_code 0 = .ok (.iload_n 0, 1) := by decide +kernel
theorem d_JS_checkIndex_1 : decode prog_16_method_155_code 1 = .ok (.iload_n 1, 1) := by decide +kernel
theorem d_JS_checkIndex_2 : decode prog_16_method_155_code 2 = .ok (.getstatic 1053, 3) := by decide +kernel
theorem d_JS_checkIndex_5 : decode prog_16_method_155_code 5 = .ok (.invokestatic 1059, 3) := by decide +kernel
theorem d_JS_checkIndex_8 : decode prog_16_method_155_code 8 = .ok (.pop, 1) := by decide +kernel
theorem d_JS_checkIndex_9 : decode prog_16_method_155_code 9 = .ok (.return_, 1) := by decide +kernel
theorem d_JP_checkIndex_0 : decode prog_21_method_11_code 0 = .ok (.iload_n 0, 1) := by decide +kernel
theorem d_JP_checkIndex_1 : decode prog_21_method_11_code 1 = .ok (.ifCond .lt 8, 3) := by decide +kernel
theorem d_JP_checkIndex_4 : decode prog_21_method_11_code 4 = .ok (.iload_n 0, 1) := by decide +kernel
theorem d_JP_checkIndex_5 : decode prog_21_method_11_code 5 = .ok (.iload_n 1, 1) := by decide +kernel
theorem d_JP_checkIndex_6 : decode prog_21_method_11_code 6 = .ok (.if_icmp .lt 10, 3) := by decide +kernel
theorem d_JP_checkIndex_9 : decode prog_21_method_11_code 9 = .ok (.aload_n 2, 1) := by decide +kernel
theorem d_JP_checkIndex_10 : decode prog_21_method_11_code 10 = .ok (.iload_n 0, 1) := by decide +kernel
theorem d_JP_checkIndex_11 : decode prog_21_method_11_code 11 = .ok (.iload_n 1, 1) := by decide +kernel
theorem d_JP_checkIndex_12 : decode prog_21_method_11_code 12 = .ok (.invokestatic 95, 3) := by decide +kernel
theorem d_JP_checkIndex_15 : decode prog_21_method_11_code 15 = .ok (.athrow, 1) := by decide +kernel
theorem d_JP_checkIndex_16 : decode prog_21_method_11_code 16 = .ok (.iload_n 0, 1) := by decide +kernel
theorem d_JP_checkIndex_17 : decode prog_21_method_11_code 17 = .ok (.ireturn, 1) := by decide +kernel
theorem d_JU_charAt_0 : decode prog_18_method_83_code 0 = .ok (.iload_n 1, 1) := by decide +kernel
theorem d_JU_charAt_1 : decode prog_18_method_83_code 1 = .ok (.aload_n 0, 1) := by decide +kernel
theorem d_JU_charAt_2 : decode prog_18_method_83_code 2 = .ok (.invokestatic 67, 3) := by decide +kernel
theorem d_JU_charAt_5 : decode prog_18_method_83_code 5 = .ok (.aload_n 0, 1) := by decide +kernel
theorem d_JU_charAt_6 : decode prog_18_method_83_code 6 = .ok (.iload_n 1, 1) := by decide +kernel
theorem d_JU_charAt_7 : decode prog_18_method_83_code 7 = .ok (.invokestatic 71, 3) := by decide +kernel
theorem d_JU_charAt_10 : decode prog_18_method_83_code 10 = .ok (.ireturn, 1) := by decide +kernel
theorem d_JU_checkIndex_0 : decode prog_18_method_91_code 0 = .ok (.iload_n 0, 1) := by decide +kernel
theorem d_JU_checkIndex_1 : decode prog_18_method_91_code 1 = .ok (.aload_n 1, 1) := by decide +kernel
theorem d_JU_checkIndex_2 : decode prog_18_method_91_code 2 = .ok (.invokestatic 48, 3) := by decide +kernel
theorem d_JU_checkIndex_5 : decode prog_18_method_91_code 5 = .ok (.invokestatic 414, 3) := by decide +kernel
theorem d_JU_checkIndex_8 : decode prog_18_method_91_code 8 = .ok (.return_, 1) := by decide +kernel
theorem d_JU_length_0 : decode prog_18_method_6_code 0 = .ok (.aload_n 0, 1) := by decide +kernel
theorem d_JU_length_1 : decode prog_18_method_6_code 1 = .ok (.arraylength, 1) := by decide +kernel
theorem d_JU_length_2 : decode prog_18_method_6_code 2 = .ok (.iconst 1, 1) := by decide +kernel
theorem d_JU_length_3 : decode prog_18_method_6_code 3 = .ok (.ishr, 1) := by decide +kernel
theorem d_JU_length_4 : decode prog_18_method_6_code 4 = .ok (.ireturn, 1) := by decide +kernel
theorem d_JU_getChar_0 : decode prog_18_method_5_code 0 = .ok (.getstatic 44, 3) := by decide +kernel
theorem d_JU_getChar_3 : decode prog_18_method_5_code 3 = .ok (.ifCond .ne 25, 3) := by decide +kernel
theorem d_JU_getChar_6 : decode prog_18_method_5_code 6 = .ok (.iload_n 1, 1) := by decide +kernel
theorem d_JU_getChar_7 : decode prog_18_method_5_code 7 = .ok (.ifCond .lt 11, 3) := by decide +kernel
theorem d_JU_getChar_10 : decode prog_18_method_5_code 10 = .ok (.iload_n 1, 1) := by decide +kernel
theorem d_JU_getChar_11 : decode prog_18_method_5_code 11 = .ok (.aload_n 0, 1) := by decide +kernel
theorem d_JU_getChar_12 : decode prog_18_method_5_code 12 = .ok (.invokestatic 48, 3) := by decide +kernel
theorem d_JU_getChar_15 : decode prog_18_method_5_code 15 = .ok (.if_icmp .lt 13, 3) := by decide +kernel
theorem d_JU_getChar_18 : decode prog_18_method_5_code 18 = .ok (.new 52, 3) := by decide +kernel
theorem d_JU_getChar_21 : decode prog_18_method_5_code 21 = .ok (.dup, 1) := by decide +kernel
theorem d_JU_getChar_22 : decode prog_18_method_5_code 22 = .ok (.ldc 54, 2) := by decide +kernel
theorem d_JU_getChar_24 : decode prog_18_method_5_code 24 = .ok (.invokespecial 56, 3) := by decide +kernel
theorem d_JU_getChar_27 : decode prog_18_method_5_code 27 = .ok (.athrow, 1) := by decide +kernel
theorem d_JU_getChar_28 : decode prog_18_method_5_code 28 = .ok (.iload_n 1, 1) := by decide +kernel
theorem d_JU_getChar_29 : decode prog_18_method_5_code 29 = .ok (.iconst 1, 1) := by decide +kernel
theorem d_JU_getChar_30 : decode prog_18_method_5_code 30 = .ok (.ishl, 1) := by decide +kernel
theorem d_JU_getChar_31 : decode prog_18_method_5_code 31 = .ok (.istore_n 1, 1) := by decide +kernel
theorem d_JU_getChar_32 : decode prog_18_method_5_code 32 = .ok (.aload_n 0, 1) := by decide +kernel
theorem d_JU_getChar_33 : decode prog_18_method_5_code 33 = .ok (.iload_n 1, 1) := by decide +kernel
theorem d_JU_getChar_34 : decode prog_18_method_5_code 34 = .ok (.iinc 1 1, 3) := by decide +kernel
theorem d_JU_getChar_37 : decode prog_18_method_5_code 37 = .ok (.baload, 1) := by decide +kernel
theorem d_JU_getChar_38 : decode prog_18_method_5_code 38 = .ok (.sipush 255, 3) := by decide +kernel
theorem d_JU_getChar_41 : decode prog_18_method_5_code 41 = .ok (.iand, 1) := by decide +kernel
theorem d_JU_getChar_42 : decode prog_18_method_5_code 42 = .ok (.getstatic 59, 3) := by decide +kernel
theorem d_JU_getChar_45 : decode prog_18_method_5_code 45 = .ok (.ishl, 1) := by decide +kernel
theorem d_JU_getChar_46 : decode prog_18_method_5_code 46 = .ok (.aload_n 0, 1) := by decide +kernel
theorem d_JU_getChar_47 : decode prog_18_method_5_code 47 = .ok (.iload_n 1, 1) := by decide +kernel
theorem d_JU_getChar_48 : decode prog_18_method_5_code 48 = .ok (.baload, 1) := by decide +kernel
theorem d_JU_getChar_49 : decode prog_18_method_5_code 49 = .ok (.sipush 255, 3) := by decide +kernel
theorem d_JU_getChar_52 : decode prog_18_method_5_code 52 = .ok (.iand, 1) := by decide +kernel
theorem d_JU_getChar_53 : decode prog_18_method_5_code 53 = .ok (.getstatic 63, 3) := by decide +kernel
theorem d_JU_getChar_56 : decode prog_18_method_5_code 56 = .ok (.ishl, 1) := by decide +kernel
theorem d_JU_getChar_57 : decode prog_18_method_5_code 57 = .ok (.ior, 1) := by decide +kernel
theorem d_JU_getChar_58 : decode prog_18_method_5_code 58 = .ok (.i2c, 1) := by decide +kernel
theorem d_JU_getChar_59 : decode prog_18_method_5_code 59 = .ok (.ireturn, 1) := by decide +kernel
theorem d_JA_copyOfRange_0 : decode prog_20_method_132_code 0 = .ok (.iload_n 1, 1) := by decide +kernel
theorem d_JA_copyOfRange_1 : decode prog_20_method_132_code 1 = .ok (.ifCond .ne 9, 3) := by decide +kernel
theorem d_JA_copyOfRange_4 : decode prog_20_method_132_code 4 = .ok (.iload_n 2, 1) := by decide +kernel
theorem d_JA_copyOfRange_5 : decode prog_20_method_132_code 5 = .ok (.aload_n 0, 1) := by decide +kernel
theorem d_JA_copyOfRange_6 : decode prog_20_method_132_code 6 = .ok (.arraylength, 1) := by decide +kernel
theorem d_JA_copyOfRange_7 : decode prog_20_method_132_code 7 = .ok (.if_icmp .eq 10, 3) := by decide +kernel
theorem d_JA_copyOfRange_10 : decode prog_20_method_132_code 10 = .ok (.aload_n 0, 1) := by decide +kernel
theorem d_JA_copyOfRange_11 : decode prog_20_method_132_code 11 = .ok (.iload_n 1, 1) := by decide +kernel
theorem d_JA_copyOfRange_12 : decode prog_20_method_132_code 12 = .ok (.iload_n 2, 1) := by decide +kernel
theorem d_JA_copyOfRange_13 : decode prog_20_method_132_code 13 = .ok (.invokestatic 339, 3) := by decide +kernel
theorem d_JA_copyOfRange_16 : decode prog_20_method_132_code 16 = .ok (.areturn, 1) := by decide +kernel
theorem d_JA_copyOfRange_17 : decode prog_20_method_132_code 17 = .ok (.aload_n 0, 1) := by decide +kernel
theorem d_JA_copyOfRange_18 : decode prog_20_method_132_code 18 = .ok (.invokevirtual 310, 3) := by decide +kernel
theorem d_JA_copyOfRange_21 : decode prog_20_method_132_code 21 = .ok (.checkcast 311, 3) := by decide +kernel
theorem d_JA_copyOfRange_24 : decode prog_20_method_132_code 24 = .ok (.areturn, 1) := by decide +kernel
theorem d_JA_copyOfRangeByte_0 : decode prog_20_method_133_code 0 = .ok (.iload_n 1, 1) := by decide +kernel
theorem d_JA_copyOfRangeByte_1 : decode prog_20_method_133_code 1 = .ok (.iload_n 2, 1) := by decide +kernel
theorem d_JA_copyOfRangeByte_2 : decode prog_20_method_133_code 2 = .ok (.invokestatic 343, 3) := by decide +kernel
theorem d_JA_copyOfRangeByte_5 : decode prog_20_method_133_code 5 = .ok (.iload_n 2, 1) := by decide +kernel
theorem d_JA_copyOfRangeByte_6 : decode prog_20_method_133_code 6 = .ok (.iload_n 1, 1) := by decide +kernel
theorem d_JA_copyOfRangeByte_7 : decode prog_20_method_133_code 7 = .ok (.isub, 1) := by decide +kernel
theorem d_JA_copyOfRangeByte_8 : decode prog_20_method_133_code 8 = .ok (.istore_n 3, 1) := by decide +kernel
theorem d_JA_copyOfRangeByte_9 : decode prog_20_method_133_code 9 = .ok (.iload_n 3, 1) := by decide +kernel
theorem d_JA_copyOfRangeByte_10 : decode prog_20_method_133_code 10 = .ok (.newarray .byte, 2) := by decide +kernel
theorem d_JA_copyOfRangeByte_12 : decode prog_20_method_133_code 12 = .ok (.astore 4, 2) := by decide +kernel
theorem d_JA_copyOfRangeByte_14 : decode prog_20_method_133_code 14 = .ok (.aload_n 0, 1) := by decide +kernel
theorem d_JA_copyOfRangeByte_15 : decode prog_20_method_133_code 15 = .ok (.iload_n 1, 1) := by decide +kernel
theorem d_JA_copyOfRangeByte_16 : decode prog_20_method_133_code 16 = .ok (.aload 4, 2) := by decide +kernel
theorem d_JA_copyOfRangeByte_18 : decode prog_20_method_133_code 18 = .ok (.iconst 0, 1) := by decide +kernel
theorem d_JA_copyOfRangeByte_19 : decode prog_20_method_133_code 19 = .ok (.aload_n 0, 1) := by decide +kernel
theorem d_JA_copyOfRangeByte_20 : decode prog_20_method_133_code 20 = .ok (.arraylength, 1) := by decide +kernel
theorem d_JA_copyOfRangeByte_21 : decode prog_20_method_133_code 21 = .ok (.iload_n 1, 1) := by decide +kernel
theorem d_JA_copyOfRangeByte_22 : decode prog_20_method_133_code 22 = .ok (.isub, 1) := by decide +kernel
theorem d_JA_copyOfRangeByte_23 : decode prog_20_method_133_code 23 = .ok (.iload_n 3, 1) := by decide +kernel
theorem d_JA_copyOfRangeByte_24 : decode prog_20_method_133_code 24 = .ok (.invokestatic 304, 3) := by decide +kernel
theorem d_JA_copyOfRangeByte_27 : decode prog_20_method_133_code 27 = .ok (.invokestatic 150, 3) := by decide +kernel
theorem d_JA_copyOfRangeByte_30 : decode prog_20_method_133_code 30 = .ok (.aload 4, 2) := by decide +kernel
theorem d_JA_copyOfRangeByte_32 : decode prog_20_method_133_code 32 = .ok (.areturn, 1) := by decide +kernel
theorem d_JA_checkLength_0 : decode prog_20_method_131_code 0 = .ok (.iload_n 1, 1) := by decide +kernel
theorem d_JA_checkLength_1 : decode prog_20_method_131_code 1 = .ok (.iload_n 0, 1) := by decide +kernel
theorem d_JA_checkLength_2 : decode prog_20_method_131_code 2 = .ok (.if_icmp .ge 35, 3) := by decide +kernel
theorem d_JA_checkLength_5 : decode prog_20_method_131_code 5 = .ok (.new 43, 3) := by decide +kernel
theorem d_JA_checkLength_8 : decode prog_20_method_131_code 8 = .ok (.dup, 1) := by decide +kernel
theorem d_JA_checkLength_9 : decode prog_20_method_131_code 9 = .ok (.new 45, 3) := by decide +kernel
theorem d_JA_checkLength_12 : decode prog_20_method_131_code 12 = .ok (.dup, 1) := by decide +kernel
theorem d_JA_checkLength_13 : decode prog_20_method_131_code 13 = .ok (.invokespecial 47, 3) := by decide +kernel
theorem d_JA_checkLength_16 : decode prog_20_method_131_code 16 = .ok (.iload_n 0, 1) := by decide +kernel
theorem d_JA_checkLength_17 : decode prog_20_method_131_code 17 = .ok (.invokevirtual 54, 3) := by decide +kernel
theorem d_JA_checkLength_20 : decode prog_20_method_131_code 20 = .ok (.ldc_w 337, 3) := by decide +kernel
theorem d_JA_checkLength_23 : decode prog_20_method_131_code 23 = .ok (.invokevirtual 50, 3) := by decide +kernel
theorem d_JA_checkLength_26 : decode prog_20_method_131_code 26 = .ok (.iload_n 1, 1) := by decide +kernel
theorem d_JA_checkLength_27 : decode prog_20_method_131_code 27 = .ok (.invokevirtual 54, 3) := by decide +kernel
theorem d_JA_checkLength_30 : decode prog_20_method_131_code 30 = .ok (.invokevirtual 61, 3) := by decide +kernel
theorem d_JA_checkLength_33 : decode prog_20_method_131_code 33 = .ok (.invokespecial 65, 3) := by decide +kernel
theorem d_JA_checkLength_36 : decode prog_20_method_131_code 36 = .ok (.athrow, 1) := by decide +kernel
theorem d_JA_checkLength_37 : decode prog_20_method_131_code 37 = .ok (.return_, 1) := by decide +kernel
theorem d_JM_min_0 : decode prog_15_method_69_code 0 = .ok (.iload_n 0, 1) := by decide +kernel
theorem d_JM_min_1 : decode prog_15_method_69_code 1 = .ok (.iload_n 1, 1) := by decide +kernel
theorem d_JM_min_2 : decode prog_15_method_69_code 2 = .ok (.if_icmp .gt 7, 3) := by decide +kernel
theorem d_JM_min_5 : decode prog_15_method_69_code 5 = .ok (.iload_n 0, 1) := by decide +kernel
theorem d_JM_min_6 : decode prog_15_method_69_code 6 = .ok (.goto 4, 3) := by decide +kernel
theorem d_JM_min_9 : decode prog_15_method_69_code 9 = .ok (.iload_n 1, 1) := by decide +kernel
theorem d_JM_min_10 : decode prog_15_method_69_code 10 = .ok (.ireturn, 1) := by decide +kernel
theorem d_JA_copyOf_0 : decode prog_20_method_121_code 0 = .ok (.iload_n 1, 1) := by decide +kernel
theorem d_JA_copyOf_1 : decode prog_20_method_121_code 1 = .ok (.aload_n 0, 1) := by decide +kernel
theorem d_JA_copyOf_2 : decode prog_20_method_121_code 2 = .ok (.arraylength, 1) := by decide +kernel
theorem d_JA_copyOf_3 : decode prog_20_method_121_code 3 = .ok (.if_icmp .ne 11, 3) := by decide +kernel
theorem d_JA_copyOf_6 : decode prog_20_method_121_code 6 = .ok (.aload_n 0, 1) := by decide +kernel
theorem d_JA_copyOf_7 : decode prog_20_method_121_code 7 = .ok (.invokevirtual 310, 3) := by decide +kernel
theorem d_JA_copyOf_10 : decode prog_20_method_121_code 10 = .ok (.checkcast 311, 3) := by decide +kernel
theorem d_JA_copyOf_13 : decode prog_20_method_121_code 13 = .ok (.areturn, 1) := by decide +kernel
theorem d_JA_copyOf_14 : decode prog_20_method_121_code 14 = .ok (.iload_n 1, 1) := by decide +kernel
theorem d_JA_copyOf_15 : decode prog_20_method_121_code 15 = .ok (.newarray .byte, 2) := by decide +kernel
theorem d_JA_copyOf_17 : decode prog_20_method_121_code 17 = .ok (.astore_n 2, 1) := by decide +kernel
theorem d_JA_copyOf_18 : decode prog_20_method_121_code 18 = .ok (.aload_n 0, 1) := by decide +kernel
theorem d_JA_copyOf_19 : decode prog_20_method_121_code 19 = .ok (.iconst 0, 1) := by decide +kernel
theorem d_JA_copyOf_20 : decode prog_20_method_121_code 20 = .ok (.aload_n 2, 1) := by decide +kernel
theorem d_JA_copyOf_21 : decode prog_20_method_121_code 21 = .ok (.iconst 0, 1) := by decide +kernel
theorem d_JA_copyOf_22 : decode prog_20_method_121_code 22 = .ok (.aload_n 0, 1) := by decide +kernel
theorem d_JA_copyOf_23 : decode prog_20_method_121_code 23 = .ok (.arraylength, 1) := by decide +kernel
theorem d_JA_copyOf_24 : decode prog_20_method_121_code 24 = .ok (.iload_n 1, 1) := by decide +kernel
theorem d_JA_copyOf_25 : decode prog_20_method_121_code 25 = .ok (.invokestatic 304, 3) := by decide +kernel
theorem d_JA_copyOf_28 : decode prog_20_method_121_code 28 = .ok (.invokestatic 150, 3) := by decide +kernel
theorem d_JA_copyOf_31 : decode prog_20_method_121_code 31 = .ok (.aload_n 2, 1) := by decide +kernel
theorem d_JA_copyOf_32 : decode prog_20_method_121_code 32 = .ok (.areturn, 1) := by decide +kernel
theorem d_Field_isNamed_0 : decode prog_3_method_3_code 0 = .ok (.iload_n 3, 1) := by decide +kernel
theorem d_Field_isNamed_1 : decode prog_3_method_3_code 1 = .ok (.iload_n 2, 1) := by decide +kernel
theorem d_Field_isNamed_2 : decode prog_3_method_3_code 2 = .ok (.isub, 1) := by decide +kernel
theorem d_Field_isNamed_3 : decode prog_3_method_3_code 3 = .ok (.aload_n 0, 1) := by decide +kernel
theorem d_Field_isNamed_4 : decode prog_3_method_3_code 4 = .ok (.getfield 24, 3) := by decide +kernel
theorem d_Field_isNamed_7 : decode prog_3_method_3_code 7 = .ok (.arraylength, 1) := by decide +kernel
theorem d_Field_isNamed_8 : decode prog_3_method_3_code 8 = .ok (.if_icmp .eq 5, 3) := by decide +kernel
theorem d_Field_isNamed_11 : decode prog_3_method_3_code 11 = .ok (.iconst 0, 1) := by decide +kernel
theorem d_Field_isNamed_12 : decode prog_3_method_3_code 12 = .ok (.ireturn, 1) := by decide +kernel
theorem d_Field_isNamed_13 : decode prog_3_method_3_code 13 = .ok (.iconst 0, 1) := by decide +kernel
theorem d_Field_isNamed_14 : decode prog_3_method_3_code 14 = .ok (.istore 4, 2) := by decide +kernel
theorem d_Field_isNamed_16 : decode prog_3_method_3_code 16 = .ok (.iload 4, 2) := by decide +kernel
theorem d_Field_isNamed_18 : decode prog_3_method_3_code 18 = .ok (.aload_n 0, 1) := by decide +kernel
theorem d_Field_isNamed_19 : decode prog_3_method_3_code 19 = .ok (.getfield 24, 3) := by decide +kernel
theorem d_Field_isNamed_22 : decode prog_3_method_3_code 22 = .ok (.arraylength, 1) := by decide +kernel
theorem d_Field_isNamed_23 : decode prog_3_method_3_code 23 = .ok (.if_icmp .ge 29, 3) := by decide +kernel
theorem d_Field_isNamed_26 : decode prog_3_method_3_code 26 = .ok (.aload_n 1, 1) := by decide +kernel
theorem d_Field_isNamed_27 : decode prog_3_method_3_code 27 = .ok (.iload_n 2, 1) := by decide +kernel
theorem d_Field_isNamed_28 : decode prog_3_method_3_code 28 = .ok (.iload 4, 2) := by decide +kernel
theorem d_Field_isNamed_30 : decode prog_3_method_3_code 30 = .ok (.iadd, 1) := by decide +kernel
theorem d_Field_isNamed_31 : decode prog_3_method_3_code 31 = .ok (.invokevirtual 37, 3) := by decide +kernel
theorem d_Field_isNamed_34 : decode prog_3_method_3_code 34 = .ok (.aload_n 0, 1) := by decide +kernel
theorem d_Field_isNamed_35 : decode prog_3_method_3_code 35 = .ok (.getfield 24, 3) := by decide +kernel
theorem d_Field_isNamed_38 : decode prog_3_method_3_code 38 = .ok (.iload 4, 2) := by decide +kernel
theorem d_Field_isNamed_40 : decode prog_3_method_3_code 40 = .ok (.baload, 1) := by decide +kernel
theorem d_Field_isNamed_41 : decode prog_3_method_3_code 41 = .ok (.if_icmp .eq 5, 3) := by decide +kernel
theorem d_Field_isNamed_44 : decode prog_3_method_3_code 44 = .ok (.iconst 0, 1) := by decide +kernel
theorem d_Field_isNamed_45 : decode prog_3_method_3_code 45 = .ok (.ireturn, 1) := by decide +kernel
theorem d_Field_isNamed_46 : decode prog_3_method_3_code 46 = .ok (.iinc 4 1, 3) := by decide +kernel
theorem d_Field_isNamed_49 : decode prog_3_method_3_code 49 = .ok (.goto (-33), 3) := by decide +kernel
theorem d_Field_isNamed_52 : decode prog_3_method_3_code 52 = .ok (.iconst 1, 1) := by decide +kernel
theorem d_Field_isNamed_53 : decode prog_3_method_3_code 53 = .ok (.ireturn, 1) := by decide +kernel
theorem d_Field_init_0 : decode prog_3_method_1_code 0 = .ok (.aload_n 0, 1) := by decide +kernel
theorem d_Field_init_1 : decode prog_3_method_1_code 1 = .ok (.invokespecial 3, 3) := by decide +kernel
theorem d_Field_init_4 : decode prog_3_method_1_code 4 = .ok (.aload_n 0, 1) := by decide +kernel
theorem d_Field_init_5 : decode prog_3_method_1_code 5 = .ok (.iload_n 1, 1) := by decide +kernel
theorem d_Field_init_6 : decode prog_3_method_1_code 6 = .ok (.putfield 9, 3) := by decide +kernel
theorem d_Field_init_9 : decode prog_3_method_1_code 9 = .ok (.aload_n 0, 1) := by decide +kernel
theorem d_Field_init_10 : decode prog_3_method_1_code 10 = .ok (.iload_n 2, 1) := by decide +kernel
theorem d_Field_init_11 : decode prog_3_method_1_code 11 = .ok (.putfield 15, 3) := by decide +kernel
theorem d_Field_init_14 : decode prog_3_method_1_code 14 = .ok (.aload_n 0, 1) := by decide +kernel
theorem d_Field_init_15 : decode prog_3_method_1_code 15 = .ok (.iload_n 3, 1) := by decide +kernel
theorem d_Field_init_16 : decode prog_3_method_1_code 16 = .ok (.putfield 18, 3) := by decide +kernel
theorem d_Field_init_19 : decode prog_3_method_1_code 19 = .ok (.aload_n 0, 1) := by decide +kernel
theorem d_Field_init_20 : decode prog_3_method_1_code 20 = .ok (.iload 4, 2) := by decide +kernel
theorem d_Field_init_22 : decode prog_3_method_1_code 22 = .ok (.putfield 21, 3) := by decide +kernel
theorem d_Field_init_25 : decode prog_3_method_1_code 25 = .ok (.aload_n 0, 1) := by decide +kernel
theorem d_Field_init_26 : decode prog_3_method_1_code 26 = .ok (.aload 5, 2) := by decide +kernel
theorem d_Field_init_28 : decode prog_3_method_1_code 28 = .ok (.putfield 24, 3) := by decide +kernel
theorem d_Field_init_31 : decode prog_3_method_1_code 31 = .ok (.aload_n 0, 1) := by decide +kernel
theorem d_Field_init_32 : decode prog_3_method_1_code 32 = .ok (.iconst (-1), 1) := by decide +kernel
theorem d_Field_init_33 : decode prog_3_method_1_code 33 = .ok (.putfield 28, 3) := by decide +kernel
theorem d_Field_init_36 : decode prog_3_method_1_code 36 = .ok (.return_, 1) := by decide +kernel
theorem d_Field_property_0 : decode prog_3_method_2_code 0 = .ok (.iload_n 1, 1) := by decide +kernel
theorem d_Field_property_1 : decode prog_3_method_2_code 1 = .ok (.tableswitch 79 0 6 #[43, 48, 53, 58, 63, 69, 74], 43) := by decide +kernel
theorem d_Field_property_44 : decode prog_3_method_2_code 44 = .ok (.aload_n 0, 1) := by decide +kernel
theorem d_Field_property_45 : decode prog_3_method_2_code 45 = .ok (.getfield 15, 3) := by decide +kernel
theorem d_Field_property_48 : decode prog_3_method_2_code 48 = .ok (.ireturn, 1) := by decide +kernel
theorem d_Field_property_49 : decode prog_3_method_2_code 49 = .ok (.aload_n 0, 1) := by decide +kernel
theorem d_Field_property_50 : decode prog_3_method_2_code 50 = .ok (.getfield 18, 3) := by decide +kernel
theorem d_Field_property_53 : decode prog_3_method_2_code 53 = .ok (.ireturn, 1) := by decide +kernel
theorem d_Field_property_54 : decode prog_3_method_2_code 54 = .ok (.aload_n 0, 1) := by decide +kernel
theorem d_Field_property_55 : decode prog_3_method_2_code 55 = .ok (.getfield 21, 3) := by decide +kernel
theorem d_Field_property_58 : decode prog_3_method_2_code 58 = .ok (.ireturn, 1) := by decide +kernel
theorem d_Field_property_59 : decode prog_3_method_2_code 59 = .ok (.aload_n 0, 1) := by decide +kernel
theorem d_Field_property_60 : decode prog_3_method_2_code 60 = .ok (.getfield 28, 3) := by decide +kernel
theorem d_Field_property_63 : decode prog_3_method_2_code 63 = .ok (.ireturn, 1) := by decide +kernel
theorem d_Field_property_64 : decode prog_3_method_2_code 64 = .ok (.aload_n 0, 1) := by decide +kernel
theorem d_Field_property_65 : decode prog_3_method_2_code 65 = .ok (.getfield 24, 3) := by decide +kernel
theorem d_Field_property_68 : decode prog_3_method_2_code 68 = .ok (.arraylength, 1) := by decide +kernel
theorem d_Field_property_69 : decode prog_3_method_2_code 69 = .ok (.ireturn, 1) := by decide +kernel
theorem d_Field_property_70 : decode prog_3_method_2_code 70 = .ok (.aload_n 0, 1) := by decide +kernel
theorem d_Field_property_71 : decode prog_3_method_2_code 71 = .ok (.getfield 31, 3) := by decide +kernel
theorem d_Field_property_74 : decode prog_3_method_2_code 74 = .ok (.ireturn, 1) := by decide +kernel
theorem d_Field_property_75 : decode prog_3_method_2_code 75 = .ok (.aload_n 0, 1) := by decide +kernel
theorem d_Field_property_76 : decode prog_3_method_2_code 76 = .ok (.getfield 34, 3) := by decide +kernel
theorem d_Field_property_79 : decode prog_3_method_2_code 79 = .ok (.ireturn, 1) := by decide +kernel
theorem d_Field_property_80 : decode prog_3_method_2_code 80 = .ok (.iconst (-1), 1) := by decide +kernel
theorem d_Field_property_81 : decode prog_3_method_2_code 81 = .ok (.ireturn, 1) := by decide +kernel
theorem d_Field_hasInRange_0 : decode prog_3_method_4_code 0 = .ok (.aload_n 0, 1) := by decide +kernel
theorem d_Field_hasInRange_1 : decode prog_3_method_4_code 1 = .ok (.getfield 18, 3) := by decide +kernel
theorem d_Field_hasInRange_4 : decode prog_3_method_4_code 4 = .ok (.iconst 1, 1) := by decide +kernel
theorem d_Field_hasInRange_5 : decode prog_3_method_4_code 5 = .ok (.if_icmp .ne 11, 3) := by decide +kernel
theorem d_Field_hasInRange_8 : decode prog_3_method_4_code 8 = .ok (.lload_n 1, 1) := by decide +kernel
theorem d_Field_hasInRange_9 : decode prog_3_method_4_code 9 = .ok (.lload_n 1, 1) := by decide +kernel
theorem d_Field_hasInRange_10 : decode prog_3_method_4_code 10 = .ok (.l2i, 1) := by decide +kernel
theorem d_Field_hasInRange_11 : decode prog_3_method_4_code 11 = .ok (.i2l, 1) := by decide +kernel
theorem d_Field_hasInRange_12 : decode prog_3_method_4_code 12 = .ok (.lcmp, 1) := by decide +kernel
theorem d_Field_hasInRange_13 : decode prog_3_method_4_code 13 = .ok (.ifCond .ne 7, 3) := by decide +kernel
theorem d_Field_hasInRange_16 : decode prog_3_method_4_code 16 = .ok (.iconst 1, 1) := by decide +kernel
theorem d_Field_hasInRange_17 : decode prog_3_method_4_code 17 = .ok (.goto 4, 3) := by decide +kernel
theorem d_Field_hasInRange_20 : decode prog_3_method_4_code 20 = .ok (.iconst 0, 1) := by decide +kernel
theorem d_Field_hasInRange_21 : decode prog_3_method_4_code 21 = .ok (.ireturn, 1) := by decide +kernel
theorem d_Field_kept_0 : decode prog_3_method_5_code 0 = .ok (.aload_n 0, 1) := by decide +kernel
theorem d_Field_kept_1 : decode prog_3_method_5_code 1 = .ok (.getfield 18, 3) := by decide +kernel
theorem d_Field_kept_4 : decode prog_3_method_5_code 4 = .ok (.ifCond .ne 15, 3) := by decide +kernel
theorem d_Field_kept_7 : decode prog_3_method_5_code 7 = .ok (.lload_n 1, 1) := by decide +kernel
theorem d_Field_kept_8 : decode prog_3_method_5_code 8 = .ok (.lconst 0, 1) := by decide +kernel
theorem d_Field_kept_9 : decode prog_3_method_5_code 9 = .ok (.lcmp, 1) := by decide +kernel
theorem d_Field_kept_10 : decode prog_3_method_5_code 10 = .ok (.ifCond .eq 7, 3) := by decide +kernel
theorem d_Field_kept_13 : decode prog_3_method_5_code 13 = .ok (.lconst 1, 1) := by decide +kernel
theorem d_Field_kept_14 : decode prog_3_method_5_code 14 = .ok (.goto 4, 3) := by decide +kernel
theorem d_Field_kept_17 : decode prog_3_method_5_code 17 = .ok (.lconst 0, 1) := by decide +kernel
theorem d_Field_kept_18 : decode prog_3_method_5_code 18 = .ok (.lreturn, 1) := by decide +kernel
theorem d_Field_kept_19 : decode prog_3_method_5_code 19 = .ok (.aload_n 0, 1) := by decide +kernel
theorem d_Field_kept_20 : decode prog_3_method_5_code 20 = .ok (.getfield 18, 3) := by decide +kernel
theorem d_Field_kept_23 : decode prog_3_method_5_code 23 = .ok (.iconst 4, 1) := by decide +kernel
theorem d_Field_kept_24 : decode prog_3_method_5_code 24 = .ok (.if_icmp .ne 7, 3) := by decide +kernel
theorem d_Field_kept_27 : decode prog_3_method_5_code 27 = .ok (.lconst 0, 1) := by decide +kernel
theorem d_Field_kept_28 : decode prog_3_method_5_code 28 = .ok (.goto 4, 3) := by decide +kernel
theorem d_Field_kept_31 : decode prog_3_method_5_code 31 = .ok (.lload_n 1, 1) := by decide +kernel
theorem d_Field_kept_32 : decode prog_3_method_5_code 32 = .ok (.lreturn, 1) := by decide +kernel
theorem d_RecordReader_init_0 : decode prog_6_method_1_code 0 = .ok (.aload_n 0, 1) := by decide +kernel
theorem d_RecordReader_init_1 : decode prog_6_method_1_code 1 = .ok (.invokespecial 3, 3) := by decide +kernel
theorem d_RecordReader_init_4 : decode prog_6_method_1_code 4 = .ok (.aload_n 0, 1) := by decide +kernel
theorem d_RecordReader_init_5 : decode prog_6_method_1_code 5 = .ok (.sipush 255, 3) := by decide +kernel
theorem d_RecordReader_init_8 : decode prog_6_method_1_code 8 = .ok (.newarray .byte, 2) := by decide +kernel
theorem d_RecordReader_init_10 : decode prog_6_method_1_code 10 = .ok (.putfield 9, 3) := by decide +kernel
theorem d_RecordReader_init_13 : decode prog_6_method_1_code 13 = .ok (.aload_n 0, 1) := by decide +kernel
theorem d_RecordReader_init_14 : decode prog_6_method_1_code 14 = .ok (.aload_n 1, 1) := by decide +kernel
theorem d_RecordReader_init_15 : decode prog_6_method_1_code 15 = .ok (.putfield 15, 3) := by decide +kernel
theorem d_RecordReader_init_18 : decode prog_6_method_1_code 18 = .ok (.aload_n 0, 1) := by decide +kernel
theorem d_RecordReader_init_19 : decode prog_6_method_1_code 19 = .ok (.aload_n 2, 1) := by decide +kernel
theorem d_RecordReader_init_20 : decode prog_6_method_1_code 20 = .ok (.putfield 19, 3) := by decide +kernel
theorem d_RecordReader_init_23 : decode prog_6_method_1_code 23 = .ok (.aload_n 0, 1) := by decide +kernel
theorem d_RecordReader_init_24 : decode prog_6_method_1_code 24 = .ok (.aload_n 3, 1) := by decide +kernel
theorem d_RecordReader_init_25 : decode prog_6_method_1_code 25 = .ok (.putfield 23, 3) := by decide +kernel
theorem d_RecordReader_init_28 : decode prog_6_method_1_code 28 = .ok (.return_, 1) := by decide +kernel
theorem d_RecordReader_readMembers_0 : decode prog_6_method_2_code 0 = .ok (.iload_n 3, 1) := by decide +kernel
theorem d_RecordReader_readMembers_1 : decode prog_6_method_2_code 1 = .ok (.bipush 16, 2) := by decide +kernel
theorem d_RecordReader_readMembers_3 : decode prog_6_method_2_code 3 = .ok (.if_icmp .le 11, 3) := by decide +kernel
theorem d_RecordReader_readMembers_6 : decode prog_6_method_2_code 6 = .ok (.aload_n 0, 1) := by decide +kernel
theorem d_RecordReader_readMembers_7 : decode prog_6_method_2_code 7 = .ok (.getfield 15, 3) := by decide +kernel
theorem d_RecordReader_readMembers_10 : decode prog_6_method_2_code 10 = .ok (.invokevirtual 27, 3) := by decide +kernel
theorem d_RecordReader_readMembers_13 : decode prog_6_method_2_code 13 = .ok (.ireturn, 1) := by decide +kernel
theorem d_RecordReader_readMembers_14 : decode prog_6_method_2_code 14 = .ok (.aload_n 0, 1) := by decide +kernel
theorem d_RecordReader_readMembers_15 : decode prog_6_method_2_code 15 = .ok (.getfield 15, 3) := by decide +kernel
theorem d_RecordReader_readMembers_18 : decode prog_6_method_2_code 18 = .ok (.bipush 123, 2) := by decide +kernel
theorem d_RecordReader_readMembers_20 : decode prog_6_method_2_code 20 = .ok (.invokevirtual 33, 3) := by decide +kernel
theorem d_RecordReader_readMembers_23 : decode prog_6_method_2_code 23 = .ok (.ifCond .ne 5, 3) := by decide +kernel
theorem d_RecordReader_readMembers_26 : decode prog_6_method_2_code 26 = .ok (.iconst 0, 1) := by decide +kernel
theorem d_RecordReader_readMembers_27 : decode prog_6_method_2_code 27 = .ok (.ireturn, 1) := by decide +kernel
theorem d_RecordReader_readMembers_28 : decode prog_6_method_2_code 28 = .ok (.iload_n 1, 1) := by decide +kernel
theorem d_RecordReader_readMembers_29 : decode prog_6_method_2_code 29 = .ok (.iconst 1, 1) := by decide +kernel
theorem d_RecordReader_readMembers_30 : decode prog_6_method_2_code 30 = .ok (.iadd, 1) := by decide +kernel
theorem d_RecordReader_readMembers_31 : decode prog_6_method_2_code 31 = .ok (.istore 4, 2) := by decide +kernel
theorem d_RecordReader_readMembers_33 : decode prog_6_method_2_code 33 = .ok (.aload_n 0, 1) := by decide +kernel
theorem d_RecordReader_readMembers_34 : decode prog_6_method_2_code 34 = .ok (.getfield 15, 3) := by decide +kernel
theorem d_RecordReader_readMembers_37 : decode prog_6_method_2_code 37 = .ok (.invokevirtual 37, 3) := by decide +kernel
theorem d_RecordReader_readMembers_40 : decode prog_6_method_2_code 40 = .ok (.bipush 125, 2) := by decide +kernel
theorem d_RecordReader_readMembers_42 : decode prog_6_method_2_code 42 = .ok (.if_icmp .eq 7, 3) := by decide +kernel
theorem d_RecordReader_readMembers_45 : decode prog_6_method_2_code 45 = .ok (.iconst 1, 1) := by decide +kernel
theorem d_RecordReader_readMembers_46 : decode prog_6_method_2_code 46 = .ok (.goto 4, 3) := by decide +kernel
theorem d_RecordReader_readMembers_49 : decode prog_6_method_2_code 49 = .ok (.iconst 0, 1) := by decide +kernel
theorem d_RecordReader_readMembers_50 : decode prog_6_method_2_code 50 = .ok (.istore 5, 2) := by decide +kernel
theorem d_RecordReader_readMembers_52 : decode prog_6_method_2_code 52 = .ok (.iconst 0, 1) := by decide +kernel
theorem d_RecordReader_readMembers_53 : decode prog_6_method_2_code 53 = .ok (.istore 6, 2) := by decide +kernel
theorem d_RecordReader_readMembers_55 : decode prog_6_method_2_code 55 = .ok (.iload 6, 2) := by decide +kernel
theorem d_RecordReader_readMembers_57 : decode prog_6_method_2_code 57 = .ok (.sipush 128, 3) := by decide +kernel
theorem d_RecordReader_readMembers_60 : decode prog_6_method_2_code 60 = .ok (.if_icmp .gt 93, 3) := by decide +kernel
theorem d_RecordReader_readMembers_63 : decode prog_6_method_2_code 63 = .ok (.iload 5, 2) := by decide +kernel
theorem d_RecordReader_readMembers_65 : decode prog_6_method_2_code 65 = .ok (.ifCond .eq 88, 3) := by decide +kernel
theorem d_RecordReader_readMembers_68 : decode prog_6_method_2_code 68 = .ok (.aload_n 0, 1) := by decide +kernel
theorem d_RecordReader_readMembers_69 : decode prog_6_method_2_code 69 = .ok (.iload_n 1, 1) := by decide +kernel
theorem d_RecordReader_readMembers_70 : decode prog_6_method_2_code 70 = .ok (.iload 4, 2) := by decide +kernel
theorem d_RecordReader_readMembers_72 : decode prog_6_method_2_code 72 = .ok (.invokevirtual 41, 3) := by decide +kernel
theorem d_RecordReader_readMembers_75 : decode prog_6_method_2_code 75 = .ok (.astore 7, 2) := by decide +kernel
theorem d_RecordReader_readMembers_77 : decode prog_6_method_2_code 77 = .ok (.aload 7, 2) := by decide +kernel
theorem d_RecordReader_readMembers_79 : decode prog_6_method_2_code 79 = .ok (.ifnull 26, 3) := by decide +kernel
theorem d_RecordReader_readMembers_82 : decode prog_6_method_2_code 82 = .ok (.aload_n 0, 1) := by decide +kernel
theorem d_RecordReader_readMembers_83 : decode prog_6_method_2_code 83 = .ok (.getfield 15, 3) := by decide +kernel
theorem d_RecordReader_readMembers_86 : decode prog_6_method_2_code 86 = .ok (.bipush 58, 2) := by decide +kernel
theorem d_RecordReader_readMembers_88 : decode prog_6_method_2_code 88 = .ok (.invokevirtual 33, 3) := by decide +kernel
theorem d_RecordReader_readMembers_91 : decode prog_6_method_2_code 91 = .ok (.ifCond .eq 14, 3) := by decide +kernel
theorem d_RecordReader_readMembers_94 : decode prog_6_method_2_code 94 = .ok (.aload_n 0, 1) := by decide +kernel
theorem d_RecordReader_readMembers_95 : decode prog_6_method_2_code 95 = .ok (.aload 7, 2) := by decide +kernel
theorem d_RecordReader_readMembers_97 : decode prog_6_method_2_code 97 = .ok (.iload_n 2, 1) := by decide +kernel
theorem d_RecordReader_readMembers_98 : decode prog_6_method_2_code 98 = .ok (.iload_n 3, 1) := by decide +kernel
theorem d_RecordReader_readMembers_99 : decode prog_6_method_2_code 99 = .ok (.invokevirtual 45, 3) := by decide +kernel
theorem d_RecordReader_readMembers_102 : decode prog_6_method_2_code 102 = .ok (.ifCond .ne 5, 3) := by decide +kernel
theorem d_RecordReader_readMembers_105 : decode prog_6_method_2_code 105 = .ok (.iconst 0, 1) := by decide +kernel
theorem d_RecordReader_readMembers_106 : decode prog_6_method_2_code 106 = .ok (.ireturn, 1) := by decide +kernel
theorem d_RecordReader_readMembers_107 : decode prog_6_method_2_code 107 = .ok (.aload 7, 2) := by decide +kernel
theorem d_RecordReader_readMembers_109 : decode prog_6_method_2_code 109 = .ok (.getfield 49, 3) := by decide +kernel
theorem d_RecordReader_readMembers_112 : decode prog_6_method_2_code 112 = .ok (.iconst 1, 1) := by decide +kernel
theorem d_RecordReader_readMembers_113 : decode prog_6_method_2_code 113 = .ok (.iadd, 1) := by decide +kernel
theorem d_RecordReader_readMembers_114 : decode prog_6_method_2_code 114 = .ok (.istore 4, 2) := by decide +kernel
theorem d_RecordReader_readMembers_116 : decode prog_6_method_2_code 116 = .ok (.aload_n 0, 1) := by decide +kernel
theorem d_RecordReader_readMembers_117 : decode prog_6_method_2_code 117 = .ok (.getfield 15, 3) := by decide +kernel
theorem d_RecordReader_readMembers_120 : decode prog_6_method_2_code 120 = .ok (.invokevirtual 37, 3) := by decide +kernel
theorem d_RecordReader_readMembers_123 : decode prog_6_method_2_code 123 = .ok (.bipush 44, 2) := by decide +kernel
theorem d_RecordReader_readMembers_125 : decode prog_6_method_2_code 125 = .ok (.if_icmp .ne 19, 3) := by decide +kernel
theorem d_RecordReader_readMembers_128 : decode prog_6_method_2_code 128 = .ok (.aload_n 0, 1) := by decide +kernel
theorem d_RecordReader_readMembers_129 : decode prog_6_method_2_code 129 = .ok (.getfield 15, 3) := by decide +kernel
theorem d_RecordReader_readMembers_132 : decode prog_6_method_2_code 132 = .ok (.bipush 44, 2) := by decide +kernel
theorem d_RecordReader_readMembers_134 : decode prog_6_method_2_code 134 = .ok (.invokevirtual 33, 3) := by decide +kernel
theorem d_RecordReader_readMembers_137 : decode prog_6_method_2_code 137 = .ok (.ifCond .eq 7, 3) := by decide +kernel
theorem d_RecordReader_readMembers_140 : decode prog_6_method_2_code 140 = .ok (.iconst 1, 1) := by decide +kernel
theorem d_RecordReader_readMembers_141 : decode prog_6_method_2_code 141 = .ok (.goto 4, 3) := by decide +kernel
theorem d_RecordReader_readMembers_144 : decode prog_6_method_2_code 144 = .ok (.iconst 0, 1) := by decide +kernel
theorem d_RecordReader_readMembers_145 : decode prog_6_method_2_code 145 = .ok (.istore 5, 2) := by decide +kernel
theorem d_RecordReader_readMembers_147 : decode prog_6_method_2_code 147 = .ok (.iinc 6 1, 3) := by decide +kernel
theorem d_RecordReader_readMembers_150 : decode prog_6_method_2_code 150 = .ok (.goto (-95), 3) := by decide +kernel
theorem d_RecordReader_readMembers_153 : decode prog_6_method_2_code 153 = .ok (.aload_n 0, 1) := by decide +kernel
theorem d_RecordReader_readMembers_154 : decode prog_6_method_2_code 154 = .ok (.getfield 15, 3) := by decide +kernel
theorem d_RecordReader_readMembers_157 : decode prog_6_method_2_code 157 = .ok (.invokevirtual 37, 3) := by decide +kernel
theorem d_RecordReader_readMembers_160 : decode prog_6_method_2_code 160 = .ok (.bipush 125, 2) := by decide +kernel
theorem d_RecordReader_readMembers_162 : decode prog_6_method_2_code 162 = .ok (.if_icmp .ne 24, 3) := by decide +kernel
theorem d_RecordReader_readMembers_165 : decode prog_6_method_2_code 165 = .ok (.aload_n 0, 1) := by decide +kernel
theorem d_RecordReader_readMembers_166 : decode prog_6_method_2_code 166 = .ok (.getfield 19, 3) := by decide +kernel
theorem d_RecordReader_readMembers_169 : decode prog_6_method_2_code 169 = .ok (.iload 4, 2) := by decide +kernel
theorem d_RecordReader_readMembers_171 : decode prog_6_method_2_code 171 = .ok (.iload_n 1, 1) := by decide +kernel
theorem d_RecordReader_readMembers_172 : decode prog_6_method_2_code 172 = .ok (.invokevirtual 55, 3) := by decide +kernel
theorem d_RecordReader_readMembers_175 : decode prog_6_method_2_code 175 = .ok (.ifCond .eq 11, 3) := by decide +kernel
theorem d_RecordReader_readMembers_178 : decode prog_6_method_2_code 178 = .ok (.aload_n 0, 1) := by decide +kernel
theorem d_RecordReader_readMembers_179 : decode prog_6_method_2_code 179 = .ok (.getfield 15, 3) := by decide +kernel
theorem d_RecordReader_readMembers_182 : decode prog_6_method_2_code 182 = .ok (.invokevirtual 27, 3) := by decide +kernel
theorem d_RecordReader_readMembers_185 : decode prog_6_method_2_code 185 = .ok (.ireturn, 1) := by decide +kernel
theorem d_RecordReader_readMembers_186 : decode prog_6_method_2_code 186 = .ok (.aload_n 0, 1) := by decide +kernel
theorem d_RecordReader_readMembers_187 : decode prog_6_method_2_code 187 = .ok (.getfield 15, 3) := by decide +kernel
theorem d_RecordReader_readMembers_190 : decode prog_6_method_2_code 190 = .ok (.bipush 125, 2) := by decide +kernel
theorem d_RecordReader_readMembers_192 : decode prog_6_method_2_code 192 = .ok (.invokevirtual 33, 3) := by decide +kernel
theorem d_RecordReader_readMembers_195 : decode prog_6_method_2_code 195 = .ok (.ireturn, 1) := by decide +kernel
theorem d_RecordReader_readName_0 : decode prog_6_method_3_code 0 = .ok (.aload_n 0, 1) := by decide +kernel
theorem d_RecordReader_readName_1 : decode prog_6_method_3_code 1 = .ok (.getfield 15, 3) := by decide +kernel
theorem d_RecordReader_readName_4 : decode prog_6_method_3_code 4 = .ok (.invokevirtual 61, 3) := by decide +kernel
theorem d_RecordReader_readName_7 : decode prog_6_method_3_code 7 = .ok (.ifCond .ne 5, 3) := by decide +kernel
theorem d_RecordReader_readName_10 : decode prog_6_method_3_code 10 = .ok (.aconst_null, 1) := by decide +kernel
theorem d_RecordReader_readName_11 : decode prog_6_method_3_code 11 = .ok (.areturn, 1) := by decide +kernel
theorem d_RecordReader_readName_12 : decode prog_6_method_3_code 12 = .ok (.aload_n 0, 1) := by decide +kernel
theorem d_RecordReader_readName_13 : decode prog_6_method_3_code 13 = .ok (.getfield 19, 3) := by decide +kernel
theorem d_RecordReader_readName_16 : decode prog_6_method_3_code 16 = .ok (.aload_n 0, 1) := by decide +kernel
theorem d_RecordReader_readName_17 : decode prog_6_method_3_code 17 = .ok (.getfield 19, 3) := by decide +kernel
theorem d_RecordReader_readName_20 : decode prog_6_method_3_code 20 = .ok (.iload_n 2, 1) := by decide +kernel
theorem d_RecordReader_readName_21 : decode prog_6_method_3_code 21 = .ok (.iload_n 1, 1) := by decide +kernel
theorem d_RecordReader_readName_22 : decode prog_6_method_3_code 22 = .ok (.aload_n 0, 1) := by decide +kernel
theorem d_RecordReader_readName_23 : decode prog_6_method_3_code 23 = .ok (.getfield 15, 3) := by decide +kernel
theorem d_RecordReader_readName_26 : decode prog_6_method_3_code 26 = .ok (.invokevirtual 64, 3) := by decide +kernel
theorem d_RecordReader_readName_29 : decode prog_6_method_3_code 29 = .ok (.invokevirtual 68, 3) := by decide +kernel
theorem d_RecordReader_readName_32 : decode prog_6_method_3_code 32 = .ok (.astore_n 3, 1) := by decide +kernel
theorem d_RecordReader_readName_33 : decode prog_6_method_3_code 33 = .ok (.aload_n 3, 1) := by decide +kernel
theorem d_RecordReader_readName_34 : decode prog_6_method_3_code 34 = .ok (.ifnonnull 11, 3) := by decide +kernel
theorem d_RecordReader_readName_37 : decode prog_6_method_3_code 37 = .ok (.aload_n 0, 1) := by decide +kernel
theorem d_RecordReader_readName_38 : decode prog_6_method_3_code 38 = .ok (.getfield 15, 3) := by decide +kernel
theorem d_RecordReader_readName_41 : decode prog_6_method_3_code 41 = .ok (.invokevirtual 72, 3) := by decide +kernel
theorem d_RecordReader_readName_44 : decode prog_6_method_3_code 44 = .ok (.pop, 1) := by decide +kernel
theorem d_RecordReader_readName_45 : decode prog_6_method_3_code 45 = .ok (.aload_n 3, 1) := by decide +kernel
theorem d_RecordReader_readName_46 : decode prog_6_method_3_code 46 = .ok (.areturn, 1) := by decide +kernel
theorem d_RecordReader_readField_0 : decode prog_6_method_4_code 0 = .ok (.aload_n 1, 1) := by decide +kernel
theorem d_RecordReader_readField_1 : decode prog_6_method_4_code 1 = .ok (.getfield 75, 3) := by decide +kernel
theorem d_RecordReader_readField_4 : decode prog_6_method_4_code 4 = .ok (.iconst 2, 1) := by decide +kernel
theorem d_RecordReader_readField_5 : decode prog_6_method_4_code 5 = .ok (.if_icmp .eq 11, 3) := by decide +kernel
theorem d_RecordReader_readField_8 : decode prog_6_method_4_code 8 = .ok (.aload_n 0, 1) := by decide +kernel
theorem d_RecordReader_readField_9 : decode prog_6_method_4_code 9 = .ok (.aload_n 1, 1) := by decide +kernel
theorem d_RecordReader_readField_10 : decode prog_6_method_4_code 10 = .ok (.iload_n 2, 1) := by decide +kernel
theorem d_RecordReader_readField_11 : decode prog_6_method_4_code 11 = .ok (.iload_n 3, 1) := by decide +kernel
theorem d_RecordReader_readField_12 : decode prog_6_method_4_code 12 = .ok (.invokevirtual 78, 3) := by decide +kernel
theorem d_RecordReader_readField_15 : decode prog_6_method_4_code 15 = .ok (.ireturn, 1) := by decide +kernel
theorem d_RecordReader_readField_16 : decode prog_6_method_4_code 16 = .ok (.aload_n 0, 1) := by decide +kernel
theorem d_RecordReader_readField_17 : decode prog_6_method_4_code 17 = .ok (.getfield 15, 3) := by decide +kernel
theorem d_RecordReader_readField_20 : decode prog_6_method_4_code 20 = .ok (.bipush 91, 2) := by decide +kernel
theorem d_RecordReader_readField_22 : decode prog_6_method_4_code 22 = .ok (.invokevirtual 33, 3) := by decide +kernel
theorem d_RecordReader_readField_25 : decode prog_6_method_4_code 25 = .ok (.ifCond .ne 5, 3) := by decide +kernel
theorem d_RecordReader_readField_28 : decode prog_6_method_4_code 28 = .ok (.iconst 0, 1) := by decide +kernel
theorem d_RecordReader_readField_29 : decode prog_6_method_4_code 29 = .ok (.ireturn, 1) := by decide +kernel
theorem d_RecordReader_readField_30 : decode prog_6_method_4_code 30 = .ok (.aload_n 0, 1) := by decide +kernel
theorem d_RecordReader_readField_31 : decode prog_6_method_4_code 31 = .ok (.getfield 15, 3) := by decide +kernel
theorem d_RecordReader_readField_34 : decode prog_6_method_4_code 34 = .ok (.invokevirtual 37, 3) := by decide +kernel
theorem d_RecordReader_readField_37 : decode prog_6_method_4_code 37 = .ok (.bipush 93, 2) := by decide +kernel
theorem d_RecordReader_readField_39 : decode prog_6_method_4_code 39 = .ok (.if_icmp .eq 7, 3) := by decide +kernel
theorem d_RecordReader_readField_42 : decode prog_6_method_4_code 42 = .ok (.iconst 1, 1) := by decide +kernel
theorem d_RecordReader_readField_43 : decode prog_6_method_4_code 43 = .ok (.goto 4, 3) := by decide +kernel
theorem d_RecordReader_readField_46 : decode prog_6_method_4_code 46 = .ok (.iconst 0, 1) := by decide +kernel
theorem d_RecordReader_readField_47 : decode prog_6_method_4_code 47 = .ok (.istore 4, 2) := by decide +kernel
theorem d_RecordReader_readField_49 : decode prog_6_method_4_code 49 = .ok (.iconst 0, 1) := by decide +kernel
theorem d_RecordReader_readField_50 : decode prog_6_method_4_code 50 = .ok (.istore 5, 2) := by decide +kernel
theorem d_RecordReader_readField_52 : decode prog_6_method_4_code 52 = .ok (.iload 5, 2) := by decide +kernel
theorem d_RecordReader_readField_54 : decode prog_6_method_4_code 54 = .ok (.sipush 4000, 3) := by decide +kernel
theorem d_RecordReader_readField_57 : decode prog_6_method_4_code 57 = .ok (.if_icmp .gt 57, 3) := by decide +kernel
theorem d_RecordReader_readField_60 : decode prog_6_method_4_code 60 = .ok (.iload 4, 2) := by decide +kernel
theorem d_RecordReader_readField_62 : decode prog_6_method_4_code 62 = .ok (.ifCond .eq 52, 3) := by decide +kernel
theorem d_RecordReader_readField_65 : decode prog_6_method_4_code 65 = .ok (.aload_n 0, 1) := by decide +kernel
theorem d_RecordReader_readField_66 : decode prog_6_method_4_code 66 = .ok (.aload_n 1, 1) := by decide +kernel
theorem d_RecordReader_readField_67 : decode prog_6_method_4_code 67 = .ok (.iload_n 2, 1) := by decide +kernel
theorem d_RecordReader_readField_68 : decode prog_6_method_4_code 68 = .ok (.iload_n 3, 1) := by decide +kernel
theorem d_RecordReader_readField_69 : decode prog_6_method_4_code 69 = .ok (.invokevirtual 78, 3) := by decide +kernel
theorem d_RecordReader_readField_72 : decode prog_6_method_4_code 72 = .ok (.ifCond .ne 5, 3) := by decide +kernel
theorem d_RecordReader_readField_75 : decode prog_6_method_4_code 75 = .ok (.iconst 0, 1) := by decide +kernel
theorem d_RecordReader_readField_76 : decode prog_6_method_4_code 76 = .ok (.ireturn, 1) := by decide +kernel
theorem d_RecordReader_readField_77 : decode prog_6_method_4_code 77 = .ok (.aload_n 0, 1) := by decide +kernel
theorem d_RecordReader_readField_78 : decode prog_6_method_4_code 78 = .ok (.getfield 15, 3) := by decide +kernel
theorem d_RecordReader_readField_81 : decode prog_6_method_4_code 81 = .ok (.invokevirtual 37, 3) := by decide +kernel
theorem d_RecordReader_readField_84 : decode prog_6_method_4_code 84 = .ok (.bipush 44, 2) := by decide +kernel
theorem d_RecordReader_readField_86 : decode prog_6_method_4_code 86 = .ok (.if_icmp .ne 19, 3) := by decide +kernel
theorem d_RecordReader_readField_89 : decode prog_6_method_4_code 89 = .ok (.aload_n 0, 1) := by decide +kernel
theorem d_RecordReader_readField_90 : decode prog_6_method_4_code 90 = .ok (.getfield 15, 3) := by decide +kernel
theorem d_RecordReader_readField_93 : decode prog_6_method_4_code 93 = .ok (.bipush 44, 2) := by decide +kernel
theorem d_RecordReader_readField_95 : decode prog_6_method_4_code 95 = .ok (.invokevirtual 33, 3) := by decide +kernel
theorem d_RecordReader_readField_98 : decode prog_6_method_4_code 98 = .ok (.ifCond .eq 7, 3) := by decide +kernel
theorem d_RecordReader_readField_101 : decode prog_6_method_4_code 101 = .ok (.iconst 1, 1) := by decide +kernel
theorem d_RecordReader_readField_102 : decode prog_6_method_4_code 102 = .ok (.goto 4, 3) := by decide +kernel
theorem d_RecordReader_readField_105 : decode prog_6_method_4_code 105 = .ok (.iconst 0, 1) := by decide +kernel
theorem d_RecordReader_readField_106 : decode prog_6_method_4_code 106 = .ok (.istore 4, 2) := by decide +kernel
theorem d_RecordReader_readField_108 : decode prog_6_method_4_code 108 = .ok (.iinc 5 1, 3) := by decide +kernel
theorem d_RecordReader_readField_111 : decode prog_6_method_4_code 111 = .ok (.goto (-59), 3) := by decide +kernel
theorem d_RecordReader_readField_114 : decode prog_6_method_4_code 114 = .ok (.aload_n 0, 1) := by decide +kernel
theorem d_RecordReader_readField_115 : decode prog_6_method_4_code 115 = .ok (.getfield 15, 3) := by decide +kernel
theorem d_RecordReader_readField_118 : decode prog_6_method_4_code 118 = .ok (.bipush 93, 2) := by decide +kernel
theorem d_RecordReader_readField_120 : decode prog_6_method_4_code 120 = .ok (.invokevirtual 33, 3) := by decide +kernel
theorem d_RecordReader_readField_123 : decode prog_6_method_4_code 123 = .ok (.ireturn, 1) := by decide +kernel
theorem d_RecordReader_readValue_0 : decode prog_6_method_5_code 0 = .ok (.aload_n 0, 1) := by decide +kernel
theorem d_RecordReader_readValue_1 : decode prog_6_method_5_code 1 = .ok (.getfield 15, 3) := by decide +kernel
theorem d_RecordReader_readValue_4 : decode prog_6_method_5_code 4 = .ok (.invokevirtual 37, 3) := by decide +kernel
theorem d_RecordReader_readValue_7 : decode prog_6_method_5_code 7 = .ok (.pop, 1) := by decide +kernel
theorem d_RecordReader_readValue_8 : decode prog_6_method_5_code 8 = .ok (.aload_n 0, 1) := by decide +kernel
theorem d_RecordReader_readValue_9 : decode prog_6_method_5_code 9 = .ok (.getfield 15, 3) := by decide +kernel
theorem d_RecordReader_readValue_12 : decode prog_6_method_5_code 12 = .ok (.getfield 81, 3) := by decide +kernel
theorem d_RecordReader_readValue_15 : decode prog_6_method_5_code 15 = .ok (.istore 4, 2) := by decide +kernel
theorem d_RecordReader_readValue_17 : decode prog_6_method_5_code 17 = .ok (.aload_n 1, 1) := by decide +kernel
theorem d_RecordReader_readValue_18 : decode prog_6_method_5_code 18 = .ok (.getfield 84, 3) := by decide +kernel
theorem d_RecordReader_readValue_21 : decode prog_6_method_5_code 21 = .ok (.tableswitch 161 0 3 #[31, 58, 88, 118], 31) := by decide +kernel
theorem d_RecordReader_readValue_52 : decode prog_6_method_5_code 52 = .ok (.aload_n 0, 1) := by decide +kernel
theorem d_RecordReader_readValue_53 : decode prog_6_method_5_code 53 = .ok (.invokevirtual 87, 3) := by decide +kernel
theorem d_RecordReader_readValue_56 : decode prog_6_method_5_code 56 = .ok (.ifCond .eq 21, 3) := by decide +kernel
theorem d_RecordReader_readValue_59 : decode prog_6_method_5_code 59 = .ok (.aload_n 0, 1) := by decide +kernel
theorem d_RecordReader_readValue_60 : decode prog_6_method_5_code 60 = .ok (.aload_n 1, 1) := by decide +kernel
theorem d_RecordReader_readValue_61 : decode prog_6_method_5_code 61 = .ok (.iload_n 2, 1) := by decide +kernel
theorem d_RecordReader_readValue_62 : decode prog_6_method_5_code 62 = .ok (.getstatic 90, 3) := by decide +kernel
theorem d_RecordReader_readValue_65 : decode prog_6_method_5_code 65 = .ok (.iload 4, 2) := by decide +kernel
theorem d_RecordReader_readValue_67 : decode prog_6_method_5_code 67 = .ok (.invokevirtual 93, 3) := by decide +kernel
theorem d_RecordReader_readValue_70 : decode prog_6_method_5_code 70 = .ok (.ifCond .eq 7, 3) := by decide +kernel
theorem d_RecordReader_readValue_73 : decode prog_6_method_5_code 73 = .ok (.iconst 1, 1) := by decide +kernel
theorem d_RecordReader_readValue_74 : decode prog_6_method_5_code 74 = .ok (.goto 4, 3) := by decide +kernel
theorem d_RecordReader_readValue_77 : decode prog_6_method_5_code 77 = .ok (.iconst 0, 1) := by decide +kernel
theorem d_RecordReader_readValue_78 : decode prog_6_method_5_code 78 = .ok (.ireturn, 1) := by decide +kernel
theorem d_RecordReader_readValue_79 : decode prog_6_method_5_code 79 = .ok (.aload_n 0, 1) := by decide +kernel
theorem d_RecordReader_readValue_80 : decode prog_6_method_5_code 80 = .ok (.ldc2_w 97, 3) := by decide +kernel
theorem d_RecordReader_readValue_83 : decode prog_6_method_5_code 83 = .ok (.invokevirtual 99, 3) := by decide +kernel
theorem d_RecordReader_readValue_86 : decode prog_6_method_5_code 86 = .ok (.ifCond .eq 21, 3) := by decide +kernel
theorem d_RecordReader_readValue_89 : decode prog_6_method_5_code 89 = .ok (.aload_n 0, 1) := by decide +kernel
theorem d_RecordReader_readValue_90 : decode prog_6_method_5_code 90 = .ok (.aload_n 1, 1) := by decide +kernel
theorem d_RecordReader_readValue_91 : decode prog_6_method_5_code 91 = .ok (.iload_n 2, 1) := by decide +kernel
theorem d_RecordReader_readValue_92 : decode prog_6_method_5_code 92 = .ok (.getstatic 90, 3) := by decide +kernel
theorem d_RecordReader_readValue_95 : decode prog_6_method_5_code 95 = .ok (.iload 4, 2) := by decide +kernel
theorem d_RecordReader_readValue_97 : decode prog_6_method_5_code 97 = .ok (.invokevirtual 93, 3) := by decide +kernel
theorem d_RecordReader_readValue_100 : decode prog_6_method_5_code 100 = .ok (.ifCond .eq 7, 3) := by decide +kernel
theorem d_RecordReader_readValue_103 : decode prog_6_method_5_code 103 = .ok (.iconst 1, 1) := by decide +kernel
theorem d_RecordReader_readValue_104 : decode prog_6_method_5_code 104 = .ok (.goto 4, 3) := by decide +kernel
theorem d_RecordReader_readValue_107 : decode prog_6_method_5_code 107 = .ok (.iconst 0, 1) := by decide +kernel
theorem d_RecordReader_readValue_108 : decode prog_6_method_5_code 108 = .ok (.ireturn, 1) := by decide +kernel
theorem d_RecordReader_readValue_109 : decode prog_6_method_5_code 109 = .ok (.aload_n 0, 1) := by decide +kernel
theorem d_RecordReader_readValue_110 : decode prog_6_method_5_code 110 = .ok (.ldc2_w 103, 3) := by decide +kernel
theorem d_RecordReader_readValue_113 : decode prog_6_method_5_code 113 = .ok (.invokevirtual 99, 3) := by decide +kernel
theorem d_RecordReader_readValue_116 : decode prog_6_method_5_code 116 = .ok (.ifCond .eq 21, 3) := by decide +kernel
theorem d_RecordReader_readValue_119 : decode prog_6_method_5_code 119 = .ok (.aload_n 0, 1) := by decide +kernel
theorem d_RecordReader_readValue_120 : decode prog_6_method_5_code 120 = .ok (.aload_n 1, 1) := by decide +kernel
theorem d_RecordReader_readValue_121 : decode prog_6_method_5_code 121 = .ok (.iload_n 2, 1) := by decide +kernel
theorem d_RecordReader_readValue_122 : decode prog_6_method_5_code 122 = .ok (.getstatic 90, 3) := by decide +kernel
theorem d_RecordReader_readValue_125 : decode prog_6_method_5_code 125 = .ok (.iload 4, 2) := by decide +kernel
theorem d_RecordReader_readValue_127 : decode prog_6_method_5_code 127 = .ok (.invokevirtual 93, 3) := by decide +kernel
theorem d_RecordReader_readValue_130 : decode prog_6_method_5_code 130 = .ok (.ifCond .eq 7, 3) := by decide +kernel
theorem d_RecordReader_readValue_133 : decode prog_6_method_5_code 133 = .ok (.iconst 1, 1) := by decide +kernel
theorem d_RecordReader_readValue_134 : decode prog_6_method_5_code 134 = .ok (.goto 4, 3) := by decide +kernel
theorem d_RecordReader_readValue_137 : decode prog_6_method_5_code 137 = .ok (.iconst 0, 1) := by decide +kernel
theorem d_RecordReader_readValue_138 : decode prog_6_method_5_code 138 = .ok (.ireturn, 1) := by decide +kernel
theorem d_RecordReader_readValue_139 : decode prog_6_method_5_code 139 = .ok (.aload_n 0, 1) := by decide +kernel
theorem d_RecordReader_readValue_140 : decode prog_6_method_5_code 140 = .ok (.lconst 0, 1) := by decide +kernel
theorem d_RecordReader_readValue_141 : decode prog_6_method_5_code 141 = .ok (.putfield 105, 3) := by decide +kernel
theorem d_RecordReader_readValue_144 : decode prog_6_method_5_code 144 = .ok (.aload_n 0, 1) := by decide +kernel
theorem d_RecordReader_readValue_145 : decode prog_6_method_5_code 145 = .ok (.invokevirtual 108, 3) := by decide +kernel
theorem d_RecordReader_readValue_148 : decode prog_6_method_5_code 148 = .ok (.istore 5, 2) := by decide +kernel
theorem d_RecordReader_readValue_150 : decode prog_6_method_5_code 150 = .ok (.iload 5, 2) := by decide +kernel
theorem d_RecordReader_readValue_152 : decode prog_6_method_5_code 152 = .ok (.iconst (-1), 1) := by decide +kernel
theorem d_RecordReader_readValue_153 : decode prog_6_method_5_code 153 = .ok (.if_icmp .eq 27, 3) := by decide +kernel
theorem d_RecordReader_readValue_156 : decode prog_6_method_5_code 156 = .ok (.aload_n 0, 1) := by decide +kernel
theorem d_RecordReader_readValue_157 : decode prog_6_method_5_code 157 = .ok (.aload_n 1, 1) := by decide +kernel
theorem d_RecordReader_readValue_158 : decode prog_6_method_5_code 158 = .ok (.iload_n 2, 1) := by decide +kernel
theorem d_RecordReader_readValue_159 : decode prog_6_method_5_code 159 = .ok (.aload_n 0, 1) := by decide +kernel
theorem d_RecordReader_readValue_160 : decode prog_6_method_5_code 160 = .ok (.getfield 9, 3) := by decide +kernel
theorem d_RecordReader_readValue_163 : decode prog_6_method_5_code 163 = .ok (.iload 5, 2) := by decide +kernel
theorem d_RecordReader_readValue_165 : decode prog_6_method_5_code 165 = .ok (.invokestatic 111, 3) := by decide +kernel
theorem d_RecordReader_readValue_168 : decode prog_6_method_5_code 168 = .ok (.iload 4, 2) := by decide +kernel
theorem d_RecordReader_readValue_170 : decode prog_6_method_5_code 170 = .ok (.invokevirtual 93, 3) := by decide +kernel
theorem d_RecordReader_readValue_173 : decode prog_6_method_5_code 173 = .ok (.ifCond .eq 7, 3) := by decide +kernel
theorem d_RecordReader_readValue_176 : decode prog_6_method_5_code 176 = .ok (.iconst 1, 1) := by decide +kernel
theorem d_RecordReader_readValue_177 : decode prog_6_method_5_code 177 = .ok (.goto 4, 3) := by decide +kernel
theorem d_RecordReader_readValue_180 : decode prog_6_method_5_code 180 = .ok (.iconst 0, 1) := by decide +kernel
theorem d_RecordReader_readValue_181 : decode prog_6_method_5_code 181 = .ok (.ireturn, 1) := by decide +kernel
theorem d_RecordReader_readValue_182 : decode prog_6_method_5_code 182 = .ok (.aload_n 0, 1) := by decide +kernel
theorem d_RecordReader_readValue_183 : decode prog_6_method_5_code 183 = .ok (.lconst 0, 1) := by decide +kernel
theorem d_RecordReader_readValue_184 : decode prog_6_method_5_code 184 = .ok (.putfield 105, 3) := by decide +kernel
theorem d_RecordReader_readValue_187 : decode prog_6_method_5_code 187 = .ok (.aload_n 0, 1) := by decide +kernel
theorem d_RecordReader_readValue_188 : decode prog_6_method_5_code 188 = .ok (.aload_n 1, 1) := by decide +kernel
theorem d_RecordReader_readValue_189 : decode prog_6_method_5_code 189 = .ok (.iload_n 2, 1) := by decide +kernel
theorem d_RecordReader_readValue_190 : decode prog_6_method_5_code 190 = .ok (.getstatic 90, 3) := by decide +kernel
theorem d_RecordReader_readValue_193 : decode prog_6_method_5_code 193 = .ok (.iload 4, 2) := by decide +kernel
theorem d_RecordReader_readValue_195 : decode prog_6_method_5_code 195 = .ok (.invokevirtual 93, 3) := by decide +kernel
theorem d_RecordReader_readValue_198 : decode prog_6_method_5_code 198 = .ok (.ifCond .eq 30, 3) := by decide +kernel
theorem d_RecordReader_readValue_201 : decode prog_6_method_5_code 201 = .ok (.aload_n 0, 1) := by decide +kernel
theorem d_RecordReader_readValue_202 : decode prog_6_method_5_code 202 = .ok (.aload_n 1, 1) := by decide +kernel
theorem d_RecordReader_readValue_203 : decode prog_6_method_5_code 203 = .ok (.getfield 49, 3) := by decide +kernel
theorem d_RecordReader_readValue_206 : decode prog_6_method_5_code 206 = .ok (.aload_n 0, 1) := by decide +kernel
theorem d_RecordReader_readValue_207 : decode prog_6_method_5_code 207 = .ok (.getfield 23, 3) := by decide +kernel
theorem d_RecordReader_readValue_210 : decode prog_6_method_5_code 210 = .ok (.getfield 117, 3) := by decide +kernel
theorem d_RecordReader_readValue_213 : decode prog_6_method_5_code 213 = .ok (.iconst 1, 1) := by decide +kernel
theorem d_RecordReader_readValue_214 : decode prog_6_method_5_code 214 = .ok (.isub, 1) := by decide +kernel
theorem d_RecordReader_readValue_215 : decode prog_6_method_5_code 215 = .ok (.iload_n 3, 1) := by decide +kernel
theorem d_RecordReader_readValue_216 : decode prog_6_method_5_code 216 = .ok (.iconst 1, 1) := by decide +kernel
theorem d_RecordReader_readValue_217 : decode prog_6_method_5_code 217 = .ok (.iadd, 1) := by decide +kernel
theorem d_RecordReader_readValue_218 : decode prog_6_method_5_code 218 = .ok (.invokevirtual 122, 3) := by decide +kernel
theorem d_RecordReader_readValue_221 : decode prog_6_method_5_code 221 = .ok (.ifCond .eq 7, 3) := by decide +kernel
theorem d_RecordReader_readValue_224 : decode prog_6_method_5_code 224 = .ok (.iconst 1, 1) := by decide +kernel
theorem d_RecordReader_readValue_225 : decode prog_6_method_5_code 225 = .ok (.goto 4, 3) := by decide +kernel
theorem d_RecordReader_readValue_228 : decode prog_6_method_5_code 228 = .ok (.iconst 0, 1) := by decide +kernel
theorem d_RecordReader_readValue_229 : decode prog_6_method_5_code 229 = .ok (.ireturn, 1) := by decide +kernel
theorem d_RecordReader_readBool_0 : decode prog_6_method_7_code 0 = .ok (.aload_n 0, 1) := by decide +kernel
theorem d_RecordReader_readBool_1 : decode prog_6_method_7_code 1 = .ok (.getfield 15, 3) := by decide +kernel
theorem d_RecordReader_readBool_4 : decode prog_6_method_7_code 4 = .ok (.invokevirtual 61, 3) := by decide +kernel
theorem d_RecordReader_readBool_7 : decode prog_6_method_7_code 7 = .ok (.ifCond .ne 5, 3) := by decide +kernel
theorem d_RecordReader_readBool_10 : decode prog_6_method_7_code 10 = .ok (.iconst 0, 1) := by decide +kernel
theorem d_RecordReader_readBool_11 : decode prog_6_method_7_code 11 = .ok (.ireturn, 1) := by decide +kernel
theorem d_RecordReader_readBool_12 : decode prog_6_method_7_code 12 = .ok (.aload_n 0, 1) := by decide +kernel
theorem d_RecordReader_readBool_13 : decode prog_6_method_7_code 13 = .ok (.aload_n 0, 1) := by decide +kernel
theorem d_RecordReader_readBool_14 : decode prog_6_method_7_code 14 = .ok (.getfield 15, 3) := by decide +kernel
theorem d_RecordReader_readBool_17 : decode prog_6_method_7_code 17 = .ok (.ldc 133, 2) := by decide +kernel
theorem d_RecordReader_readBool_19 : decode prog_6_method_7_code 19 = .ok (.invokevirtual 135, 3) := by decide +kernel
theorem d_RecordReader_readBool_22 : decode prog_6_method_7_code 22 = .ok (.ifCond .eq 7, 3) := by decide +kernel
theorem d_RecordReader_readBool_25 : decode prog_6_method_7_code 25 = .ok (.lconst 1, 1) := by decide +kernel
theorem d_RecordReader_readBool_26 : decode prog_6_method_7_code 26 = .ok (.goto 4, 3) := by decide +kernel
theorem d_RecordReader_readBool_29 : decode prog_6_method_7_code 29 = .ok (.lconst 0, 1) := by decide +kernel
theorem d_RecordReader_readBool_30 : decode prog_6_method_7_code 30 = .ok (.putfield 105, 3) := by decide +kernel
theorem d_RecordReader_readBool_33 : decode prog_6_method_7_code 33 = .ok (.aload_n 0, 1) := by decide +kernel
theorem d_RecordReader_readBool_34 : decode prog_6_method_7_code 34 = .ok (.getfield 105, 3) := by decide +kernel
theorem d_RecordReader_readBool_37 : decode prog_6_method_7_code 37 = .ok (.lconst 1, 1) := by decide +kernel
theorem d_RecordReader_readBool_38 : decode prog_6_method_7_code 38 = .ok (.lcmp, 1) := by decide +kernel
theorem d_RecordReader_readBool_39 : decode prog_6_method_7_code 39 = .ok (.ifCond .eq 25, 3) := by decide +kernel
theorem d_RecordReader_readBool_42 : decode prog_6_method_7_code 42 = .ok (.aload_n 0, 1) := by decide +kernel
theorem d_RecordReader_readBool_43 : decode prog_6_method_7_code 43 = .ok (.getfield 15, 3) := by decide +kernel
theorem d_RecordReader_readBool_46 : decode prog_6_method_7_code 46 = .ok (.ldc 139, 2) := by decide +kernel
theorem d_RecordReader_readBool_48 : decode prog_6_method_7_code 48 = .ok (.invokevirtual 135, 3) := by decide +kernel
theorem d_RecordReader_readBool_51 : decode prog_6_method_7_code 51 = .ok (.ifCond .ne 13, 3) := by decide +kernel
theorem d_RecordReader_readBool_54 : decode prog_6_method_7_code 54 = .ok (.aload_n 0, 1) := by decide +kernel
theorem d_RecordReader_readBool_55 : decode prog_6_method_7_code 55 = .ok (.getfield 15, 3) := by decide +kernel
theorem d_RecordReader_readBool_58 : decode prog_6_method_7_code 58 = .ok (.invokevirtual 72, 3) := by decide +kernel
theorem d_RecordReader_readBool_61 : decode prog_6_method_7_code 61 = .ok (.ifCond .eq 7, 3) := by decide +kernel
theorem d_RecordReader_readBool_64 : decode prog_6_method_7_code 64 = .ok (.iconst 1, 1) := by decide +kernel
theorem d_RecordReader_readBool_65 : decode prog_6_method_7_code 65 = .ok (.goto 4, 3) := by decide +kernel
theorem d_RecordReader_readBool_68 : decode prog_6_method_7_code 68 = .ok (.iconst 0, 1) := by decide +kernel
theorem d_RecordReader_readBool_69 : decode prog_6_method_7_code 69 = .ok (.ireturn, 1) := by decide +kernel
theorem d_RecordReader_keep_0 : decode prog_6_method_6_code 0 = .ok (.aload_n 0, 1) := by decide +kernel
theorem d_RecordReader_keep_1 : decode prog_6_method_6_code 1 = .ok (.getfield 23, 3) := by decide +kernel
theorem d_RecordReader_keep_4 : decode prog_6_method_6_code 4 = .ok (.iload_n 2, 1) := by decide +kernel
theorem d_RecordReader_keep_5 : decode prog_6_method_6_code 5 = .ok (.aload_n 1, 1) := by decide +kernel
theorem d_RecordReader_keep_6 : decode prog_6_method_6_code 6 = .ok (.aload_n 0, 1) := by decide +kernel
theorem d_RecordReader_keep_7 : decode prog_6_method_6_code 7 = .ok (.getfield 105, 3) := by decide +kernel
theorem d_RecordReader_keep_10 : decode prog_6_method_6_code 10 = .ok (.aload_n 3, 1) := by decide +kernel
theorem d_RecordReader_keep_11 : decode prog_6_method_6_code 11 = .ok (.invokevirtual 126, 3) := by decide +kernel
theorem d_RecordReader_keep_14 : decode prog_6_method_6_code 14 = .ok (.iconst (-1), 1) := by decide +kernel
theorem d_RecordReader_keep_15 : decode prog_6_method_6_code 15 = .ok (.if_icmp .ne 15, 3) := by decide +kernel
theorem d_RecordReader_keep_18 : decode prog_6_method_6_code 18 = .ok (.aload_n 0, 1) := by decide +kernel
theorem d_RecordReader_keep_19 : decode prog_6_method_6_code 19 = .ok (.getfield 15, 3) := by decide +kernel
theorem d_RecordReader_keep_22 : decode prog_6_method_6_code 22 = .ok (.iload 4, 2) := by decide +kernel
theorem d_RecordReader_keep_24 : decode prog_6_method_6_code 24 = .ok (.invokevirtual 130, 3) := by decide +kernel
theorem d_RecordReader_keep_27 : decode prog_6_method_6_code 27 = .ok (.ifCond .eq 7, 3) := by decide +kernel
theorem d_RecordReader_keep_30 : decode prog_6_method_6_code 30 = .ok (.iconst 1, 1) := by decide +kernel
theorem d_RecordReader_keep_31 : decode prog_6_method_6_code 31 = .ok (.goto 4, 3) := by decide +kernel
theorem d_RecordReader_keep_34 : decode prog_6_method_6_code 34 = .ok (.iconst 0, 1) := by decide +kernel
theorem d_RecordReader_keep_35 : decode prog_6_method_6_code 35 = .ok (.ireturn, 1) := by decide +kernel
theorem d_RecordReader_readNumber_0 : decode prog_6_method_8_code 0 = .ok (.aload_n 0, 1) := by decide +kernel
theorem d_RecordReader_readNumber_1 : decode prog_6_method_8_code 1 = .ok (.getfield 15, 3) := by decide +kernel
theorem d_RecordReader_readNumber_4 : decode prog_6_method_8_code 4 = .ok (.getfield 81, 3) := by decide +kernel
theorem d_RecordReader_readNumber_7 : decode prog_6_method_8_code 7 = .ok (.istore_n 3, 1) := by decide +kernel
theorem d_RecordReader_readNumber_8 : decode prog_6_method_8_code 8 = .ok (.aload_n 0, 1) := by decide +kernel
theorem d_RecordReader_readNumber_9 : decode prog_6_method_8_code 9 = .ok (.getfield 15, 3) := by decide +kernel
theorem d_RecordReader_readNumber_12 : decode prog_6_method_8_code 12 = .ok (.invokevirtual 141, 3) := by decide +kernel
theorem d_RecordReader_readNumber_15 : decode prog_6_method_8_code 15 = .ok (.bipush 45, 2) := by decide +kernel
theorem d_RecordReader_readNumber_17 : decode prog_6_method_8_code 17 = .ok (.if_icmp .ne 7, 3) := by decide +kernel
theorem d_RecordReader_readNumber_20 : decode prog_6_method_8_code 20 = .ok (.iconst 1, 1) := by decide +kernel
theorem d_RecordReader_readNumber_21 : decode prog_6_method_8_code 21 = .ok (.goto 4, 3) := by decide +kernel
theorem d_RecordReader_readNumber_24 : decode prog_6_method_8_code 24 = .ok (.iconst 0, 1) := by decide +kernel
theorem d_RecordReader_readNumber_25 : decode prog_6_method_8_code 25 = .ok (.istore 4, 2) := by decide +kernel
theorem d_RecordReader_readNumber_27 : decode prog_6_method_8_code 27 = .ok (.iload 4, 2) := by decide +kernel
theorem d_RecordReader_readNumber_29 : decode prog_6_method_8_code 29 = .ok (.ifCond .eq 11, 3) := by decide +kernel
theorem d_RecordReader_readNumber_32 : decode prog_6_method_8_code 32 = .ok (.aload_n 0, 1) := by decide +kernel
theorem d_RecordReader_readNumber_33 : decode prog_6_method_8_code 33 = .ok (.getfield 15, 3) := by decide +kernel
theorem d_RecordReader_readNumber_36 : decode prog_6_method_8_code 36 = .ok (.iconst 1, 1) := by decide +kernel
theorem d_RecordReader_readNumber_37 : decode prog_6_method_8_code 37 = .ok (.invokevirtual 144, 3) := by decide +kernel
theorem d_RecordReader_readNumber_40 : decode prog_6_method_8_code 40 = .ok (.aload_n 0, 1) := by decide +kernel
theorem d_RecordReader_readNumber_41 : decode prog_6_method_8_code 41 = .ok (.getfield 15, 3) := by decide +kernel
theorem d_RecordReader_readNumber_44 : decode prog_6_method_8_code 44 = .ok (.invokevirtual 141, 3) := by decide +kernel
theorem d_RecordReader_readNumber_47 : decode prog_6_method_8_code 47 = .ok (.invokestatic 148, 3) := by decide +kernel
theorem d_RecordReader_readNumber_50 : decode prog_6_method_8_code 50 = .ok (.ifCond .ne 33, 3) := by decide +kernel
theorem d_RecordReader_readNumber_53 : decode prog_6_method_8_code 53 = .ok (.aload_n 0, 1) := by decide +kernel
theorem d_RecordReader_readNumber_54 : decode prog_6_method_8_code 54 = .ok (.getfield 15, 3) := by decide +kernel
theorem d_RecordReader_readNumber_57 : decode prog_6_method_8_code 57 = .ok (.invokevirtual 141, 3) := by decide +kernel
theorem d_RecordReader_readNumber_60 : decode prog_6_method_8_code 60 = .ok (.iconst (-1), 1) := by decide +kernel
theorem d_RecordReader_readNumber_61 : decode prog_6_method_8_code 61 = .ok (.if_icmp .ne 13, 3) := by decide +kernel
theorem d_RecordReader_readNumber_64 : decode prog_6_method_8_code 64 = .ok (.aload_n 0, 1) := by decide +kernel
theorem d_RecordReader_readNumber_65 : decode prog_6_method_8_code 65 = .ok (.getfield 15, 3) := by decide +kernel
theorem d_RecordReader_readNumber_68 : decode prog_6_method_8_code 68 = .ok (.invokevirtual 27, 3) := by decide +kernel
theorem d_RecordReader_readNumber_71 : decode prog_6_method_8_code 71 = .ok (.goto 11, 3) := by decide +kernel
theorem d_RecordReader_readNumber_74 : decode prog_6_method_8_code 74 = .ok (.aload_n 0, 1) := by decide +kernel
theorem d_RecordReader_readNumber_75 : decode prog_6_method_8_code 75 = .ok (.getfield 15, 3) := by decide +kernel
theorem d_RecordReader_readNumber_78 : decode prog_6_method_8_code 78 = .ok (.iload_n 3, 1) := by decide +kernel
theorem d_RecordReader_readNumber_79 : decode prog_6_method_8_code 79 = .ok (.invokevirtual 130, 3) := by decide +kernel
theorem d_RecordReader_readNumber_82 : decode prog_6_method_8_code 82 = .ok (.ireturn, 1) := by decide +kernel
theorem d_RecordReader_readNumber_83 : decode prog_6_method_8_code 83 = .ok (.aload_n 0, 1) := by decide +kernel
theorem d_RecordReader_readNumber_84 : decode prog_6_method_8_code 84 = .ok (.getfield 15, 3) := by decide +kernel
theorem d_RecordReader_readNumber_87 : decode prog_6_method_8_code 87 = .ok (.invokevirtual 141, 3) := by decide +kernel
theorem d_RecordReader_readNumber_90 : decode prog_6_method_8_code 90 = .ok (.bipush 48, 2) := by decide +kernel
theorem d_RecordReader_readNumber_92 : decode prog_6_method_8_code 92 = .ok (.if_icmp .ne 39, 3) := by decide +kernel
theorem d_RecordReader_readNumber_95 : decode prog_6_method_8_code 95 = .ok (.iload 4, 2) := by decide +kernel
theorem d_RecordReader_readNumber_97 : decode prog_6_method_8_code 97 = .ok (.ifCond .ne 25, 3) := by decide +kernel
theorem d_RecordReader_readNumber_100 : decode prog_6_method_8_code 100 = .ok (.aload_n 0, 1) := by decide +kernel
theorem d_RecordReader_readNumber_101 : decode prog_6_method_8_code 101 = .ok (.getfield 15, 3) := by decide +kernel
theorem d_RecordReader_readNumber_104 : decode prog_6_method_8_code 104 = .ok (.aload_n 0, 1) := by decide +kernel
theorem d_RecordReader_readNumber_105 : decode prog_6_method_8_code 105 = .ok (.getfield 15, 3) := by decide +kernel
theorem d_RecordReader_readNumber_108 : decode prog_6_method_8_code 108 = .ok (.getfield 81, 3) := by decide +kernel
theorem d_RecordReader_readNumber_111 : decode prog_6_method_8_code 111 = .ok (.iconst 1, 1) := by decide +kernel
theorem d_RecordReader_readNumber_112 : decode prog_6_method_8_code 112 = .ok (.iadd, 1) := by decide +kernel
theorem d_RecordReader_readNumber_113 : decode prog_6_method_8_code 113 = .ok (.invokevirtual 151, 3) := by decide +kernel
theorem d_RecordReader_readNumber_116 : decode prog_6_method_8_code 116 = .ok (.invokestatic 148, 3) := by decide +kernel
theorem d_RecordReader_readNumber_119 : decode prog_6_method_8_code 119 = .ok (.ifCond .eq 12, 3) := by decide +kernel
theorem d_RecordReader_readNumber_122 : decode prog_6_method_8_code 122 = .ok (.aload_n 0, 1) := by decide +kernel
theorem d_RecordReader_readNumber_123 : decode prog_6_method_8_code 123 = .ok (.getfield 15, 3) := by decide +kernel
theorem d_RecordReader_readNumber_126 : decode prog_6_method_8_code 126 = .ok (.iload_n 3, 1) := by decide +kernel
theorem d_RecordReader_readNumber_127 : decode prog_6_method_8_code 127 = .ok (.invokevirtual 130, 3) := by decide +kernel
theorem d_RecordReader_readNumber_130 : decode prog_6_method_8_code 130 = .ok (.ireturn, 1) := by decide +kernel
theorem d_RecordReader_readNumber_131 : decode prog_6_method_8_code 131 = .ok (.iload 4, 2) := by decide +kernel
theorem d_RecordReader_readNumber_133 : decode prog_6_method_8_code 133 = .ok (.ifCond .eq 7, 3) := by decide +kernel
theorem d_RecordReader_readNumber_136 : decode prog_6_method_8_code 136 = .ok (.lload_n 1, 1) := by decide +kernel
theorem d_RecordReader_readNumber_137 : decode prog_6_method_8_code 137 = .ok (.goto 6, 3) := by decide +kernel
theorem d_RecordReader_readNumber_140 : decode prog_6_method_8_code 140 = .ok (.lload_n 1, 1) := by decide +kernel
theorem d_RecordReader_readNumber_141 : decode prog_6_method_8_code 141 = .ok (.lconst 1, 1) := by decide +kernel
theorem d_RecordReader_readNumber_142 : decode prog_6_method_8_code 142 = .ok (.ladd, 1) := by decide +kernel
theorem d_RecordReader_readNumber_143 : decode prog_6_method_8_code 143 = .ok (.lstore 5, 2) := by decide +kernel
theorem d_RecordReader_readNumber_145 : decode prog_6_method_8_code 145 = .ok (.lconst 0, 1) := by decide +kernel
theorem d_RecordReader_readNumber_146 : decode prog_6_method_8_code 146 = .ok (.lstore 7, 2) := by decide +kernel
theorem d_RecordReader_readNumber_148 : decode prog_6_method_8_code 148 = .ok (.iconst 0, 1) := by decide +kernel
theorem d_RecordReader_readNumber_149 : decode prog_6_method_8_code 149 = .ok (.istore 9, 2) := by decide +kernel
theorem d_RecordReader_readNumber_151 : decode prog_6_method_8_code 151 = .ok (.iload 9, 2) := by decide +kernel
theorem d_RecordReader_readNumber_153 : decode prog_6_method_8_code 153 = .ok (.sipush 4000, 3) := by decide +kernel
theorem d_RecordReader_readNumber_156 : decode prog_6_method_8_code 156 = .ok (.if_icmp .ge 79, 3) := by decide +kernel
theorem d_RecordReader_readNumber_159 : decode prog_6_method_8_code 159 = .ok (.aload_n 0, 1) := by decide +kernel
theorem d_RecordReader_readNumber_160 : decode prog_6_method_8_code 160 = .ok (.getfield 15, 3) := by decide +kernel
theorem d_RecordReader_readNumber_163 : decode prog_6_method_8_code 163 = .ok (.invokevirtual 141, 3) := by decide +kernel
theorem d_RecordReader_readNumber_166 : decode prog_6_method_8_code 166 = .ok (.invokestatic 148, 3) := by decide +kernel
theorem d_RecordReader_readNumber_169 : decode prog_6_method_8_code 169 = .ok (.ifCond .eq 66, 3) := by decide +kernel
theorem d_RecordReader_readNumber_172 : decode prog_6_method_8_code 172 = .ok (.aload_n 0, 1) := by decide +kernel
theorem d_RecordReader_readNumber_173 : decode prog_6_method_8_code 173 = .ok (.getfield 15, 3) := by decide +kernel
theorem d_RecordReader_readNumber_176 : decode prog_6_method_8_code 176 = .ok (.invokevirtual 141, 3) := by decide +kernel
theorem d_RecordReader_readNumber_179 : decode prog_6_method_8_code 179 = .ok (.bipush 48, 2) := by decide +kernel
theorem d_RecordReader_readNumber_181 : decode prog_6_method_8_code 181 = .ok (.isub, 1) := by decide +kernel
theorem d_RecordReader_readNumber_182 : decode prog_6_method_8_code 182 = .ok (.istore 10, 2) := by decide +kernel
theorem d_RecordReader_readNumber_184 : decode prog_6_method_8_code 184 = .ok (.lload 7, 2) := by decide +kernel
theorem d_RecordReader_readNumber_186 : decode prog_6_method_8_code 186 = .ok (.lload 5, 2) := by decide +kernel
theorem d_RecordReader_readNumber_188 : decode prog_6_method_8_code 188 = .ok (.iload 10, 2) := by decide +kernel
theorem d_RecordReader_readNumber_190 : decode prog_6_method_8_code 190 = .ok (.i2l, 1) := by decide +kernel
theorem d_RecordReader_readNumber_191 : decode prog_6_method_8_code 191 = .ok (.ladd, 1) := by decide +kernel
theorem d_RecordReader_readNumber_192 : decode prog_6_method_8_code 192 = .ok (.ldc2_w 155, 3) := by decide +kernel
theorem d_RecordReader_readNumber_195 : decode prog_6_method_8_code 195 = .ok (.ldiv, 1) := by decide +kernel
theorem d_RecordReader_readNumber_196 : decode prog_6_method_8_code 196 = .ok (.lcmp, 1) := by decide +kernel
theorem d_RecordReader_readNumber_197 : decode prog_6_method_8_code 197 = .ok (.ifCond .ge 12, 3) := by decide +kernel
theorem d_RecordReader_readNumber_200 : decode prog_6_method_8_code 200 = .ok (.aload_n 0, 1) := by decide +kernel
theorem d_RecordReader_readNumber_201 : decode prog_6_method_8_code 201 = .ok (.getfield 15, 3) := by decide +kernel
theorem d_RecordReader_readNumber_204 : decode prog_6_method_8_code 204 = .ok (.iload_n 3, 1) := by decide +kernel
theorem d_RecordReader_readNumber_205 : decode prog_6_method_8_code 205 = .ok (.invokevirtual 130, 3) := by decide +kernel
theorem d_RecordReader_readNumber_208 : decode prog_6_method_8_code 208 = .ok (.ireturn, 1) := by decide +kernel
theorem d_RecordReader_readNumber_209 : decode prog_6_method_8_code 209 = .ok (.lload 7, 2) := by decide +kernel
theorem d_RecordReader_readNumber_211 : decode prog_6_method_8_code 211 = .ok (.ldc2_w 155, 3) := by decide +kernel
theorem d_RecordReader_readNumber_214 : decode prog_6_method_8_code 214 = .ok (.lmul, 1) := by decide +kernel
theorem d_RecordReader_readNumber_215 : decode prog_6_method_8_code 215 = .ok (.iload 10, 2) := by decide +kernel
theorem d_RecordReader_readNumber_217 : decode prog_6_method_8_code 217 = .ok (.i2l, 1) := by decide +kernel
theorem d_RecordReader_readNumber_218 : decode prog_6_method_8_code 218 = .ok (.lsub, 1) := by decide +kernel
theorem d_RecordReader_readNumber_219 : decode prog_6_method_8_code 219 = .ok (.lstore 7, 2) := by decide +kernel
theorem d_RecordReader_readNumber_221 : decode prog_6_method_8_code 221 = .ok (.aload_n 0, 1) := by decide +kernel
theorem d_RecordReader_readNumber_222 : decode prog_6_method_8_code 222 = .ok (.getfield 15, 3) := by decide +kernel
theorem d_RecordReader_readNumber_225 : decode prog_6_method_8_code 225 = .ok (.iconst 1, 1) := by decide +kernel
theorem d_RecordReader_readNumber_226 : decode prog_6_method_8_code 226 = .ok (.invokevirtual 144, 3) := by decide +kernel
theorem d_RecordReader_readNumber_229 : decode prog_6_method_8_code 229 = .ok (.iinc 9 1, 3) := by decide +kernel
theorem d_RecordReader_readNumber_232 : decode prog_6_method_8_code 232 = .ok (.goto (-81), 3) := by decide +kernel
theorem d_RecordReader_readNumber_235 : decode prog_6_method_8_code 235 = .ok (.aload_n 0, 1) := by decide +kernel
theorem d_RecordReader_readNumber_236 : decode prog_6_method_8_code 236 = .ok (.iload 4, 2) := by decide +kernel
theorem d_RecordReader_readNumber_238 : decode prog_6_method_8_code 238 = .ok (.ifCond .eq 8, 3) := by decide +kernel
theorem d_RecordReader_readNumber_241 : decode prog_6_method_8_code 241 = .ok (.lload 7, 2) := by decide +kernel
theorem d_RecordReader_readNumber_243 : decode prog_6_method_8_code 243 = .ok (.goto 6, 3) := by decide +kernel
theorem d_RecordReader_readNumber_246 : decode prog_6_method_8_code 246 = .ok (.lload 7, 2) := by decide +kernel
theorem d_RecordReader_readNumber_248 : decode prog_6_method_8_code 248 = .ok (.lneg, 1) := by decide +kernel
theorem d_RecordReader_readNumber_249 : decode prog_6_method_8_code 249 = .ok (.putfield 105, 3) := by decide +kernel
theorem d_RecordReader_readNumber_252 : decode prog_6_method_8_code 252 = .ok (.iconst 1, 1) := by decide +kernel
theorem d_RecordReader_readNumber_253 : decode prog_6_method_8_code 253 = .ok (.ireturn, 1) := by decide +kernel
theorem d_RecordReader_readText_0 : decode prog_6_method_9_code 0 = .ok (.aload_n 0, 1) := by decide +kernel
theorem d_RecordReader_readText_1 : decode prog_6_method_9_code 1 = .ok (.getfield 15, 3) := by decide +kernel
theorem d_RecordReader_readText_4 : decode prog_6_method_9_code 4 = .ok (.bipush 39, 2) := by decide +kernel
theorem d_RecordReader_readText_6 : decode prog_6_method_9_code 6 = .ok (.invokevirtual 33, 3) := by decide +kernel
theorem d_RecordReader_readText_9 : decode prog_6_method_9_code 9 = .ok (.ifCond .ne 5, 3) := by decide +kernel
theorem d_RecordReader_readText_12 : decode prog_6_method_9_code 12 = .ok (.iconst (-1), 1) := by decide +kernel
theorem d_RecordReader_readText_13 : decode prog_6_method_9_code 13 = .ok (.ireturn, 1) := by decide +kernel
theorem d_RecordReader_readText_14 : decode prog_6_method_9_code 14 = .ok (.iconst 0, 1) := by decide +kernel
theorem d_RecordReader_readText_15 : decode prog_6_method_9_code 15 = .ok (.istore_n 1, 1) := by decide +kernel
theorem d_RecordReader_readText_16 : decode prog_6_method_9_code 16 = .ok (.iload_n 1, 1) := by decide +kernel
theorem d_RecordReader_readText_17 : decode prog_6_method_9_code 17 = .ok (.sipush 255, 3) := by decide +kernel
theorem d_RecordReader_readText_20 : decode prog_6_method_9_code 20 = .ok (.if_icmp .gt 91, 3) := by decide +kernel
theorem d_RecordReader_readText_23 : decode prog_6_method_9_code 23 = .ok (.aload_n 0, 1) := by decide +kernel
theorem d_RecordReader_readText_24 : decode prog_6_method_9_code 24 = .ok (.getfield 15, 3) := by decide +kernel
theorem d_RecordReader_readText_27 : decode prog_6_method_9_code 27 = .ok (.invokevirtual 141, 3) := by decide +kernel
theorem d_RecordReader_readText_30 : decode prog_6_method_9_code 30 = .ok (.istore_n 2, 1) := by decide +kernel
theorem d_RecordReader_readText_31 : decode prog_6_method_9_code 31 = .ok (.iload_n 2, 1) := by decide +kernel
theorem d_RecordReader_readText_32 : decode prog_6_method_9_code 32 = .ok (.bipush 39, 2) := by decide +kernel
theorem d_RecordReader_readText_34 : decode prog_6_method_9_code 34 = .ok (.if_icmp .ne 13, 3) := by decide +kernel
theorem d_RecordReader_readText_37 : decode prog_6_method_9_code 37 = .ok (.aload_n 0, 1) := by decide +kernel
theorem d_RecordReader_readText_38 : decode prog_6_method_9_code 38 = .ok (.getfield 15, 3) := by decide +kernel
theorem d_RecordReader_readText_41 : decode prog_6_method_9_code 41 = .ok (.iconst 1, 1) := by decide +kernel
theorem d_RecordReader_readText_42 : decode prog_6_method_9_code 42 = .ok (.invokevirtual 144, 3) := by decide +kernel
theorem d_RecordReader_readText_45 : decode prog_6_method_9_code 45 = .ok (.iload_n 1, 1) := by decide +kernel
theorem d_RecordReader_readText_46 : decode prog_6_method_9_code 46 = .ok (.ireturn, 1) := by decide +kernel
theorem d_RecordReader_readText_47 : decode prog_6_method_9_code 47 = .ok (.iload_n 2, 1) := by decide +kernel
theorem d_RecordReader_readText_48 : decode prog_6_method_9_code 48 = .ok (.iconst (-1), 1) := by decide +kernel
theorem d_RecordReader_readText_49 : decode prog_6_method_9_code 49 = .ok (.if_icmp .eq 12, 3) := by decide +kernel
theorem d_RecordReader_readText_52 : decode prog_6_method_9_code 52 = .ok (.iload_n 1, 1) := by decide +kernel
theorem d_RecordReader_readText_53 : decode prog_6_method_9_code 53 = .ok (.aload_n 0, 1) := by decide +kernel
theorem d_RecordReader_readText_54 : decode prog_6_method_9_code 54 = .ok (.getfield 9, 3) := by decide +kernel
theorem d_RecordReader_readText_57 : decode prog_6_method_9_code 57 = .ok (.arraylength, 1) := by decide +kernel
theorem d_RecordReader_readText_58 : decode prog_6_method_9_code 58 = .ok (.if_icmp .lt 13, 3) := by decide +kernel
theorem d_RecordReader_readText_61 : decode prog_6_method_9_code 61 = .ok (.aload_n 0, 1) := by decide +kernel
theorem d_RecordReader_readText_62 : decode prog_6_method_9_code 62 = .ok (.getfield 15, 3) := by decide +kernel
theorem d_RecordReader_readText_65 : decode prog_6_method_9_code 65 = .ok (.invokevirtual 27, 3) := by decide +kernel
theorem d_RecordReader_readText_68 : decode prog_6_method_9_code 68 = .ok (.pop, 1) := by decide +kernel
theorem d_RecordReader_readText_69 : decode prog_6_method_9_code 69 = .ok (.iconst (-1), 1) := by decide +kernel
theorem d_RecordReader_readText_70 : decode prog_6_method_9_code 70 = .ok (.ireturn, 1) := by decide +kernel
theorem d_RecordReader_readText_71 : decode prog_6_method_9_code 71 = .ok (.iload_n 2, 1) := by decide +kernel
theorem d_RecordReader_readText_72 : decode prog_6_method_9_code 72 = .ok (.bipush 92, 2) := by decide +kernel
theorem d_RecordReader_readText_74 : decode prog_6_method_9_code 74 = .ok (.if_icmp .ne 10, 3) := by decide +kernel
theorem d_RecordReader_readText_77 : decode prog_6_method_9_code 77 = .ok (.aload_n 0, 1) := by decide +kernel
theorem d_RecordReader_readText_78 : decode prog_6_method_9_code 78 = .ok (.invokevirtual 157, 3) := by decide +kernel
theorem d_RecordReader_readText_81 : decode prog_6_method_9_code 81 = .ok (.goto 8, 3) := by decide +kernel
theorem d_RecordReader_readText_84 : decode prog_6_method_9_code 84 = .ok (.aload_n 0, 1) := by decide +kernel
theorem d_RecordReader_readText_85 : decode prog_6_method_9_code 85 = .ok (.iload_n 2, 1) := by decide +kernel
theorem d_RecordReader_readText_86 : decode prog_6_method_9_code 86 = .ok (.invokevirtual 160, 3) := by decide +kernel
theorem d_RecordReader_readText_89 : decode prog_6_method_9_code 89 = .ok (.istore_n 3, 1) := by decide +kernel
theorem d_RecordReader_readText_90 : decode prog_6_method_9_code 90 = .ok (.iload_n 3, 1) := by decide +kernel
theorem d_RecordReader_readText_91 : decode prog_6_method_9_code 91 = .ok (.iconst (-1), 1) := by decide +kernel
theorem d_RecordReader_readText_92 : decode prog_6_method_9_code 92 = .ok (.if_icmp .ne 5, 3) := by decide +kernel
theorem d_RecordReader_readText_95 : decode prog_6_method_9_code 95 = .ok (.iconst (-1), 1) := by decide +kernel
theorem d_RecordReader_readText_96 : decode prog_6_method_9_code 96 = .ok (.ireturn, 1) := by decide +kernel
theorem d_RecordReader_readText_97 : decode prog_6_method_9_code 97 = .ok (.aload_n 0, 1) := by decide +kernel
theorem d_RecordReader_readText_98 : decode prog_6_method_9_code 98 = .ok (.getfield 9, 3) := by decide +kernel
theorem d_RecordReader_readText_101 : decode prog_6_method_9_code 101 = .ok (.iload_n 1, 1) := by decide +kernel
theorem d_RecordReader_readText_102 : decode prog_6_method_9_code 102 = .ok (.iload_n 3, 1) := by decide +kernel
theorem d_RecordReader_readText_103 : decode prog_6_method_9_code 103 = .ok (.i2b, 1) := by decide +kernel
theorem d_RecordReader_readText_104 : decode prog_6_method_9_code 104 = .ok (.bastore, 1) := by decide +kernel
theorem d_RecordReader_readText_105 : decode prog_6_method_9_code 105 = .ok (.iinc 1 1, 3) := by decide +kernel
theorem d_RecordReader_readText_108 : decode prog_6_method_9_code 108 = .ok (.goto (-92), 3) := by decide +kernel
theorem d_RecordReader_readText_111 : decode prog_6_method_9_code 111 = .ok (.iconst (-1), 1) := by decide +kernel
theorem d_RecordReader_readText_112 : decode prog_6_method_9_code 112 = .ok (.ireturn, 1) := by decide +kernel
theorem d_RecordReader_readEscape_0 : decode prog_6_method_11_code 0 = .ok (.aload_n 0, 1) := by decide +kernel
theorem d_RecordReader_readEscape_1 : decode prog_6_method_11_code 1 = .ok (.getfield 15, 3) := by decide +kernel
theorem d_RecordReader_readEscape_4 : decode prog_6_method_11_code 4 = .ok (.aload_n 0, 1) := by decide +kernel
theorem d_RecordReader_readEscape_5 : decode prog_6_method_11_code 5 = .ok (.getfield 15, 3) := by decide +kernel
theorem d_RecordReader_readEscape_8 : decode prog_6_method_11_code 8 = .ok (.getfield 81, 3) := by decide +kernel
theorem d_RecordReader_readEscape_11 : decode prog_6_method_11_code 11 = .ok (.iconst 1, 1) := by decide +kernel
theorem d_RecordReader_readEscape_12 : decode prog_6_method_11_code 12 = .ok (.iadd, 1) := by decide +kernel
theorem d_RecordReader_readEscape_13 : decode prog_6_method_11_code 13 = .ok (.invokevirtual 151, 3) := by decide +kernel
theorem d_RecordReader_readEscape_16 : decode prog_6_method_11_code 16 = .ok (.istore_n 1, 1) := by decide +kernel
theorem d_RecordReader_readEscape_17 : decode prog_6_method_11_code 17 = .ok (.iload_n 1, 1) := by decide +kernel
theorem d_RecordReader_readEscape_18 : decode prog_6_method_11_code 18 = .ok (.bipush 39, 2) := by decide +kernel
theorem d_RecordReader_readEscape_20 : decode prog_6_method_11_code 20 = .ok (.if_icmp .eq 9, 3) := by decide +kernel
theorem d_RecordReader_readEscape_23 : decode prog_6_method_11_code 23 = .ok (.iload_n 1, 1) := by decide +kernel
theorem d_RecordReader_readEscape_24 : decode prog_6_method_11_code 24 = .ok (.bipush 92, 2) := by decide +kernel
theorem d_RecordReader_readEscape_26 : decode prog_6_method_11_code 26 = .ok (.if_icmp .ne 13, 3) := by decide +kernel
theorem d_RecordReader_readEscape_29 : decode prog_6_method_11_code 29 = .ok (.aload_n 0, 1) := by decide +kernel
theorem d_RecordReader_readEscape_30 : decode prog_6_method_11_code 30 = .ok (.getfield 15, 3) := by decide +kernel
theorem d_RecordReader_readEscape_33 : decode prog_6_method_11_code 33 = .ok (.iconst 2, 1) := by decide +kernel
theorem d_RecordReader_readEscape_34 : decode prog_6_method_11_code 34 = .ok (.invokevirtual 144, 3) := by decide +kernel
theorem d_RecordReader_readEscape_37 : decode prog_6_method_11_code 37 = .ok (.iload_n 1, 1) := by decide +kernel
theorem d_RecordReader_readEscape_38 : decode prog_6_method_11_code 38 = .ok (.ireturn, 1) := by decide +kernel
theorem d_RecordReader_readEscape_39 : decode prog_6_method_11_code 39 = .ok (.iload_n 1, 1) := by decide +kernel
theorem d_RecordReader_readEscape_40 : decode prog_6_method_11_code 40 = .ok (.bipush 120, 2) := by decide +kernel
theorem d_RecordReader_readEscape_42 : decode prog_6_method_11_code 42 = .ok (.if_icmp .eq 9, 3) := by decide +kernel
theorem d_RecordReader_readEscape_45 : decode prog_6_method_11_code 45 = .ok (.aload_n 0, 1) := by decide +kernel
theorem d_RecordReader_readEscape_46 : decode prog_6_method_11_code 46 = .ok (.iload_n 1, 1) := by decide +kernel
theorem d_RecordReader_readEscape_47 : decode prog_6_method_11_code 47 = .ok (.invokevirtual 163, 3) := by decide +kernel
theorem d_RecordReader_readEscape_50 : decode prog_6_method_11_code 50 = .ok (.ireturn, 1) := by decide +kernel
theorem d_RecordReader_readEscape_51 : decode prog_6_method_11_code 51 = .ok (.aload_n 0, 1) := by decide +kernel
theorem d_RecordReader_readEscape_52 : decode prog_6_method_11_code 52 = .ok (.getfield 15, 3) := by decide +kernel
theorem d_RecordReader_readEscape_55 : decode prog_6_method_11_code 55 = .ok (.aload_n 0, 1) := by decide +kernel
theorem d_RecordReader_readEscape_56 : decode prog_6_method_11_code 56 = .ok (.getfield 15, 3) := by decide +kernel
theorem d_RecordReader_readEscape_59 : decode prog_6_method_11_code 59 = .ok (.getfield 81, 3) := by decide +kernel
theorem d_RecordReader_readEscape_62 : decode prog_6_method_11_code 62 = .ok (.iconst 2, 1) := by decide +kernel
theorem d_RecordReader_readEscape_63 : decode prog_6_method_11_code 63 = .ok (.iadd, 1) := by decide +kernel
theorem d_RecordReader_readEscape_64 : decode prog_6_method_11_code 64 = .ok (.invokevirtual 151, 3) := by decide +kernel
theorem d_RecordReader_readEscape_67 : decode prog_6_method_11_code 67 = .ok (.istore_n 2, 1) := by decide +kernel
theorem d_RecordReader_readEscape_68 : decode prog_6_method_11_code 68 = .ok (.iload_n 2, 1) := by decide +kernel
theorem d_RecordReader_readEscape_69 : decode prog_6_method_11_code 69 = .ok (.invokestatic 166, 3) := by decide +kernel
theorem d_RecordReader_readEscape_72 : decode prog_6_method_11_code 72 = .ok (.iconst (-1), 1) := by decide +kernel
theorem d_RecordReader_readEscape_73 : decode prog_6_method_11_code 73 = .ok (.if_icmp .ne 9, 3) := by decide +kernel
theorem d_RecordReader_readEscape_76 : decode prog_6_method_11_code 76 = .ok (.aload_n 0, 1) := by decide +kernel
theorem d_RecordReader_readEscape_77 : decode prog_6_method_11_code 77 = .ok (.iload_n 2, 1) := by decide +kernel
theorem d_RecordReader_readEscape_78 : decode prog_6_method_11_code 78 = .ok (.invokevirtual 163, 3) := by decide +kernel
theorem d_RecordReader_readEscape_81 : decode prog_6_method_11_code 81 = .ok (.ireturn, 1) := by decide +kernel
theorem d_RecordReader_readEscape_82 : decode prog_6_method_11_code 82 = .ok (.aload_n 0, 1) := by decide +kernel
theorem d_RecordReader_readEscape_83 : decode prog_6_method_11_code 83 = .ok (.getfield 15, 3) := by decide +kernel
theorem d_RecordReader_readEscape_86 : decode prog_6_method_11_code 86 = .ok (.aload_n 0, 1) := by decide +kernel
theorem d_RecordReader_readEscape_87 : decode prog_6_method_11_code 87 = .ok (.getfield 15, 3) := by decide +kernel
theorem d_RecordReader_readEscape_90 : decode prog_6_method_11_code 90 = .ok (.getfield 81, 3) := by decide +kernel
theorem d_RecordReader_readEscape_93 : decode prog_6_method_11_code 93 = .ok (.iconst 3, 1) := by decide +kernel
theorem d_RecordReader_readEscape_94 : decode prog_6_method_11_code 94 = .ok (.iadd, 1) := by decide +kernel
theorem d_RecordReader_readEscape_95 : decode prog_6_method_11_code 95 = .ok (.invokevirtual 151, 3) := by decide +kernel
theorem d_RecordReader_readEscape_98 : decode prog_6_method_11_code 98 = .ok (.istore_n 3, 1) := by decide +kernel
theorem d_RecordReader_readEscape_99 : decode prog_6_method_11_code 99 = .ok (.iload_n 3, 1) := by decide +kernel
theorem d_RecordReader_readEscape_100 : decode prog_6_method_11_code 100 = .ok (.invokestatic 166, 3) := by decide +kernel
theorem d_RecordReader_readEscape_103 : decode prog_6_method_11_code 103 = .ok (.iconst (-1), 1) := by decide +kernel
theorem d_RecordReader_readEscape_104 : decode prog_6_method_11_code 104 = .ok (.if_icmp .ne 9, 3) := by decide +kernel
theorem d_RecordReader_readEscape_107 : decode prog_6_method_11_code 107 = .ok (.aload_n 0, 1) := by decide +kernel
theorem d_RecordReader_readEscape_108 : decode prog_6_method_11_code 108 = .ok (.iload_n 3, 1) := by decide +kernel
theorem d_RecordReader_readEscape_109 : decode prog_6_method_11_code 109 = .ok (.invokevirtual 163, 3) := by decide +kernel
theorem d_RecordReader_readEscape_112 : decode prog_6_method_11_code 112 = .ok (.ireturn, 1) := by decide +kernel
theorem d_RecordReader_readEscape_113 : decode prog_6_method_11_code 113 = .ok (.aload_n 0, 1) := by decide +kernel
theorem d_RecordReader_readEscape_114 : decode prog_6_method_11_code 114 = .ok (.getfield 15, 3) := by decide +kernel
theorem d_RecordReader_readEscape_117 : decode prog_6_method_11_code 117 = .ok (.iconst 4, 1) := by decide +kernel
theorem d_RecordReader_readEscape_118 : decode prog_6_method_11_code 118 = .ok (.invokevirtual 144, 3) := by decide +kernel
theorem d_RecordReader_readEscape_121 : decode prog_6_method_11_code 121 = .ok (.iload_n 2, 1) := by decide +kernel
theorem d_RecordReader_readEscape_122 : decode prog_6_method_11_code 122 = .ok (.invokestatic 166, 3) := by decide +kernel
theorem d_RecordReader_readEscape_125 : decode prog_6_method_11_code 125 = .ok (.bipush 16, 2) := by decide +kernel
theorem d_RecordReader_readEscape_127 : decode prog_6_method_11_code 127 = .ok (.imul, 1) := by decide +kernel
theorem d_RecordReader_readEscape_128 : decode prog_6_method_11_code 128 = .ok (.iload_n 3, 1) := by decide +kernel
theorem d_RecordReader_readEscape_129 : decode prog_6_method_11_code 129 = .ok (.invokestatic 166, 3) := by decide +kernel
theorem d_RecordReader_readEscape_132 : decode prog_6_method_11_code 132 = .ok (.iadd, 1) := by decide +kernel
theorem d_RecordReader_readEscape_133 : decode prog_6_method_11_code 133 = .ok (.ireturn, 1) := by decide +kernel
theorem d_RecordReader_failEscape_0 : decode prog_6_method_12_code 0 = .ok (.aload_n 0, 1) := by decide +kernel
theorem d_RecordReader_failEscape_1 : decode prog_6_method_12_code 1 = .ok (.getfield 15, 3) := by decide +kernel
theorem d_RecordReader_failEscape_4 : decode prog_6_method_12_code 4 = .ok (.iload_n 1, 1) := by decide +kernel
theorem d_RecordReader_failEscape_5 : decode prog_6_method_12_code 5 = .ok (.iconst (-1), 1) := by decide +kernel
theorem d_RecordReader_failEscape_6 : decode prog_6_method_12_code 6 = .ok (.if_icmp .ne 13, 3) := by decide +kernel
theorem d_RecordReader_failEscape_9 : decode prog_6_method_12_code 9 = .ok (.aload_n 0, 1) := by decide +kernel
theorem d_RecordReader_failEscape_10 : decode prog_6_method_12_code 10 = .ok (.getfield 15, 3) := by decide +kernel
theorem d_RecordReader_failEscape_13 : decode prog_6_method_12_code 13 = .ok (.getfield 169, 3) := by decide +kernel
theorem d_RecordReader_failEscape_16 : decode prog_6_method_12_code 16 = .ok (.goto 10, 3) := by decide +kernel
theorem d_RecordReader_failEscape_19 : decode prog_6_method_12_code 19 = .ok (.aload_n 0, 1) := by decide +kernel
theorem d_RecordReader_failEscape_20 : decode prog_6_method_12_code 20 = .ok (.getfield 15, 3) := by decide +kernel
theorem d_RecordReader_failEscape_23 : decode prog_6_method_12_code 23 = .ok (.getfield 81, 3) := by decide +kernel
theorem d_RecordReader_failEscape_26 : decode prog_6_method_12_code 26 = .ok (.invokevirtual 130, 3) := by decide +kernel
theorem d_RecordReader_failEscape_29 : decode prog_6_method_12_code 29 = .ok (.pop, 1) := by decide +kernel
theorem d_RecordReader_failEscape_30 : decode prog_6_method_12_code 30 = .ok (.iconst (-1), 1) := by decide +kernel
theorem d_RecordReader_failEscape_31 : decode prog_6_method_12_code 31 = .ok (.ireturn, 1) := by decide +kernel
theorem d_RecordReader_hexDigit_0 : decode prog_6_method_13_code 0 = .ok (.iload_n 0, 1) := by decide +kernel
theorem d_RecordReader_hexDigit_1 : decode prog_6_method_13_code 1 = .ok (.invokestatic 148, 3) := by decide +kernel
theorem d_RecordReader_hexDigit_4 : decode prog_6_method_13_code 4 = .ok (.ifCond .eq 8, 3) := by decide +kernel
theorem d_RecordReader_hexDigit_7 : decode prog_6_method_13_code 7 = .ok (.iload_n 0, 1) := by decide +kernel
theorem d_RecordReader_hexDigit_8 : decode prog_6_method_13_code 8 = .ok (.bipush 48, 2) := by decide +kernel
theorem d_RecordReader_hexDigit_10 : decode prog_6_method_13_code 10 = .ok (.isub, 1) := by decide +kernel
theorem d_RecordReader_hexDigit_11 : decode prog_6_method_13_code 11 = .ok (.ireturn, 1) := by decide +kernel
theorem d_RecordReader_hexDigit_12 : decode prog_6_method_13_code 12 = .ok (.iload_n 0, 1) := by decide +kernel
theorem d_RecordReader_hexDigit_13 : decode prog_6_method_13_code 13 = .ok (.bipush 97, 2) := by decide +kernel
theorem d_RecordReader_hexDigit_15 : decode prog_6_method_13_code 15 = .ok (.if_icmp .lt 19, 3) := by decide +kernel
theorem d_RecordReader_hexDigit_18 : decode prog_6_method_13_code 18 = .ok (.iload_n 0, 1) := by decide +kernel
theorem d_RecordReader_hexDigit_19 : decode prog_6_method_13_code 19 = .ok (.bipush 102, 2) := by decide +kernel
theorem d_RecordReader_hexDigit_21 : decode prog_6_method_13_code 21 = .ok (.if_icmp .gt 13, 3) := by decide +kernel
theorem d_RecordReader_hexDigit_24 : decode prog_6_method_13_code 24 = .ok (.iload_n 0, 1) := by decide +kernel
theorem d_RecordReader_hexDigit_25 : decode prog_6_method_13_code 25 = .ok (.bipush 97, 2) := by decide +kernel
theorem d_RecordReader_hexDigit_27 : decode prog_6_method_13_code 27 = .ok (.isub, 1) := by decide +kernel
theorem d_RecordReader_hexDigit_28 : decode prog_6_method_13_code 28 = .ok (.bipush 10, 2) := by decide +kernel
theorem d_RecordReader_hexDigit_30 : decode prog_6_method_13_code 30 = .ok (.iadd, 1) := by decide +kernel
theorem d_RecordReader_hexDigit_31 : decode prog_6_method_13_code 31 = .ok (.goto 4, 3) := by decide +kernel
theorem d_RecordReader_hexDigit_34 : decode prog_6_method_13_code 34 = .ok (.iconst (-1), 1) := by decide +kernel
theorem d_RecordReader_hexDigit_35 : decode prog_6_method_13_code 35 = .ok (.ireturn, 1) := by decide +kernel
theorem d_RecordReader_readPlain_0 : decode prog_6_method_10_code 0 = .ok (.iload_n 1, 1) := by decide +kernel
theorem d_RecordReader_readPlain_1 : decode prog_6_method_10_code 1 = .ok (.bipush 32, 2) := by decide +kernel
theorem d_RecordReader_readPlain_3 : decode prog_6_method_10_code 3 = .ok (.if_icmp .lt 9, 3) := by decide +kernel
theorem d_RecordReader_readPlain_6 : decode prog_6_method_10_code 6 = .ok (.iload_n 1, 1) := by decide +kernel
theorem d_RecordReader_readPlain_7 : decode prog_6_method_10_code 7 = .ok (.bipush 126, 2) := by decide +kernel
theorem d_RecordReader_readPlain_9 : decode prog_6_method_10_code 9 = .ok (.if_icmp .le 13, 3) := by decide +kernel
theorem d_RecordReader_readPlain_12 : decode prog_6_method_10_code 12 = .ok (.aload_n 0, 1) := by decide +kernel
theorem d_RecordReader_readPlain_13 : decode prog_6_method_10_code 13 = .ok (.getfield 15, 3) := by decide +kernel
theorem d_RecordReader_readPlain_16 : decode prog_6_method_10_code 16 = .ok (.invokevirtual 27, 3) := by decide +kernel
theorem d_RecordReader_readPlain_19 : decode prog_6_method_10_code 19 = .ok (.pop, 1) := by decide +kernel
theorem d_RecordReader_readPlain_20 : decode prog_6_method_10_code 20 = .ok (.iconst (-1), 1) := by decide +kernel
theorem d_RecordReader_readPlain_21 : decode prog_6_method_10_code 21 = .ok (.ireturn, 1) := by decide +kernel
theorem d_RecordReader_readPlain_22 : decode prog_6_method_10_code 22 = .ok (.aload_n 0, 1) := by decide +kernel
theorem d_RecordReader_readPlain_23 : decode prog_6_method_10_code 23 = .ok (.getfield 15, 3) := by decide +kernel
theorem d_RecordReader_readPlain_26 : decode prog_6_method_10_code 26 = .ok (.iconst 1, 1) := by decide +kernel
theorem d_RecordReader_readPlain_27 : decode prog_6_method_10_code 27 = .ok (.invokevirtual 144, 3) := by decide +kernel
theorem d_RecordReader_readPlain_30 : decode prog_6_method_10_code 30 = .ok (.iload_n 1, 1) := by decide +kernel
theorem d_RecordReader_readPlain_31 : decode prog_6_method_10_code 31 = .ok (.ireturn, 1) := by decide +kernel
theorem d_RecordWriter_init_0 : decode prog_7_method_1_code 0 = .ok (.aload_n 0, 1) := by decide +kernel
theorem d_RecordWriter_init_1 : decode prog_7_method_1_code 1 = .ok (.invokespecial 3, 3) := by decide +kernel
theorem d_RecordWriter_init_4 : decode prog_7_method_1_code 4 = .ok (.aload_n 0, 1) := by decide +kernel
theorem d_RecordWriter_init_5 : decode prog_7_method_1_code 5 = .ok (.aload_n 1, 1) := by decide +kernel
theorem d_RecordWriter_init_6 : decode prog_7_method_1_code 6 = .ok (.putfield 9, 3) := by decide +kernel
theorem d_RecordWriter_init_9 : decode prog_7_method_1_code 9 = .ok (.aload_n 0, 1) := by decide +kernel
theorem d_RecordWriter_init_10 : decode prog_7_method_1_code 10 = .ok (.aload_n 2, 1) := by decide +kernel
theorem d_RecordWriter_init_11 : decode prog_7_method_1_code 11 = .ok (.putfield 15, 3) := by decide +kernel
theorem d_RecordWriter_init_14 : decode prog_7_method_1_code 14 = .ok (.aload_n 0, 1) := by decide +kernel
theorem d_RecordWriter_init_15 : decode prog_7_method_1_code 15 = .ok (.aload_n 3, 1) := by decide +kernel
theorem d_RecordWriter_init_16 : decode prog_7_method_1_code 16 = .ok (.putfield 19, 3) := by decide +kernel
theorem d_RecordWriter_init_19 : decode prog_7_method_1_code 19 = .ok (.return_, 1) := by decide +kernel
theorem d_RecordWriter_putMembers_0 : decode prog_7_method_2_code 0 = .ok (.aload_n 0, 1) := by decide +kernel
theorem d_RecordWriter_putMembers_1 : decode prog_7_method_2_code 1 = .ok (.getfield 15, 3) := by decide +kernel
theorem d_RecordWriter_putMembers_4 : decode prog_7_method_2_code 4 = .ok (.iload_n 1, 1) := by decide +kernel
theorem d_RecordWriter_putMembers_5 : decode prog_7_method_2_code 5 = .ok (.invokevirtual 23, 3) := by decide +kernel
theorem d_RecordWriter_putMembers_8 : decode prog_7_method_2_code 8 = .ok (.astore_n 3, 1) := by decide +kernel
theorem d_RecordWriter_putMembers_9 : decode prog_7_method_2_code 9 = .ok (.aload_n 3, 1) := by decide +kernel
theorem d_RecordWriter_putMembers_10 : decode prog_7_method_2_code 10 = .ok (.ifnull 9, 3) := by decide +kernel
theorem d_RecordWriter_putMembers_13 : decode prog_7_method_2_code 13 = .ok (.iload_n 2, 1) := by decide +kernel
theorem d_RecordWriter_putMembers_14 : decode prog_7_method_2_code 14 = .ok (.bipush 16, 2) := by decide +kernel
theorem d_RecordWriter_putMembers_16 : decode prog_7_method_2_code 16 = .ok (.if_icmp .le 7, 3) := by decide +kernel
theorem d_RecordWriter_putMembers_19 : decode prog_7_method_2_code 19 = .ok (.iload_n 1, 1) := by decide +kernel
theorem d_RecordWriter_putMembers_20 : decode prog_7_method_2_code 20 = .ok (.iconst 1, 1) := by decide +kernel
theorem d_RecordWriter_putMembers_21 : decode prog_7_method_2_code 21 = .ok (.iadd, 1) := by decide +kernel
theorem d_RecordWriter_putMembers_22 : decode prog_7_method_2_code 22 = .ok (.ireturn, 1) := by decide +kernel
theorem d_RecordWriter_putMembers_23 : decode prog_7_method_2_code 23 = .ok (.aload_n 0, 1) := by decide +kernel
theorem d_RecordWriter_putMembers_24 : decode prog_7_method_2_code 24 = .ok (.getfield 19, 3) := by decide +kernel
theorem d_RecordWriter_putMembers_27 : decode prog_7_method_2_code 27 = .ok (.bipush 123, 2) := by decide +kernel
theorem d_RecordWriter_putMembers_29 : decode prog_7_method_2_code 29 = .ok (.invokevirtual 29, 3) := by decide +kernel
theorem d_RecordWriter_putMembers_32 : decode prog_7_method_2_code 32 = .ok (.iload_n 1, 1) := by decide +kernel
theorem d_RecordWriter_putMembers_33 : decode prog_7_method_2_code 33 = .ok (.iconst 1, 1) := by decide +kernel
theorem d_RecordWriter_putMembers_34 : decode prog_7_method_2_code 34 = .ok (.iadd, 1) := by decide +kernel
theorem d_RecordWriter_putMembers_35 : decode prog_7_method_2_code 35 = .ok (.istore 4, 2) := by decide +kernel
theorem d_RecordWriter_putMembers_37 : decode prog_7_method_2_code 37 = .ok (.aconst_null, 1) := by decide +kernel
theorem d_RecordWriter_putMembers_38 : decode prog_7_method_2_code 38 = .ok (.astore 5, 2) := by decide +kernel
theorem d_RecordWriter_putMembers_40 : decode prog_7_method_2_code 40 = .ok (.iconst 0, 1) := by decide +kernel
theorem d_RecordWriter_putMembers_41 : decode prog_7_method_2_code 41 = .ok (.istore 6, 2) := by decide +kernel
theorem d_RecordWriter_putMembers_43 : decode prog_7_method_2_code 43 = .ok (.iload 6, 2) := by decide +kernel
theorem d_RecordWriter_putMembers_45 : decode prog_7_method_2_code 45 = .ok (.aload_n 3, 1) := by decide +kernel
theorem d_RecordWriter_putMembers_46 : decode prog_7_method_2_code 46 = .ok (.getfield 35, 3) := by decide +kernel
theorem d_RecordWriter_putMembers_49 : decode prog_7_method_2_code 49 = .ok (.if_icmp .ge 96, 3) := by decide +kernel
theorem d_RecordWriter_putMembers_52 : decode prog_7_method_2_code 52 = .ok (.aload_n 0, 1) := by decide +kernel
theorem d_RecordWriter_putMembers_53 : decode prog_7_method_2_code 53 = .ok (.getfield 15, 3) := by decide +kernel
theorem d_RecordWriter_putMembers_56 : decode prog_7_method_2_code 56 = .ok (.iload 4, 2) := by decide +kernel
theorem d_RecordWriter_putMembers_58 : decode prog_7_method_2_code 58 = .ok (.invokevirtual 23, 3) := by decide +kernel
theorem d_RecordWriter_putMembers_61 : decode prog_7_method_2_code 61 = .ok (.astore 7, 2) := by decide +kernel
theorem d_RecordWriter_putMembers_63 : decode prog_7_method_2_code 63 = .ok (.aload 7, 2) := by decide +kernel
theorem d_RecordWriter_putMembers_65 : decode prog_7_method_2_code 65 = .ok (.ifnonnull 7, 3) := by decide +kernel
theorem d_RecordWriter_putMembers_68 : decode prog_7_method_2_code 68 = .ok (.aconst_null, 1) := by decide +kernel
theorem d_RecordWriter_putMembers_69 : decode prog_7_method_2_code 69 = .ok (.goto 15, 3) := by decide +kernel
theorem d_RecordWriter_putMembers_72 : decode prog_7_method_2_code 72 = .ok (.aload_n 0, 1) := by decide +kernel
theorem d_RecordWriter_putMembers_73 : decode prog_7_method_2_code 73 = .ok (.getfield 9, 3) := by decide +kernel
theorem d_RecordWriter_putMembers_76 : decode prog_7_method_2_code 76 = .ok (.aload 7, 2) := by decide +kernel
theorem d_RecordWriter_putMembers_78 : decode prog_7_method_2_code 78 = .ok (.getfield 41, 3) := by decide +kernel
theorem d_RecordWriter_putMembers_81 : decode prog_7_method_2_code 81 = .ok (.invokevirtual 44, 3) := by decide +kernel
theorem d_RecordWriter_putMembers_84 : decode prog_7_method_2_code 84 = .ok (.astore 8, 2) := by decide +kernel
theorem d_RecordWriter_putMembers_86 : decode prog_7_method_2_code 86 = .ok (.aload 8, 2) := by decide +kernel
theorem d_RecordWriter_putMembers_88 : decode prog_7_method_2_code 88 = .ok (.ifnonnull 6, 3) := by decide +kernel
theorem d_RecordWriter_putMembers_91 : decode prog_7_method_2_code 91 = .ok (.iload 4, 2) := by decide +kernel
theorem d_RecordWriter_putMembers_93 : decode prog_7_method_2_code 93 = .ok (.ireturn, 1) := by decide +kernel
theorem d_RecordWriter_putMembers_94 : decode prog_7_method_2_code 94 = .ok (.aload_n 0, 1) := by decide +kernel
theorem d_RecordWriter_putMembers_95 : decode prog_7_method_2_code 95 = .ok (.aload 5, 2) := by decide +kernel
theorem d_RecordWriter_putMembers_97 : decode prog_7_method_2_code 97 = .ok (.aload 8, 2) := by decide +kernel
theorem d_RecordWriter_putMembers_99 : decode prog_7_method_2_code 99 = .ok (.invokevirtual 50, 3) := by decide +kernel
theorem d_RecordWriter_putMembers_102 : decode prog_7_method_2_code 102 = .ok (.aload 8, 2) := by decide +kernel
theorem d_RecordWriter_putMembers_104 : decode prog_7_method_2_code 104 = .ok (.getfield 54, 3) := by decide +kernel
theorem d_RecordWriter_putMembers_107 : decode prog_7_method_2_code 107 = .ok (.iconst 4, 1) := by decide +kernel
theorem d_RecordWriter_putMembers_108 : decode prog_7_method_2_code 108 = .ok (.if_icmp .ne 15, 3) := by decide +kernel
theorem d_RecordWriter_putMembers_111 : decode prog_7_method_2_code 111 = .ok (.aload_n 0, 1) := by decide +kernel
theorem d_RecordWriter_putMembers_112 : decode prog_7_method_2_code 112 = .ok (.iload 4, 2) := by decide +kernel
theorem d_RecordWriter_putMembers_114 : decode prog_7_method_2_code 114 = .ok (.iload_n 2, 1) := by decide +kernel
theorem d_RecordWriter_putMembers_115 : decode prog_7_method_2_code 115 = .ok (.iconst 1, 1) := by decide +kernel
theorem d_RecordWriter_putMembers_116 : decode prog_7_method_2_code 116 = .ok (.iadd, 1) := by decide +kernel
theorem d_RecordWriter_putMembers_117 : decode prog_7_method_2_code 117 = .ok (.invokevirtual 59, 3) := by decide +kernel
theorem d_RecordWriter_putMembers_120 : decode prog_7_method_2_code 120 = .ok (.goto 13, 3) := by decide +kernel
theorem d_RecordWriter_putMembers_123 : decode prog_7_method_2_code 123 = .ok (.aload_n 0, 1) := by decide +kernel
theorem d_RecordWriter_putMembers_124 : decode prog_7_method_2_code 124 = .ok (.iload 4, 2) := by decide +kernel
theorem d_RecordWriter_putMembers_126 : decode prog_7_method_2_code 126 = .ok (.aload 7, 2) := by decide +kernel
theorem d_RecordWriter_putMembers_128 : decode prog_7_method_2_code 128 = .ok (.aload 8, 2) := by decide +kernel
theorem d_RecordWriter_putMembers_130 : decode prog_7_method_2_code 130 = .ok (.invokevirtual 63, 3) := by decide +kernel
theorem d_RecordWriter_putMembers_133 : decode prog_7_method_2_code 133 = .ok (.istore 4, 2) := by decide +kernel
theorem d_RecordWriter_putMembers_135 : decode prog_7_method_2_code 135 = .ok (.aload 8, 2) := by decide +kernel
theorem d_RecordWriter_putMembers_137 : decode prog_7_method_2_code 137 = .ok (.astore 5, 2) := by decide +kernel
theorem d_RecordWriter_putMembers_139 : decode prog_7_method_2_code 139 = .ok (.iinc 6 1, 3) := by decide +kernel
theorem d_RecordWriter_putMembers_142 : decode prog_7_method_2_code 142 = .ok (.goto (-99), 3) := by decide +kernel
theorem d_RecordWriter_putMembers_145 : decode prog_7_method_2_code 145 = .ok (.aload_n 0, 1) := by decide +kernel
theorem d_RecordWriter_putMembers_146 : decode prog_7_method_2_code 146 = .ok (.aload 5, 2) := by decide +kernel
theorem d_RecordWriter_putMembers_148 : decode prog_7_method_2_code 148 = .ok (.invokevirtual 67, 3) := by decide +kernel
theorem d_RecordWriter_putMembers_151 : decode prog_7_method_2_code 151 = .ok (.aload_n 0, 1) := by decide +kernel
theorem d_RecordWriter_putMembers_152 : decode prog_7_method_2_code 152 = .ok (.getfield 19, 3) := by decide +kernel
theorem d_RecordWriter_putMembers_155 : decode prog_7_method_2_code 155 = .ok (.bipush 125, 2) := by decide +kernel
theorem d_RecordWriter_putMembers_157 : decode prog_7_method_2_code 157 = .ok (.invokevirtual 29, 3) := by decide +kernel
theorem d_RecordWriter_putMembers_160 : decode prog_7_method_2_code 160 = .ok (.iload 4, 2) := by decide +kernel
theorem d_RecordWriter_putMembers_162 : decode prog_7_method_2_code 162 = .ok (.ireturn, 1) := by decide +kernel
theorem d_RecordWriter_putBetween_0 : decode prog_7_method_3_code 0 = .ok (.aload_n 1, 1) := by decide +kernel
theorem d_RecordWriter_putBetween_1 : decode prog_7_method_3_code 1 = .ok (.ifnull 24, 3) := by decide +kernel
theorem d_RecordWriter_putBetween_4 : decode prog_7_method_3_code 4 = .ok (.aload_n 1, 1) := by decide +kernel
theorem d_RecordWriter_putBetween_5 : decode prog_7_method_3_code 5 = .ok (.getfield 71, 3) := by decide +kernel
theorem d_RecordWriter_putBetween_8 : decode prog_7_method_3_code 8 = .ok (.aload_n 2, 1) := by decide +kernel
theorem d_RecordWriter_putBetween_9 : decode prog_7_method_3_code 9 = .ok (.getfield 71, 3) := by decide +kernel
theorem d_RecordWriter_putBetween_12 : decode prog_7_method_3_code 12 = .ok (.if_icmp .ne 13, 3) := by decide +kernel
theorem d_RecordWriter_putBetween_15 : decode prog_7_method_3_code 15 = .ok (.aload_n 0, 1) := by decide +kernel
theorem d_RecordWriter_putBetween_16 : decode prog_7_method_3_code 16 = .ok (.getfield 19, 3) := by decide +kernel
theorem d_RecordWriter_putBetween_19 : decode prog_7_method_3_code 19 = .ok (.bipush 44, 2) := by decide +kernel
theorem d_RecordWriter_putBetween_21 : decode prog_7_method_3_code 21 = .ok (.invokevirtual 29, 3) := by decide +kernel
theorem d_RecordWriter_putBetween_24 : decode prog_7_method_3_code 24 = .ok (.return_, 1) := by decide +kernel
theorem d_RecordWriter_putBetween_25 : decode prog_7_method_3_code 25 = .ok (.aload_n 0, 1) := by decide +kernel
theorem d_RecordWriter_putBetween_26 : decode prog_7_method_3_code 26 = .ok (.aload_n 1, 1) := by decide +kernel
theorem d_RecordWriter_putBetween_27 : decode prog_7_method_3_code 27 = .ok (.invokevirtual 67, 3) := by decide +kernel
theorem d_RecordWriter_putBetween_30 : decode prog_7_method_3_code 30 = .ok (.aload_n 1, 1) := by decide +kernel
theorem d_RecordWriter_putBetween_31 : decode prog_7_method_3_code 31 = .ok (.ifnull 12, 3) := by decide +kernel
theorem d_RecordWriter_putBetween_34 : decode prog_7_method_3_code 34 = .ok (.aload_n 0, 1) := by decide +kernel
theorem d_RecordWriter_putBetween_35 : decode prog_7_method_3_code 35 = .ok (.getfield 19, 3) := by decide +kernel
theorem d_RecordWriter_putBetween_38 : decode prog_7_method_3_code 38 = .ok (.bipush 44, 2) := by decide +kernel
theorem d_RecordWriter_putBetween_40 : decode prog_7_method_3_code 40 = .ok (.invokevirtual 29, 3) := by decide +kernel
theorem d_RecordWriter_putBetween_43 : decode prog_7_method_3_code 43 = .ok (.aload_n 0, 1) := by decide +kernel
theorem d_RecordWriter_putBetween_44 : decode prog_7_method_3_code 44 = .ok (.aload_n 2, 1) := by decide +kernel
theorem d_RecordWriter_putBetween_45 : decode prog_7_method_3_code 45 = .ok (.getfield 74, 3) := by decide +kernel
theorem d_RecordWriter_putBetween_48 : decode prog_7_method_3_code 48 = .ok (.invokevirtual 78, 3) := by decide +kernel
theorem d_RecordWriter_putBetween_51 : decode prog_7_method_3_code 51 = .ok (.aload_n 0, 1) := by decide +kernel
theorem d_RecordWriter_putBetween_52 : decode prog_7_method_3_code 52 = .ok (.getfield 19, 3) := by decide +kernel
theorem d_RecordWriter_putBetween_55 : decode prog_7_method_3_code 55 = .ok (.bipush 58, 2) := by decide +kernel
theorem d_RecordWriter_putBetween_57 : decode prog_7_method_3_code 57 = .ok (.invokevirtual 29, 3) := by decide +kernel
theorem d_RecordWriter_putBetween_60 : decode prog_7_method_3_code 60 = .ok (.aload_n 2, 1) := by decide +kernel
theorem d_RecordWriter_putBetween_61 : decode prog_7_method_3_code 61 = .ok (.getfield 82, 3) := by decide +kernel
theorem d_RecordWriter_putBetween_64 : decode prog_7_method_3_code 64 = .ok (.iconst 2, 1) := by decide +kernel
theorem d_RecordWriter_putBetween_65 : decode prog_7_method_3_code 65 = .ok (.if_icmp .ne 12, 3) := by decide +kernel
theorem d_RecordWriter_putBetween_68 : decode prog_7_method_3_code 68 = .ok (.aload_n 0, 1) := by decide +kernel
theorem d_RecordWriter_putBetween_69 : decode prog_7_method_3_code 69 = .ok (.getfield 19, 3) := by decide +kernel
theorem d_RecordWriter_putBetween_72 : decode prog_7_method_3_code 72 = .ok (.bipush 91, 2) := by decide +kernel
theorem d_RecordWriter_putBetween_74 : decode prog_7_method_3_code 74 = .ok (.invokevirtual 29, 3) := by decide +kernel
theorem d_RecordWriter_putBetween_77 : decode prog_7_method_3_code 77 = .ok (.return_, 1) := by decide +kernel
theorem d_RecordWriter_putClosing_0 : decode prog_7_method_4_code 0 = .ok (.aload_n 1, 1) := by decide +kernel
theorem d_RecordWriter_putClosing_1 : decode prog_7_method_4_code 1 = .ok (.ifnull 20, 3) := by decide +kernel
theorem d_RecordWriter_putClosing_4 : decode prog_7_method_4_code 4 = .ok (.aload_n 1, 1) := by decide +kernel
theorem d_RecordWriter_putClosing_5 : decode prog_7_method_4_code 5 = .ok (.getfield 82, 3) := by decide +kernel
theorem d_RecordWriter_putClosing_8 : decode prog_7_method_4_code 8 = .ok (.iconst 2, 1) := by decide +kernel
theorem d_RecordWriter_putClosing_9 : decode prog_7_method_4_code 9 = .ok (.if_icmp .ne 12, 3) := by decide +kernel
theorem d_RecordWriter_putClosing_12 : decode prog_7_method_4_code 12 = .ok (.aload_n 0, 1) := by decide +kernel
theorem d_RecordWriter_putClosing_13 : decode prog_7_method_4_code 13 = .ok (.getfield 19, 3) := by decide +kernel
theorem d_RecordWriter_putClosing_16 : decode prog_7_method_4_code 16 = .ok (.bipush 93, 2) := by decide +kernel
theorem d_RecordWriter_putClosing_18 : decode prog_7_method_4_code 18 = .ok (.invokevirtual 29, 3) := by decide +kernel
theorem d_RecordWriter_putClosing_21 : decode prog_7_method_4_code 21 = .ok (.return_, 1) := by decide +kernel
theorem d_RecordWriter_putBytes_0 : decode prog_7_method_6_code 0 = .ok (.iconst 0, 1) := by decide +kernel
theorem d_RecordWriter_putBytes_1 : decode prog_7_method_6_code 1 = .ok (.istore_n 2, 1) := by decide +kernel
theorem d_RecordWriter_putBytes_2 : decode prog_7_method_6_code 2 = .ok (.iload_n 2, 1) := by decide +kernel
theorem d_RecordWriter_putBytes_3 : decode prog_7_method_6_code 3 = .ok (.aload_n 1, 1) := by decide +kernel
theorem d_RecordWriter_putBytes_4 : decode prog_7_method_6_code 4 = .ok (.arraylength, 1) := by decide +kernel
theorem d_RecordWriter_putBytes_5 : decode prog_7_method_6_code 5 = .ok (.if_icmp .ge 19, 3) := by decide +kernel
theorem d_RecordWriter_putBytes_8 : decode prog_7_method_6_code 8 = .ok (.aload_n 0, 1) := by decide +kernel
theorem d_RecordWriter_putBytes_9 : decode prog_7_method_6_code 9 = .ok (.getfield 19, 3) := by decide +kernel
theorem d_RecordWriter_putBytes_12 : decode prog_7_method_6_code 12 = .ok (.aload_n 1, 1) := by decide +kernel
theorem d_RecordWriter_putBytes_13 : decode prog_7_method_6_code 13 = .ok (.iload_n 2, 1) := by decide +kernel
theorem d_RecordWriter_putBytes_14 : decode prog_7_method_6_code 14 = .ok (.baload, 1) := by decide +kernel
theorem d_RecordWriter_putBytes_15 : decode prog_7_method_6_code 15 = .ok (.invokevirtual 29, 3) := by decide +kernel
theorem d_RecordWriter_putBytes_18 : decode prog_7_method_6_code 18 = .ok (.iinc 2 1, 3) := by decide +kernel
theorem d_RecordWriter_putBytes_21 : decode prog_7_method_6_code 21 = .ok (.goto (-19), 3) := by decide +kernel
theorem d_RecordWriter_putBytes_24 : decode prog_7_method_6_code 24 = .ok (.return_, 1) := by decide +kernel
theorem d_RecordWriter_putLeaf_0 : decode prog_7_method_5_code 0 = .ok (.aload_n 3, 1) := by decide +kernel
theorem d_RecordWriter_putLeaf_1 : decode prog_7_method_5_code 1 = .ok (.getfield 54, 3) := by decide +kernel
theorem d_RecordWriter_putLeaf_4 : decode prog_7_method_5_code 4 = .ok (.iconst 3, 1) := by decide +kernel
theorem d_RecordWriter_putLeaf_5 : decode prog_7_method_5_code 5 = .ok (.if_icmp .ne 14, 3) := by decide +kernel
theorem d_RecordWriter_putLeaf_8 : decode prog_7_method_5_code 8 = .ok (.aload_n 0, 1) := by decide +kernel
theorem d_RecordWriter_putLeaf_9 : decode prog_7_method_5_code 9 = .ok (.aload_n 2, 1) := by decide +kernel
theorem d_RecordWriter_putLeaf_10 : decode prog_7_method_5_code 10 = .ok (.getfield 85, 3) := by decide +kernel
theorem d_RecordWriter_putLeaf_13 : decode prog_7_method_5_code 13 = .ok (.invokevirtual 88, 3) := by decide +kernel
theorem d_RecordWriter_putLeaf_16 : decode prog_7_method_5_code 16 = .ok (.goto 41, 3) := by decide +kernel
theorem d_RecordWriter_putLeaf_19 : decode prog_7_method_5_code 19 = .ok (.aload_n 3, 1) := by decide +kernel
theorem d_RecordWriter_putLeaf_20 : decode prog_7_method_5_code 20 = .ok (.getfield 54, 3) := by decide +kernel
theorem d_RecordWriter_putLeaf_23 : decode prog_7_method_5_code 23 = .ok (.ifCond .ne 26, 3) := by decide +kernel
theorem d_RecordWriter_putLeaf_26 : decode prog_7_method_5_code 26 = .ok (.aload_n 0, 1) := by decide +kernel
theorem d_RecordWriter_putLeaf_27 : decode prog_7_method_5_code 27 = .ok (.aload_n 2, 1) := by decide +kernel
theorem d_RecordWriter_putLeaf_28 : decode prog_7_method_5_code 28 = .ok (.getfield 91, 3) := by decide +kernel
theorem d_RecordWriter_putLeaf_31 : decode prog_7_method_5_code 31 = .ok (.lconst 0, 1) := by decide +kernel
theorem d_RecordWriter_putLeaf_32 : decode prog_7_method_5_code 32 = .ok (.lcmp, 1) := by decide +kernel
theorem d_RecordWriter_putLeaf_33 : decode prog_7_method_5_code 33 = .ok (.ifCond .eq 8, 3) := by decide +kernel
theorem d_RecordWriter_putLeaf_36 : decode prog_7_method_5_code 36 = .ok (.ldc 94, 2) := by decide +kernel
theorem d_RecordWriter_putLeaf_38 : decode prog_7_method_5_code 38 = .ok (.goto 5, 3) := by decide +kernel
theorem d_RecordWriter_putLeaf_41 : decode prog_7_method_5_code 41 = .ok (.ldc 96, 2) := by decide +kernel
theorem d_RecordWriter_putLeaf_43 : decode prog_7_method_5_code 43 = .ok (.invokevirtual 98, 3) := by decide +kernel
theorem d_RecordWriter_putLeaf_46 : decode prog_7_method_5_code 46 = .ok (.goto 11, 3) := by decide +kernel
theorem d_RecordWriter_putLeaf_49 : decode prog_7_method_5_code 49 = .ok (.aload_n 0, 1) := by decide +kernel
theorem d_RecordWriter_putLeaf_50 : decode prog_7_method_5_code 50 = .ok (.aload_n 2, 1) := by decide +kernel
theorem d_RecordWriter_putLeaf_51 : decode prog_7_method_5_code 51 = .ok (.getfield 91, 3) := by decide +kernel
theorem d_RecordWriter_putLeaf_54 : decode prog_7_method_5_code 54 = .ok (.invokevirtual 102, 3) := by decide +kernel
theorem d_RecordWriter_putLeaf_57 : decode prog_7_method_5_code 57 = .ok (.iload_n 1, 1) := by decide +kernel
theorem d_RecordWriter_putLeaf_58 : decode prog_7_method_5_code 58 = .ok (.iconst 1, 1) := by decide +kernel
theorem d_RecordWriter_putLeaf_59 : decode prog_7_method_5_code 59 = .ok (.iadd, 1) := by decide +kernel
theorem d_RecordWriter_putLeaf_60 : decode prog_7_method_5_code 60 = .ok (.ireturn, 1) := by decide +kernel
theorem d_RecordWriter_putText_0 : decode prog_7_method_8_code 0 = .ok (.aload_n 0, 1) := by decide +kernel
theorem d_RecordWriter_putText_1 : decode prog_7_method_8_code 1 = .ok (.getfield 19, 3) := by decide +kernel
theorem d_RecordWriter_putText_4 : decode prog_7_method_8_code 4 = .ok (.bipush 39, 2) := by decide +kernel
theorem d_RecordWriter_putText_6 : decode prog_7_method_8_code 6 = .ok (.invokevirtual 29, 3) := by decide +kernel
theorem d_RecordWriter_putText_9 : decode prog_7_method_8_code 9 = .ok (.iconst 0, 1) := by decide +kernel
theorem d_RecordWriter_putText_10 : decode prog_7_method_8_code 10 = .ok (.istore_n 2, 1) := by decide +kernel
theorem d_RecordWriter_putText_11 : decode prog_7_method_8_code 11 = .ok (.iload_n 2, 1) := by decide +kernel
theorem d_RecordWriter_putText_12 : decode prog_7_method_8_code 12 = .ok (.aload_n 1, 1) := by decide +kernel
theorem d_RecordWriter_putText_13 : decode prog_7_method_8_code 13 = .ok (.arraylength, 1) := by decide +kernel
theorem d_RecordWriter_putText_14 : decode prog_7_method_8_code 14 = .ok (.if_icmp .ge 20, 3) := by decide +kernel
theorem d_RecordWriter_putText_17 : decode prog_7_method_8_code 17 = .ok (.aload_n 0, 1) := by decide +kernel
theorem d_RecordWriter_putText_18 : decode prog_7_method_8_code 18 = .ok (.aload_n 1, 1) := by decide +kernel
theorem d_RecordWriter_putText_19 : decode prog_7_method_8_code 19 = .ok (.iload_n 2, 1) := by decide +kernel
theorem d_RecordWriter_putText_20 : decode prog_7_method_8_code 20 = .ok (.baload, 1) := by decide +kernel
theorem d_RecordWriter_putText_21 : decode prog_7_method_8_code 21 = .ok (.sipush 255, 3) := by decide +kernel
theorem d_RecordWriter_putText_24 : decode prog_7_method_8_code 24 = .ok (.iand, 1) := by decide +kernel
theorem d_RecordWriter_putText_25 : decode prog_7_method_8_code 25 = .ok (.invokevirtual 116, 3) := by decide +kernel
theorem d_RecordWriter_putText_28 : decode prog_7_method_8_code 28 = .ok (.iinc 2 1, 3) := by decide +kernel
theorem d_RecordWriter_putText_31 : decode prog_7_method_8_code 31 = .ok (.goto (-20), 3) := by decide +kernel
theorem d_RecordWriter_putText_34 : decode prog_7_method_8_code 34 = .ok (.aload_n 0, 1) := by decide +kernel
theorem d_RecordWriter_putText_35 : decode prog_7_method_8_code 35 = .ok (.getfield 19, 3) := by decide +kernel
theorem d_RecordWriter_putText_38 : decode prog_7_method_8_code 38 = .ok (.bipush 39, 2) := by decide +kernel
theorem d_RecordWriter_putText_40 : decode prog_7_method_8_code 40 = .ok (.invokevirtual 29, 3) := by decide +kernel
theorem d_RecordWriter_putText_43 : decode prog_7_method_8_code 43 = .ok (.return_, 1) := by decide +kernel
theorem d_RecordWriter_putTextByte_0 : decode prog_7_method_9_code 0 = .ok (.iload_n 1, 1) := by decide +kernel
theorem d_RecordWriter_putTextByte_1 : decode prog_7_method_9_code 1 = .ok (.bipush 32, 2) := by decide +kernel
theorem d_RecordWriter_putTextByte_3 : decode prog_7_method_9_code 3 = .ok (.if_icmp .lt 9, 3) := by decide +kernel
theorem d_RecordWriter_putTextByte_6 : decode prog_7_method_9_code 6 = .ok (.iload_n 1, 1) := by decide +kernel
theorem d_RecordWriter_putTextByte_7 : decode prog_7_method_9_code 7 = .ok (.bipush 126, 2) := by decide +kernel
theorem d_RecordWriter_putTextByte_9 : decode prog_7_method_9_code 9 = .ok (.if_icmp .le 38, 3) := by decide +kernel
theorem d_RecordWriter_putTextByte_12 : decode prog_7_method_9_code 12 = .ok (.aload_n 0, 1) := by decide +kernel
theorem d_RecordWriter_putTextByte_13 : decode prog_7_method_9_code 13 = .ok (.ldc 119, 2) := by decide +kernel
theorem d_RecordWriter_putTextByte_15 : decode prog_7_method_9_code 15 = .ok (.invokevirtual 98, 3) := by decide +kernel
theorem d_RecordWriter_putTextByte_18 : decode prog_7_method_9_code 18 = .ok (.aload_n 0, 1) := by decide +kernel
theorem d_RecordWriter_putTextByte_19 : decode prog_7_method_9_code 19 = .ok (.getfield 19, 3) := by decide +kernel
theorem d_RecordWriter_putTextByte_22 : decode prog_7_method_9_code 22 = .ok (.iload_n 1, 1) := by decide +kernel
theorem d_RecordWriter_putTextByte_23 : decode prog_7_method_9_code 23 = .ok (.bipush 16, 2) := by decide +kernel
theorem d_RecordWriter_putTextByte_25 : decode prog_7_method_9_code 25 = .ok (.idiv, 1) := by decide +kernel
theorem d_RecordWriter_putTextByte_26 : decode prog_7_method_9_code 26 = .ok (.invokestatic 121, 3) := by decide +kernel
theorem d_RecordWriter_putTextByte_29 : decode prog_7_method_9_code 29 = .ok (.invokevirtual 29, 3) := by decide +kernel
theorem d_RecordWriter_putTextByte_32 : decode prog_7_method_9_code 32 = .ok (.aload_n 0, 1) := by decide +kernel
theorem d_RecordWriter_putTextByte_33 : decode prog_7_method_9_code 33 = .ok (.getfield 19, 3) := by decide +kernel
theorem d_RecordWriter_putTextByte_36 : decode prog_7_method_9_code 36 = .ok (.iload_n 1, 1) := by decide +kernel
theorem d_RecordWriter_putTextByte_37 : decode prog_7_method_9_code 37 = .ok (.bipush 16, 2) := by decide +kernel
theorem d_RecordWriter_putTextByte_39 : decode prog_7_method_9_code 39 = .ok (.irem, 1) := by decide +kernel
theorem d_RecordWriter_putTextByte_40 : decode prog_7_method_9_code 40 = .ok (.invokestatic 121, 3) := by decide +kernel
theorem d_RecordWriter_putTextByte_43 : decode prog_7_method_9_code 43 = .ok (.invokevirtual 29, 3) := by decide +kernel
theorem d_RecordWriter_putTextByte_46 : decode prog_7_method_9_code 46 = .ok (.return_, 1) := by decide +kernel
theorem d_RecordWriter_putTextByte_47 : decode prog_7_method_9_code 47 = .ok (.iload_n 1, 1) := by decide +kernel
theorem d_RecordWriter_putTextByte_48 : decode prog_7_method_9_code 48 = .ok (.bipush 39, 2) := by decide +kernel
theorem d_RecordWriter_putTextByte_50 : decode prog_7_method_9_code 50 = .ok (.if_icmp .eq 9, 3) := by decide +kernel
theorem d_RecordWriter_putTextByte_53 : decode prog_7_method_9_code 53 = .ok (.iload_n 1, 1) := by decide +kernel
theorem d_RecordWriter_putTextByte_54 : decode prog_7_method_9_code 54 = .ok (.bipush 92, 2) := by decide +kernel
theorem d_RecordWriter_putTextByte_56 : decode prog_7_method_9_code 56 = .ok (.if_icmp .ne 12, 3) := by decide +kernel
theorem d_RecordWriter_putTextByte_59 : decode prog_7_method_9_code 59 = .ok (.aload_n 0, 1) := by decide +kernel
theorem d_RecordWriter_putTextByte_60 : decode prog_7_method_9_code 60 = .ok (.getfield 19, 3) := by decide +kernel
theorem d_RecordWriter_putTextByte_63 : decode prog_7_method_9_code 63 = .ok (.bipush 92, 2) := by decide +kernel
theorem d_RecordWriter_putTextByte_65 : decode prog_7_method_9_code 65 = .ok (.invokevirtual 29, 3) := by decide +kernel
theorem d_RecordWriter_putTextByte_68 : decode prog_7_method_9_code 68 = .ok (.aload_n 0, 1) := by decide +kernel
theorem d_RecordWriter_putTextByte_69 : decode prog_7_method_9_code 69 = .ok (.getfield 19, 3) := by decide +kernel
theorem d_RecordWriter_putTextByte_72 : decode prog_7_method_9_code 72 = .ok (.iload_n 1, 1) := by decide +kernel
theorem d_RecordWriter_putTextByte_73 : decode prog_7_method_9_code 73 = .ok (.invokevirtual 29, 3) := by decide +kernel
theorem d_RecordWriter_putTextByte_76 : decode prog_7_method_9_code 76 = .ok (.return_, 1) := by decide +kernel
theorem d_RecordWriter_putWord_0 : decode prog_7_method_7_code 0 = .ok (.iconst 0, 1) := by decide +kernel
theorem d_RecordWriter_putWord_1 : decode prog_7_method_7_code 1 = .ok (.istore_n 2, 1) := by decide +kernel
theorem d_RecordWriter_putWord_2 : decode prog_7_method_7_code 2 = .ok (.iload_n 2, 1) := by decide +kernel
theorem d_RecordWriter_putWord_3 : decode prog_7_method_7_code 3 = .ok (.aload_n 1, 1) := by decide +kernel
theorem d_RecordWriter_putWord_4 : decode prog_7_method_7_code 4 = .ok (.invokevirtual 106, 3) := by decide +kernel
theorem d_RecordWriter_putWord_7 : decode prog_7_method_7_code 7 = .ok (.if_icmp .ge 21, 3) := by decide +kernel
theorem d_RecordWriter_putWord_10 : decode prog_7_method_7_code 10 = .ok (.aload_n 0, 1) := by decide +kernel
theorem d_RecordWriter_putWord_11 : decode prog_7_method_7_code 11 = .ok (.getfield 19, 3) := by decide +kernel
theorem d_RecordWriter_putWord_14 : decode prog_7_method_7_code 14 = .ok (.aload_n 1, 1) := by decide +kernel
theorem d_RecordWriter_putWord_15 : decode prog_7_method_7_code 15 = .ok (.iload_n 2, 1) := by decide +kernel
theorem d_RecordWriter_putWord_16 : decode prog_7_method_7_code 16 = .ok (.invokevirtual 112, 3) := by decide +kernel
theorem d_RecordWriter_putWord_19 : decode prog_7_method_7_code 19 = .ok (.invokevirtual 29, 3) := by decide +kernel
theorem d_RecordWriter_putWord_22 : decode prog_7_method_7_code 22 = .ok (.iinc 2 1, 3) := by decide +kernel
theorem d_RecordWriter_putWord_25 : decode prog_7_method_7_code 25 = .ok (.goto (-23), 3) := by decide +kernel
theorem d_RecordWriter_putWord_28 : decode prog_7_method_7_code 28 = .ok (.return_, 1) := by decide +kernel
theorem d_RecordWriter_hexSign_0 : decode prog_7_method_10_code 0 = .ok (.iload_n 0, 1) := by decide +kernel
theorem d_RecordWriter_hexSign_1 : decode prog_7_method_10_code 1 = .ok (.bipush 10, 2) := by decide +kernel
theorem d_RecordWriter_hexSign_3 : decode prog_7_method_10_code 3 = .ok (.if_icmp .ge 10, 3) := by decide +kernel
theorem d_RecordWriter_hexSign_6 : decode prog_7_method_10_code 6 = .ok (.bipush 48, 2) := by decide +kernel
theorem d_RecordWriter_hexSign_8 : decode prog_7_method_10_code 8 = .ok (.iload_n 0, 1) := by decide +kernel
theorem d_RecordWriter_hexSign_9 : decode prog_7_method_10_code 9 = .ok (.iadd, 1) := by decide +kernel
theorem d_RecordWriter_hexSign_10 : decode prog_7_method_10_code 10 = .ok (.goto 10, 3) := by decide +kernel
theorem d_RecordWriter_hexSign_13 : decode prog_7_method_10_code 13 = .ok (.bipush 97, 2) := by decide +kernel
theorem d_RecordWriter_hexSign_15 : decode prog_7_method_10_code 15 = .ok (.iload_n 0, 1) := by decide +kernel
theorem d_RecordWriter_hexSign_16 : decode prog_7_method_10_code 16 = .ok (.iadd, 1) := by decide +kernel
theorem d_RecordWriter_hexSign_17 : decode prog_7_method_10_code 17 = .ok (.bipush 10, 2) := by decide +kernel
theorem d_RecordWriter_hexSign_19 : decode prog_7_method_10_code 19 = .ok (.isub, 1) := by decide +kernel
theorem d_RecordWriter_hexSign_20 : decode prog_7_method_10_code 20 = .ok (.ireturn, 1) := by decide +kernel
theorem d_RecordWriter_putNumber_0 : decode prog_7_method_11_code 0 = .ok (.lload_n 1, 1) := by decide +kernel
theorem d_RecordWriter_putNumber_1 : decode prog_7_method_11_code 1 = .ok (.lconst 0, 1) := by decide +kernel
theorem d_RecordWriter_putNumber_2 : decode prog_7_method_11_code 2 = .ok (.lcmp, 1) := by decide +kernel
theorem d_RecordWriter_putNumber_3 : decode prog_7_method_11_code 3 = .ok (.ifCond .ge 12, 3) := by decide +kernel
theorem d_RecordWriter_putNumber_6 : decode prog_7_method_11_code 6 = .ok (.aload_n 0, 1) := by decide +kernel
theorem d_RecordWriter_putNumber_7 : decode prog_7_method_11_code 7 = .ok (.getfield 19, 3) := by decide +kernel
theorem d_RecordWriter_putNumber_10 : decode prog_7_method_11_code 10 = .ok (.bipush 45, 2) := by decide +kernel
theorem d_RecordWriter_putNumber_12 : decode prog_7_method_11_code 12 = .ok (.invokevirtual 29, 3) := by decide +kernel
theorem d_RecordWriter_putNumber_15 : decode prog_7_method_11_code 15 = .ok (.lload_n 1, 1) := by decide +kernel
theorem d_RecordWriter_putNumber_16 : decode prog_7_method_11_code 16 = .ok (.lconst 0, 1) := by decide +kernel
theorem d_RecordWriter_putNumber_17 : decode prog_7_method_11_code 17 = .ok (.lcmp, 1) := by decide +kernel
theorem d_RecordWriter_putNumber_18 : decode prog_7_method_11_code 18 = .ok (.ifCond .ge 7, 3) := by decide +kernel
theorem d_RecordWriter_putNumber_21 : decode prog_7_method_11_code 21 = .ok (.lload_n 1, 1) := by decide +kernel
theorem d_RecordWriter_putNumber_22 : decode prog_7_method_11_code 22 = .ok (.goto 5, 3) := by decide +kernel
theorem d_RecordWriter_putNumber_25 : decode prog_7_method_11_code 25 = .ok (.lload_n 1, 1) := by decide +kernel
theorem d_RecordWriter_putNumber_26 : decode prog_7_method_11_code 26 = .ok (.lneg, 1) := by decide +kernel
theorem d_RecordWriter_putNumber_27 : decode prog_7_method_11_code 27 = .ok (.lstore_n 3, 1) := by decide +kernel
theorem d_RecordWriter_putNumber_28 : decode prog_7_method_11_code 28 = .ok (.lconst 1, 1) := by decide +kernel
theorem d_RecordWriter_putNumber_29 : decode prog_7_method_11_code 29 = .ok (.lstore 5, 2) := by decide +kernel
theorem d_RecordWriter_putNumber_31 : decode prog_7_method_11_code 31 = .ok (.iconst 0, 1) := by decide +kernel
theorem d_RecordWriter_putNumber_32 : decode prog_7_method_11_code 32 = .ok (.istore 7, 2) := by decide +kernel
theorem d_RecordWriter_putNumber_34 : decode prog_7_method_11_code 34 = .ok (.iload 7, 2) := by decide +kernel
theorem d_RecordWriter_putNumber_36 : decode prog_7_method_11_code 36 = .ok (.bipush 18, 2) := by decide +kernel
theorem d_RecordWriter_putNumber_38 : decode prog_7_method_11_code 38 = .ok (.if_icmp .ge 28, 3) := by decide +kernel
theorem d_RecordWriter_putNumber_41 : decode prog_7_method_11_code 41 = .ok (.lload_n 3, 1) := by decide +kernel
theorem d_RecordWriter_putNumber_42 : decode prog_7_method_11_code 42 = .ok (.lload 5, 2) := by decide +kernel
theorem d_RecordWriter_putNumber_44 : decode prog_7_method_11_code 44 = .ok (.ldiv, 1) := by decide +kernel
theorem d_RecordWriter_putNumber_45 : decode prog_7_method_11_code 45 = .ok (.ldc2_w 125, 3) := by decide +kernel
theorem d_RecordWriter_putNumber_48 : decode prog_7_method_11_code 48 = .ok (.lcmp, 1) := by decide +kernel
theorem d_RecordWriter_putNumber_49 : decode prog_7_method_11_code 49 = .ok (.ifCond .gt 17, 3) := by decide +kernel
theorem d_RecordWriter_putNumber_52 : decode prog_7_method_11_code 52 = .ok (.lload 5, 2) := by decide +kernel
theorem d_RecordWriter_putNumber_54 : decode prog_7_method_11_code 54 = .ok (.ldc2_w 127, 3) := by decide +kernel
theorem d_RecordWriter_putNumber_57 : decode prog_7_method_11_code 57 = .ok (.lmul, 1) := by decide +kernel
theorem d_RecordWriter_putNumber_58 : decode prog_7_method_11_code 58 = .ok (.lstore 5, 2) := by decide +kernel
theorem d_RecordWriter_putNumber_60 : decode prog_7_method_11_code 60 = .ok (.iinc 7 1, 3) := by decide +kernel
theorem d_RecordWriter_putNumber_63 : decode prog_7_method_11_code 63 = .ok (.goto (-29), 3) := by decide +kernel
theorem d_RecordWriter_putNumber_66 : decode prog_7_method_11_code 66 = .ok (.lload 5, 2) := by decide +kernel
theorem d_RecordWriter_putNumber_68 : decode prog_7_method_11_code 68 = .ok (.lconst 0, 1) := by decide +kernel
theorem d_RecordWriter_putNumber_69 : decode prog_7_method_11_code 69 = .ok (.lcmp, 1) := by decide +kernel
theorem d_RecordWriter_putNumber_70 : decode prog_7_method_11_code 70 = .ok (.ifCond .le 33, 3) := by decide +kernel
theorem d_RecordWriter_putNumber_73 : decode prog_7_method_11_code 73 = .ok (.aload_n 0, 1) := by decide +kernel
theorem d_RecordWriter_putNumber_74 : decode prog_7_method_11_code 74 = .ok (.getfield 19, 3) := by decide +kernel
theorem d_RecordWriter_putNumber_77 : decode prog_7_method_11_code 77 = .ok (.bipush 48, 2) := by decide +kernel
theorem d_RecordWriter_putNumber_79 : decode prog_7_method_11_code 79 = .ok (.lload_n 3, 1) := by decide +kernel
theorem d_RecordWriter_putNumber_80 : decode prog_7_method_11_code 80 = .ok (.lload 5, 2) := by decide +kernel
theorem d_RecordWriter_putNumber_82 : decode prog_7_method_11_code 82 = .ok (.ldiv, 1) := by decide +kernel
theorem d_RecordWriter_putNumber_83 : decode prog_7_method_11_code 83 = .ok (.ldc2_w 127, 3) := by decide +kernel
theorem d_RecordWriter_putNumber_86 : decode prog_7_method_11_code 86 = .ok (.lrem, 1) := by decide +kernel
theorem d_RecordWriter_putNumber_87 : decode prog_7_method_11_code 87 = .ok (.l2i, 1) := by decide +kernel
theorem d_RecordWriter_putNumber_88 : decode prog_7_method_11_code 88 = .ok (.isub, 1) := by decide +kernel
theorem d_RecordWriter_putNumber_89 : decode prog_7_method_11_code 89 = .ok (.invokevirtual 29, 3) := by decide +kernel
theorem d_RecordWriter_putNumber_92 : decode prog_7_method_11_code 92 = .ok (.lload 5, 2) := by decide +kernel
theorem d_RecordWriter_putNumber_94 : decode prog_7_method_11_code 94 = .ok (.ldc2_w 127, 3) := by decide +kernel
theorem d_RecordWriter_putNumber_97 : decode prog_7_method_11_code 97 = .ok (.ldiv, 1) := by decide +kernel
theorem d_RecordWriter_putNumber_98 : decode prog_7_method_11_code 98 = .ok (.lstore 5, 2) := by decide +kernel
theorem d_RecordWriter_putNumber_100 : decode prog_7_method_11_code 100 = .ok (.goto (-34), 3) := by decide +kernel
theorem d_RecordWriter_putNumber_103 : decode prog_7_method_11_code 103 = .ok (.return_, 1) := by decide +kernel
theorem d_X_init_0 : decode prog_1_method_1_code 0 = .ok (.aload_n 0, 1) := by decide +kernel
theorem d_X_init_1 : decode prog_1_method_1_code 1 = .ok (.invokespecial 1, 3) := by decide +kernel
theorem d_X_init_4 : decode prog_1_method_1_code 4 = .ok (.aload_n 0, 1) := by decide +kernel
theorem d_X_init_5 : decode prog_1_method_1_code 5 = .ok (.new 7, 3) := by decide +kernel
theorem d_X_init_8 : decode prog_1_method_1_code 8 = .ok (.dup, 1) := by decide +kernel
theorem d_X_init_9 : decode prog_1_method_1_code 9 = .ok (.invokespecial 9, 3) := by decide +kernel
theorem d_X_init_12 : decode prog_1_method_1_code 12 = .ok (.putfield 10, 3) := by decide +kernel
theorem d_X_init_15 : decode prog_1_method_1_code 15 = .ok (.aload_n 0, 1) := by decide +kernel
theorem d_X_init_16 : decode prog_1_method_1_code 16 = .ok (.new 16, 3) := by decide +kernel
theorem d_X_init_19 : decode prog_1_method_1_code 19 = .ok (.dup, 1) := by decide +kernel
theorem d_X_init_20 : decode prog_1_method_1_code 20 = .ok (.invokespecial 18, 3) := by decide +kernel
theorem d_X_init_23 : decode prog_1_method_1_code 23 = .ok (.putfield 19, 3) := by decide +kernel
theorem d_X_init_26 : decode prog_1_method_1_code 26 = .ok (.aload_n 0, 1) := by decide +kernel
theorem d_X_init_27 : decode prog_1_method_1_code 27 = .ok (.new 23, 3) := by decide +kernel
theorem d_X_init_30 : decode prog_1_method_1_code 30 = .ok (.dup, 1) := by decide +kernel
theorem d_X_init_31 : decode prog_1_method_1_code 31 = .ok (.invokespecial 25, 3) := by decide +kernel
theorem d_X_init_34 : decode prog_1_method_1_code 34 = .ok (.putfield 26, 3) := by decide +kernel
theorem d_X_init_37 : decode prog_1_method_1_code 37 = .ok (.aload_n 0, 1) := by decide +kernel
theorem d_X_init_38 : decode prog_1_method_1_code 38 = .ok (.new 30, 3) := by decide +kernel
theorem d_X_init_41 : decode prog_1_method_1_code 41 = .ok (.dup, 1) := by decide +kernel
theorem d_X_init_42 : decode prog_1_method_1_code 42 = .ok (.invokespecial 32, 3) := by decide +kernel
theorem d_X_init_45 : decode prog_1_method_1_code 45 = .ok (.putfield 33, 3) := by decide +kernel
theorem d_X_init_48 : decode prog_1_method_1_code 48 = .ok (.aload_n 0, 1) := by decide +kernel
theorem d_X_init_49 : decode prog_1_method_1_code 49 = .ok (.new 30, 3) := by decide +kernel
theorem d_X_init_52 : decode prog_1_method_1_code 52 = .ok (.dup, 1) := by decide +kernel
theorem d_X_init_53 : decode prog_1_method_1_code 53 = .ok (.invokespecial 32, 3) := by decide +kernel
theorem d_X_init_56 : decode prog_1_method_1_code 56 = .ok (.putfield 37, 3) := by decide +kernel
theorem d_X_init_59 : decode prog_1_method_1_code 59 = .ok (.return_, 1) := by decide +kernel
theorem d_X_feed_0 : decode prog_1_method_2_code 0 = .ok (.aload_n 0, 1) := by decide +kernel
theorem d_X_feed_1 : decode prog_1_method_2_code 1 = .ok (.getfield 10, 3) := by decide +kernel
theorem d_X_feed_4 : decode prog_1_method_2_code 4 = .ok (.invokevirtual 40, 3) := by decide +kernel
theorem d_X_feed_7 : decode prog_1_method_2_code 7 = .ok (.ifCond .ne 5, 3) := by decide +kernel
theorem d_X_feed_10 : decode prog_1_method_2_code 10 = .ok (.iconst 0, 1) := by decide +kernel
theorem d_X_feed_11 : decode prog_1_method_2_code 11 = .ok (.ireturn, 1) := by decide +kernel
theorem d_X_feed_12 : decode prog_1_method_2_code 12 = .ok (.aload_n 0, 1) := by decide +kernel
theorem d_X_feed_13 : decode prog_1_method_2_code 13 = .ok (.getfield 10, 3) := by decide +kernel
theorem d_X_feed_16 : decode prog_1_method_2_code 16 = .ok (.iload_n 1, 1) := by decide +kernel
theorem d_X_feed_17 : decode prog_1_method_2_code 17 = .ok (.invokevirtual 44, 3) := by decide +kernel
theorem d_X_feed_20 : decode prog_1_method_2_code 20 = .ok (.aload_n 0, 1) := by decide +kernel
theorem d_X_feed_21 : decode prog_1_method_2_code 21 = .ok (.getfield 10, 3) := by decide +kernel
theorem d_X_feed_24 : decode prog_1_method_2_code 24 = .ok (.iload_n 2, 1) := by decide +kernel
theorem d_X_feed_25 : decode prog_1_method_2_code 25 = .ok (.invokevirtual 44, 3) := by decide +kernel
theorem d_X_feed_28 : decode prog_1_method_2_code 28 = .ok (.aload_n 0, 1) := by decide +kernel
theorem d_X_feed_29 : decode prog_1_method_2_code 29 = .ok (.getfield 10, 3) := by decide +kernel
theorem d_X_feed_32 : decode prog_1_method_2_code 32 = .ok (.iload_n 3, 1) := by decide +kernel
theorem d_X_feed_33 : decode prog_1_method_2_code 33 = .ok (.invokevirtual 44, 3) := by decide +kernel
theorem d_X_feed_36 : decode prog_1_method_2_code 36 = .ok (.aload_n 0, 1) := by decide +kernel
theorem d_X_feed_37 : decode prog_1_method_2_code 37 = .ok (.getfield 10, 3) := by decide +kernel
theorem d_X_feed_40 : decode prog_1_method_2_code 40 = .ok (.iload 4, 2) := by decide +kernel
theorem d_X_feed_42 : decode prog_1_method_2_code 42 = .ok (.invokevirtual 44, 3) := by decide +kernel
theorem d_X_feed_45 : decode prog_1_method_2_code 45 = .ok (.aload_n 0, 1) := by decide +kernel
theorem d_X_feed_46 : decode prog_1_method_2_code 46 = .ok (.getfield 10, 3) := by decide +kernel
theorem d_X_feed_49 : decode prog_1_method_2_code 49 = .ok (.iload 5, 2) := by decide +kernel
theorem d_X_feed_51 : decode prog_1_method_2_code 51 = .ok (.invokevirtual 44, 3) := by decide +kernel
theorem d_X_feed_54 : decode prog_1_method_2_code 54 = .ok (.iconst 1, 1) := by decide +kernel
theorem d_X_feed_55 : decode prog_1_method_2_code 55 = .ok (.ireturn, 1) := by decide +kernel
theorem d_X_schema_0 : decode prog_1_method_3_code 0 = .ok (.aload_n 0, 1) := by decide +kernel
theorem d_X_schema_1 : decode prog_1_method_3_code 1 = .ok (.getfield 10, 3) := by decide +kernel
theorem d_X_schema_4 : decode prog_1_method_3_code 4 = .ok (.iload_n 1, 1) := by decide +kernel
theorem d_X_schema_5 : decode prog_1_method_3_code 5 = .ok (.invokevirtual 48, 3) := by decide +kernel
theorem d_X_schema_8 : decode prog_1_method_3_code 8 = .ok (.astore_n 2, 1) := by decide +kernel
theorem d_X_schema_9 : decode prog_1_method_3_code 9 = .ok (.aload_n 2, 1) := by decide +kernel
theorem d_X_schema_10 : decode prog_1_method_3_code 10 = .ok (.ifnonnull 6, 3) := by decide +kernel
theorem d_X_schema_13 : decode prog_1_method_3_code 13 = .ok (.bipush (-2), 2) := by decide +kernel
theorem d_X_schema_15 : decode prog_1_method_3_code 15 = .ok (.ireturn, 1) := by decide +kernel
theorem d_X_schema_16 : decode prog_1_method_3_code 16 = .ok (.new 23, 3) := by decide +kernel
theorem d_X_schema_19 : decode prog_1_method_3_code 19 = .ok (.dup, 1) := by decide +kernel
theorem d_X_schema_20 : decode prog_1_method_3_code 20 = .ok (.invokespecial 25, 3) := by decide +kernel
theorem d_X_schema_23 : decode prog_1_method_3_code 23 = .ok (.astore_n 3, 1) := by decide +kernel
theorem d_X_schema_24 : decode prog_1_method_3_code 24 = .ok (.new 52, 3) := by decide +kernel
theorem d_X_schema_27 : decode prog_1_method_3_code 27 = .ok (.dup, 1) := by decide +kernel
theorem d_X_schema_28 : decode prog_1_method_3_code 28 = .ok (.aload_n 2, 1) := by decide +kernel
theorem d_X_schema_29 : decode prog_1_method_3_code 29 = .ok (.aload_n 3, 1) := by decide +kernel
theorem d_X_schema_30 : decode prog_1_method_3_code 30 = .ok (.invokespecial 54, 3) := by decide +kernel
theorem d_X_schema_33 : decode prog_1_method_3_code 33 = .ok (.invokevirtual 57, 3) := by decide +kernel
theorem d_X_schema_36 : decode prog_1_method_3_code 36 = .ok (.ifCond .ne 8, 3) := by decide +kernel
theorem d_X_schema_39 : decode prog_1_method_3_code 39 = .ok (.aload_n 2, 1) := by decide +kernel
theorem d_X_schema_40 : decode prog_1_method_3_code 40 = .ok (.getfield 60, 3) := by decide +kernel
theorem d_X_schema_43 : decode prog_1_method_3_code 43 = .ok (.ireturn, 1) := by decide +kernel
theorem d_X_schema_44 : decode prog_1_method_3_code 44 = .ok (.aload_n 0, 1) := by decide +kernel
theorem d_X_schema_45 : decode prog_1_method_3_code 45 = .ok (.aload_n 3, 1) := by decide +kernel
theorem d_X_schema_46 : decode prog_1_method_3_code 46 = .ok (.putfield 26, 3) := by decide +kernel
theorem d_X_schema_49 : decode prog_1_method_3_code 49 = .ok (.aload_n 0, 1) := by decide +kernel
theorem d_X_schema_50 : decode prog_1_method_3_code 50 = .ok (.getfield 33, 3) := by decide +kernel
theorem d_X_schema_53 : decode prog_1_method_3_code 53 = .ok (.invokevirtual 66, 3) := by decide +kernel
theorem d_X_schema_56 : decode prog_1_method_3_code 56 = .ok (.iconst (-1), 1) := by decide +kernel
theorem d_X_schema_57 : decode prog_1_method_3_code 57 = .ok (.ireturn, 1) := by decide +kernel
theorem d_X_count_0 : decode prog_1_method_4_code 0 = .ok (.iload_n 1, 1) := by decide +kernel
theorem d_X_count_1 : decode prog_1_method_4_code 1 = .ok (.ifCond .ne 11, 3) := by decide +kernel
theorem d_X_count_4 : decode prog_1_method_4_code 4 = .ok (.aload_n 0, 1) := by decide +kernel
theorem d_X_count_5 : decode prog_1_method_4_code 5 = .ok (.getfield 26, 3) := by decide +kernel
theorem d_X_count_8 : decode prog_1_method_4_code 8 = .ok (.getfield 69, 3) := by decide +kernel
theorem d_X_count_11 : decode prog_1_method_4_code 11 = .ok (.ireturn, 1) := by decide +kernel
theorem d_X_count_12 : decode prog_1_method_4_code 12 = .ok (.iload_n 1, 1) := by decide +kernel
theorem d_X_count_13 : decode prog_1_method_4_code 13 = .ok (.iconst 1, 1) := by decide +kernel
theorem d_X_count_14 : decode prog_1_method_4_code 14 = .ok (.if_icmp .ne 13, 3) := by decide +kernel
theorem d_X_count_17 : decode prog_1_method_4_code 17 = .ok (.aload_n 0, 1) := by decide +kernel
theorem d_X_count_18 : decode prog_1_method_4_code 18 = .ok (.getfield 26, 3) := by decide +kernel
theorem d_X_count_21 : decode prog_1_method_4_code 21 = .ok (.getfield 72, 3) := by decide +kernel
theorem d_X_count_24 : decode prog_1_method_4_code 24 = .ok (.goto 4, 3) := by decide +kernel
theorem d_X_count_27 : decode prog_1_method_4_code 27 = .ok (.iconst (-1), 1) := by decide +kernel
theorem d_X_count_28 : decode prog_1_method_4_code 28 = .ok (.ireturn, 1) := by decide +kernel
theorem d_X_field_0 : decode prog_1_method_5_code 0 = .ok (.aload_n 0, 1) := by decide +kernel
theorem d_X_field_1 : decode prog_1_method_5_code 1 = .ok (.getfield 26, 3) := by decide +kernel
theorem d_X_field_4 : decode prog_1_method_5_code 4 = .ok (.iload_n 1, 1) := by decide +kernel
theorem d_X_field_5 : decode prog_1_method_5_code 5 = .ok (.invokevirtual 75, 3) := by decide +kernel
theorem d_X_field_8 : decode prog_1_method_5_code 8 = .ok (.astore_n 3, 1) := by decide +kernel
theorem d_X_field_9 : decode prog_1_method_5_code 9 = .ok (.aload_n 3, 1) := by decide +kernel
theorem d_X_field_10 : decode prog_1_method_5_code 10 = .ok (.ifnonnull 7, 3) := by decide +kernel
theorem d_X_field_13 : decode prog_1_method_5_code 13 = .ok (.iconst (-1), 1) := by decide +kernel
theorem d_X_field_14 : decode prog_1_method_5_code 14 = .ok (.goto 8, 3) := by decide +kernel
theorem d_X_field_17 : decode prog_1_method_5_code 17 = .ok (.aload_n 3, 1) := by decide +kernel
theorem d_X_field_18 : decode prog_1_method_5_code 18 = .ok (.iload_n 2, 1) := by decide +kernel
theorem d_X_field_19 : decode prog_1_method_5_code 19 = .ok (.invokevirtual 79, 3) := by decide +kernel
theorem d_X_field_22 : decode prog_1_method_5_code 22 = .ok (.ireturn, 1) := by decide +kernel
theorem d_X_letter_0 : decode prog_1_method_6_code 0 = .ok (.aload_n 0, 1) := by decide +kernel
theorem d_X_letter_1 : decode prog_1_method_6_code 1 = .ok (.getfield 26, 3) := by decide +kernel
theorem d_X_letter_4 : decode prog_1_method_6_code 4 = .ok (.iload_n 1, 1) := by decide +kernel
theorem d_X_letter_5 : decode prog_1_method_6_code 5 = .ok (.invokevirtual 75, 3) := by decide +kernel
theorem d_X_letter_8 : decode prog_1_method_6_code 8 = .ok (.astore_n 3, 1) := by decide +kernel
theorem d_X_letter_9 : decode prog_1_method_6_code 9 = .ok (.aload_n 3, 1) := by decide +kernel
theorem d_X_letter_10 : decode prog_1_method_6_code 10 = .ok (.ifnonnull 7, 3) := by decide +kernel
theorem d_X_letter_13 : decode prog_1_method_6_code 13 = .ok (.iconst (-1), 1) := by decide +kernel
theorem d_X_letter_14 : decode prog_1_method_6_code 14 = .ok (.goto 11, 3) := by decide +kernel
theorem d_X_letter_17 : decode prog_1_method_6_code 17 = .ok (.aload_n 3, 1) := by decide +kernel
theorem d_X_letter_18 : decode prog_1_method_6_code 18 = .ok (.getfield 85, 3) := by decide +kernel
theorem d_X_letter_21 : decode prog_1_method_6_code 21 = .ok (.iload_n 2, 1) := by decide +kernel
theorem d_X_letter_22 : decode prog_1_method_6_code 22 = .ok (.invokestatic 89, 3) := by decide +kernel
theorem d_X_letter_25 : decode prog_1_method_6_code 25 = .ok (.ireturn, 1) := by decide +kernel
theorem d_X_byteOf_0 : decode prog_1_method_20_code 0 = .ok (.iload_n 1, 1) := by decide +kernel
theorem d_X_byteOf_1 : decode prog_1_method_20_code 1 = .ok (.ifCond .lt 9, 3) := by decide +kernel
theorem d_X_byteOf_4 : decode prog_1_method_20_code 4 = .ok (.iload_n 1, 1) := by decide +kernel
theorem d_X_byteOf_5 : decode prog_1_method_20_code 5 = .ok (.aload_n 0, 1) := by decide +kernel
theorem d_X_byteOf_6 : decode prog_1_method_20_code 6 = .ok (.arraylength, 1) := by decide +kernel
theorem d_X_byteOf_7 : decode prog_1_method_20_code 7 = .ok (.if_icmp .lt 7, 3) := by decide +kernel
theorem d_X_byteOf_10 : decode prog_1_method_20_code 10 = .ok (.iconst (-1), 1) := by decide +kernel
theorem d_X_byteOf_11 : decode prog_1_method_20_code 11 = .ok (.goto 10, 3) := by decide +kernel
theorem d_X_byteOf_14 : decode prog_1_method_20_code 14 = .ok (.aload_n 0, 1) := by decide +kernel
theorem d_X_byteOf_15 : decode prog_1_method_20_code 15 = .ok (.iload_n 1, 1) := by decide +kernel
theorem d_X_byteOf_16 : decode prog_1_method_20_code 16 = .ok (.baload, 1) := by decide +kernel
theorem d_X_byteOf_17 : decode prog_1_method_20_code 17 = .ok (.sipush 255, 3) := by decide +kernel
theorem d_X_byteOf_20 : decode prog_1_method_20_code 20 = .ok (.iand, 1) := by decide +kernel
theorem d_X_byteOf_21 : decode prog_1_method_20_code 21 = .ok (.ireturn, 1) := by decide +kernel
theorem d_X_column_0 : decode prog_1_method_7_code 0 = .ok (.aload_n 0, 1) := by decide +kernel
theorem d_X_column_1 : decode prog_1_method_7_code 1 = .ok (.getfield 26, 3) := by decide +kernel
theorem d_X_column_4 : decode prog_1_method_7_code 4 = .ok (.iload_n 1, 1) := by decide +kernel
theorem d_X_column_5 : decode prog_1_method_7_code 5 = .ok (.invokevirtual 93, 3) := by decide +kernel
theorem d_X_column_8 : decode prog_1_method_7_code 8 = .ok (.ireturn, 1) := by decide +kernel
theorem d_X_find_0 : decode prog_1_method_8_code 0 = .ok (.aload_n 0, 1) := by decide +kernel
theorem d_X_find_1 : decode prog_1_method_8_code 1 = .ok (.getfield 10, 3) := by decide +kernel
theorem d_X_find_4 : decode prog_1_method_8_code 4 = .ok (.iload_n 2, 1) := by decide +kernel
theorem d_X_find_5 : decode prog_1_method_8_code 5 = .ok (.invokevirtual 48, 3) := by decide +kernel
theorem d_X_find_8 : decode prog_1_method_8_code 8 = .ok (.astore_n 3, 1) := by decide +kernel
theorem d_X_find_9 : decode prog_1_method_8_code 9 = .ok (.aload_n 3, 1) := by decide +kernel
theorem d_X_find_10 : decode prog_1_method_8_code 10 = .ok (.ifnonnull 8, 3) := by decide +kernel
theorem d_X_find_13 : decode prog_1_method_8_code 13 = .ok (.bipush (-2), 2) := by decide +kernel
theorem d_X_find_15 : decode prog_1_method_8_code 15 = .ok (.goto 14, 3) := by decide +kernel
theorem d_X_find_18 : decode prog_1_method_8_code 18 = .ok (.aload_n 0, 1) := by decide +kernel
theorem d_X_find_19 : decode prog_1_method_8_code 19 = .ok (.getfield 26, 3) := by decide +kernel
theorem d_X_find_22 : decode prog_1_method_8_code 22 = .ok (.iload_n 1, 1) := by decide +kernel
theorem d_X_find_23 : decode prog_1_method_8_code 23 = .ok (.aload_n 3, 1) := by decide +kernel
theorem d_X_find_24 : decode prog_1_method_8_code 24 = .ok (.iconst 0, 1) := by decide +kernel
theorem d_X_find_25 : decode prog_1_method_8_code 25 = .ok (.iload_n 2, 1) := by decide +kernel
theorem d_X_find_26 : decode prog_1_method_8_code 26 = .ok (.invokevirtual 96, 3) := by decide +kernel
theorem d_X_find_29 : decode prog_1_method_8_code 29 = .ok (.ireturn, 1) := by decide +kernel
theorem d_X_record_0 : decode prog_1_method_9_code 0 = .ok (.aload_n 0, 1) := by decide +kernel
theorem d_X_record_1 : decode prog_1_method_9_code 1 = .ok (.getfield 10, 3) := by decide +kernel
theorem d_X_record_4 : decode prog_1_method_9_code 4 = .ok (.iload_n 1, 1) := by decide +kernel
theorem d_X_record_5 : decode prog_1_method_9_code 5 = .ok (.invokevirtual 48, 3) := by decide +kernel
theorem d_X_record_8 : decode prog_1_method_9_code 8 = .ok (.astore_n 2, 1) := by decide +kernel
theorem d_X_record_9 : decode prog_1_method_9_code 9 = .ok (.aload_n 2, 1) := by decide +kernel
theorem d_X_record_10 : decode prog_1_method_9_code 10 = .ok (.ifnonnull 6, 3) := by decide +kernel
theorem d_X_record_13 : decode prog_1_method_9_code 13 = .ok (.bipush (-2), 2) := by decide +kernel
theorem d_X_record_15 : decode prog_1_method_9_code 15 = .ok (.ireturn, 1) := by decide +kernel
theorem d_X_record_16 : decode prog_1_method_9_code 16 = .ok (.aload_n 0, 1) := by decide +kernel
theorem d_X_record_17 : decode prog_1_method_9_code 17 = .ok (.getfield 26, 3) := by decide +kernel
theorem d_X_record_20 : decode prog_1_method_9_code 20 = .ok (.getfield 69, 3) := by decide +kernel
theorem d_X_record_23 : decode prog_1_method_9_code 23 = .ok (.ifCond .ne 5, 3) := by decide +kernel
theorem d_X_record_26 : decode prog_1_method_9_code 26 = .ok (.iconst 0, 1) := by decide +kernel
theorem d_X_record_27 : decode prog_1_method_9_code 27 = .ok (.ireturn, 1) := by decide +kernel
theorem d_X_record_28 : decode prog_1_method_9_code 28 = .ok (.aload_n 0, 1) := by decide +kernel
theorem d_X_record_29 : decode prog_1_method_9_code 29 = .ok (.getfield 37, 3) := by decide +kernel
theorem d_X_record_32 : decode prog_1_method_9_code 32 = .ok (.invokevirtual 66, 3) := by decide +kernel
theorem d_X_record_35 : decode prog_1_method_9_code 35 = .ok (.new 100, 3) := by decide +kernel
theorem d_X_record_38 : decode prog_1_method_9_code 38 = .ok (.dup, 1) := by decide +kernel
theorem d_X_record_39 : decode prog_1_method_9_code 39 = .ok (.aload_n 2, 1) := by decide +kernel
theorem d_X_record_40 : decode prog_1_method_9_code 40 = .ok (.aload_n 0, 1) := by decide +kernel
theorem d_X_record_41 : decode prog_1_method_9_code 41 = .ok (.getfield 26, 3) := by decide +kernel
theorem d_X_record_44 : decode prog_1_method_9_code 44 = .ok (.aload_n 0, 1) := by decide +kernel
theorem d_X_record_45 : decode prog_1_method_9_code 45 = .ok (.getfield 37, 3) := by decide +kernel
theorem d_X_record_48 : decode prog_1_method_9_code 48 = .ok (.invokespecial 102, 3) := by decide +kernel
theorem d_X_record_51 : decode prog_1_method_9_code 51 = .ok (.astore_n 3, 1) := by decide +kernel
theorem d_X_record_52 : decode prog_1_method_9_code 52 = .ok (.aload_n 3, 1) := by decide +kernel
theorem d_X_record_53 : decode prog_1_method_9_code 53 = .ok (.iconst (-1), 1) := by decide +kernel
theorem d_X_record_54 : decode prog_1_method_9_code 54 = .ok (.iconst 0, 1) := by decide +kernel
theorem d_X_record_55 : decode prog_1_method_9_code 55 = .ok (.iconst 0, 1) := by decide +kernel
theorem d_X_record_56 : decode prog_1_method_9_code 56 = .ok (.invokevirtual 105, 3) := by decide +kernel
theorem d_X_record_59 : decode prog_1_method_9_code 59 = .ok (.ifCond .eq 10, 3) := by decide +kernel
theorem d_X_record_62 : decode prog_1_method_9_code 62 = .ok (.aload_n 2, 1) := by decide +kernel
theorem d_X_record_63 : decode prog_1_method_9_code 63 = .ok (.invokevirtual 109, 3) := by decide +kernel
theorem d_X_record_66 : decode prog_1_method_9_code 66 = .ok (.ifCond .ne 8, 3) := by decide +kernel
theorem d_X_record_69 : decode prog_1_method_9_code 69 = .ok (.aload_n 2, 1) := by decide +kernel
theorem d_X_record_70 : decode prog_1_method_9_code 70 = .ok (.getfield 60, 3) := by decide +kernel
theorem d_X_record_73 : decode prog_1_method_9_code 73 = .ok (.ireturn, 1) := by decide +kernel
theorem d_X_record_74 : decode prog_1_method_9_code 74 = .ok (.aload_n 0, 1) := by decide +kernel
theorem d_X_record_75 : decode prog_1_method_9_code 75 = .ok (.getfield 33, 3) := by decide +kernel
theorem d_X_record_78 : decode prog_1_method_9_code 78 = .ok (.astore 4, 2) := by decide +kernel
theorem d_X_record_80 : decode prog_1_method_9_code 80 = .ok (.aload_n 0, 1) := by decide +kernel
theorem d_X_record_81 : decode prog_1_method_9_code 81 = .ok (.aload_n 0, 1) := by decide +kernel
theorem d_X_record_82 : decode prog_1_method_9_code 82 = .ok (.getfield 37, 3) := by decide +kernel
theorem d_X_record_85 : decode prog_1_method_9_code 85 = .ok (.putfield 33, 3) := by decide +kernel
theorem d_X_record_88 : decode prog_1_method_9_code 88 = .ok (.aload_n 0, 1) := by decide +kernel
theorem d_X_record_89 : decode prog_1_method_9_code 89 = .ok (.aload 4, 2) := by decide +kernel
theorem d_X_record_91 : decode prog_1_method_9_code 91 = .ok (.putfield 37, 3) := by decide +kernel
theorem d_X_record_94 : decode prog_1_method_9_code 94 = .ok (.iconst (-1), 1) := by decide +kernel
theorem d_X_record_95 : decode prog_1_method_9_code 95 = .ok (.ireturn, 1) := by decide +kernel
theorem d_X_begin_0 : decode prog_1_method_10_code 0 = .ok (.aload_n 0, 1) := by decide +kernel
theorem d_X_begin_1 : decode prog_1_method_10_code 1 = .ok (.getfield 33, 3) := by decide +kernel
theorem d_X_begin_4 : decode prog_1_method_10_code 4 = .ok (.invokevirtual 66, 3) := by decide +kernel
theorem d_X_begin_7 : decode prog_1_method_10_code 7 = .ok (.return_, 1) := by decide +kernel
theorem d_X_add_0 : decode prog_1_method_11_code 0 = .ok (.aload_n 0, 1) := by decide +kernel
theorem d_X_add_1 : decode prog_1_method_11_code 1 = .ok (.getfield 26, 3) := by decide +kernel
theorem d_X_add_4 : decode prog_1_method_11_code 4 = .ok (.iload_n 2, 1) := by decide +kernel
theorem d_X_add_5 : decode prog_1_method_11_code 5 = .ok (.invokevirtual 75, 3) := by decide +kernel
theorem d_X_add_8 : decode prog_1_method_11_code 8 = .ok (.astore 5, 2) := by decide +kernel
theorem d_X_add_10 : decode prog_1_method_11_code 10 = .ok (.aload 5, 2) := by decide +kernel
theorem d_X_add_12 : decode prog_1_method_11_code 12 = .ok (.ifnull 34, 3) := by decide +kernel
theorem d_X_add_15 : decode prog_1_method_11_code 15 = .ok (.aload 5, 2) := by decide +kernel
theorem d_X_add_17 : decode prog_1_method_11_code 17 = .ok (.getfield 112, 3) := by decide +kernel
theorem d_X_add_20 : decode prog_1_method_11_code 20 = .ok (.iconst 3, 1) := by decide +kernel
theorem d_X_add_21 : decode prog_1_method_11_code 21 = .ok (.if_icmp .eq 25, 3) := by decide +kernel
theorem d_X_add_24 : decode prog_1_method_11_code 24 = .ok (.aload 5, 2) := by decide +kernel
theorem d_X_add_26 : decode prog_1_method_11_code 26 = .ok (.lload_n 3, 1) := by decide +kernel
theorem d_X_add_27 : decode prog_1_method_11_code 27 = .ok (.invokevirtual 115, 3) := by decide +kernel
theorem d_X_add_30 : decode prog_1_method_11_code 30 = .ok (.ifCond .eq 16, 3) := by decide +kernel
theorem d_X_add_33 : decode prog_1_method_11_code 33 = .ok (.aload_n 0, 1) := by decide +kernel
theorem d_X_add_34 : decode prog_1_method_11_code 34 = .ok (.getfield 33, 3) := by decide +kernel
theorem d_X_add_37 : decode prog_1_method_11_code 37 = .ok (.iload_n 1, 1) := by decide +kernel
theorem d_X_add_38 : decode prog_1_method_11_code 38 = .ok (.aload 5, 2) := by decide +kernel
theorem d_X_add_40 : decode prog_1_method_11_code 40 = .ok (.invokevirtual 119, 3) := by decide +kernel
theorem d_X_add_43 : decode prog_1_method_11_code 43 = .ok (.ifCond .ne 5, 3) := by decide +kernel
theorem d_X_add_46 : decode prog_1_method_11_code 46 = .ok (.iconst (-1), 1) := by decide +kernel
theorem d_X_add_47 : decode prog_1_method_11_code 47 = .ok (.ireturn, 1) := by decide +kernel
theorem d_X_add_48 : decode prog_1_method_11_code 48 = .ok (.aload_n 0, 1) := by decide +kernel
theorem d_X_add_49 : decode prog_1_method_11_code 49 = .ok (.getfield 33, 3) := by decide +kernel
theorem d_X_add_52 : decode prog_1_method_11_code 52 = .ok (.iload_n 1, 1) := by decide +kernel
theorem d_X_add_53 : decode prog_1_method_11_code 53 = .ok (.aload 5, 2) := by decide +kernel
theorem d_X_add_55 : decode prog_1_method_11_code 55 = .ok (.aload 5, 2) := by decide +kernel
theorem d_X_add_57 : decode prog_1_method_11_code 57 = .ok (.lload_n 3, 1) := by decide +kernel
theorem d_X_add_58 : decode prog_1_method_11_code 58 = .ok (.invokevirtual 123, 3) := by decide +kernel
theorem d_X_add_61 : decode prog_1_method_11_code 61 = .ok (.getstatic 127, 3) := by decide +kernel
theorem d_X_add_64 : decode prog_1_method_11_code 64 = .ok (.invokevirtual 130, 3) := by decide +kernel
theorem d_X_add_67 : decode prog_1_method_11_code 67 = .ok (.ireturn, 1) := by decide +kernel
theorem d_X_addText_0 : decode prog_1_method_12_code 0 = .ok (.aload_n 0, 1) := by decide +kernel
theorem d_X_addText_1 : decode prog_1_method_12_code 1 = .ok (.getfield 10, 3) := by decide +kernel
theorem d_X_addText_4 : decode prog_1_method_12_code 4 = .ok (.iload_n 3, 1) := by decide +kernel
theorem d_X_addText_5 : decode prog_1_method_12_code 5 = .ok (.invokevirtual 48, 3) := by decide +kernel
theorem d_X_addText_8 : decode prog_1_method_12_code 8 = .ok (.astore 4, 2) := by decide +kernel
theorem d_X_addText_10 : decode prog_1_method_12_code 10 = .ok (.aload 4, 2) := by decide +kernel
theorem d_X_addText_12 : decode prog_1_method_12_code 12 = .ok (.ifnonnull 6, 3) := by decide +kernel
theorem d_X_addText_15 : decode prog_1_method_12_code 15 = .ok (.bipush (-2), 2) := by decide +kernel
theorem d_X_addText_17 : decode prog_1_method_12_code 17 = .ok (.ireturn, 1) := by decide +kernel
theorem d_X_addText_18 : decode prog_1_method_12_code 18 = .ok (.aload_n 0, 1) := by decide +kernel
theorem d_X_addText_19 : decode prog_1_method_12_code 19 = .ok (.getfield 26, 3) := by decide +kernel
theorem d_X_addText_22 : decode prog_1_method_12_code 22 = .ok (.iload_n 2, 1) := by decide +kernel
theorem d_X_addText_23 : decode prog_1_method_12_code 23 = .ok (.invokevirtual 75, 3) := by decide +kernel
theorem d_X_addText_26 : decode prog_1_method_12_code 26 = .ok (.astore 5, 2) := by decide +kernel
theorem d_X_addText_28 : decode prog_1_method_12_code 28 = .ok (.aload 5, 2) := by decide +kernel
theorem d_X_addText_30 : decode prog_1_method_12_code 30 = .ok (.ifnull 32, 3) := by decide +kernel
theorem d_X_addText_33 : decode prog_1_method_12_code 33 = .ok (.aload 5, 2) := by decide +kernel
theorem d_X_addText_35 : decode prog_1_method_12_code 35 = .ok (.getfield 112, 3) := by decide +kernel
theorem d_X_addText_38 : decode prog_1_method_12_code 38 = .ok (.iconst 3, 1) := by decide +kernel
theorem d_X_addText_39 : decode prog_1_method_12_code 39 = .ok (.if_icmp .ne 23, 3) := by decide +kernel
theorem d_X_addText_42 : decode prog_1_method_12_code 42 = .ok (.iload_n 3, 1) := by decide +kernel
theorem d_X_addText_43 : decode prog_1_method_12_code 43 = .ok (.sipush 255, 3) := by decide +kernel
theorem d_X_addText_46 : decode prog_1_method_12_code 46 = .ok (.if_icmp .gt 16, 3) := by decide +kernel
theorem d_X_addText_49 : decode prog_1_method_12_code 49 = .ok (.aload_n 0, 1) := by decide +kernel
theorem d_X_addText_50 : decode prog_1_method_12_code 50 = .ok (.getfield 33, 3) := by decide +kernel
theorem d_X_addText_53 : decode prog_1_method_12_code 53 = .ok (.iload_n 1, 1) := by decide +kernel
theorem d_X_addText_54 : decode prog_1_method_12_code 54 = .ok (.aload 5, 2) := by decide +kernel
theorem d_X_addText_56 : decode prog_1_method_12_code 56 = .ok (.invokevirtual 119, 3) := by decide +kernel
theorem d_X_addText_59 : decode prog_1_method_12_code 59 = .ok (.ifCond .ne 5, 3) := by decide +kernel
theorem d_X_addText_62 : decode prog_1_method_12_code 62 = .ok (.iconst (-1), 1) := by decide +kernel
theorem d_X_addText_63 : decode prog_1_method_12_code 63 = .ok (.ireturn, 1) := by decide +kernel
theorem d_X_addText_64 : decode prog_1_method_12_code 64 = .ok (.aload_n 0, 1) := by decide +kernel
theorem d_X_addText_65 : decode prog_1_method_12_code 65 = .ok (.getfield 33, 3) := by decide +kernel
theorem d_X_addText_68 : decode prog_1_method_12_code 68 = .ok (.iload_n 1, 1) := by decide +kernel
theorem d_X_addText_69 : decode prog_1_method_12_code 69 = .ok (.aload 5, 2) := by decide +kernel
theorem d_X_addText_71 : decode prog_1_method_12_code 71 = .ok (.lconst 0, 1) := by decide +kernel
theorem d_X_addText_72 : decode prog_1_method_12_code 72 = .ok (.aload 4, 2) := by decide +kernel
theorem d_X_addText_74 : decode prog_1_method_12_code 74 = .ok (.iconst 0, 1) := by decide +kernel
theorem d_X_addText_75 : decode prog_1_method_12_code 75 = .ok (.iload_n 3, 1) := by decide +kernel
theorem d_X_addText_76 : decode prog_1_method_12_code 76 = .ok (.invokevirtual 134, 3) := by decide +kernel
theorem d_X_addText_79 : decode prog_1_method_12_code 79 = .ok (.invokevirtual 130, 3) := by decide +kernel
theorem d_X_addText_82 : decode prog_1_method_12_code 82 = .ok (.ireturn, 1) := by decide +kernel
theorem d_X_nodes_0 : decode prog_1_method_13_code 0 = .ok (.aload_n 0, 1) := by decide +kernel
theorem d_X_nodes_1 : decode prog_1_method_13_code 1 = .ok (.getfield 33, 3) := by decide +kernel
theorem d_X_nodes_4 : decode prog_1_method_13_code 4 = .ok (.getfield 138, 3) := by decide +kernel
theorem d_X_nodes_7 : decode prog_1_method_13_code 7 = .ok (.ireturn, 1) := by decide +kernel
theorem d_X_node_0 : decode prog_1_method_14_code 0 = .ok (.aload_n 0, 1) := by decide +kernel
theorem d_X_node_1 : decode prog_1_method_14_code 1 = .ok (.getfield 33, 3) := by decide +kernel
theorem d_X_node_4 : decode prog_1_method_14_code 4 = .ok (.iload_n 1, 1) := by decide +kernel
theorem d_X_node_5 : decode prog_1_method_14_code 5 = .ok (.invokevirtual 139, 3) := by decide +kernel
theorem d_X_node_8 : decode prog_1_method_14_code 8 = .ok (.astore_n 3, 1) := by decide +kernel
theorem d_X_node_9 : decode prog_1_method_14_code 9 = .ok (.aload_n 3, 1) := by decide +kernel
theorem d_X_node_10 : decode prog_1_method_14_code 10 = .ok (.ifnonnull 7, 3) := by decide +kernel
theorem d_X_node_13 : decode prog_1_method_14_code 13 = .ok (.iconst (-1), 1) := by decide +kernel
theorem d_X_node_14 : decode prog_1_method_14_code 14 = .ok (.goto 8, 3) := by decide +kernel
theorem d_X_node_17 : decode prog_1_method_14_code 17 = .ok (.aload_n 3, 1) := by decide +kernel
theorem d_X_node_18 : decode prog_1_method_14_code 18 = .ok (.iload_n 2, 1) := by decide +kernel
theorem d_X_node_19 : decode prog_1_method_14_code 19 = .ok (.invokevirtual 143, 3) := by decide +kernel
theorem d_X_node_22 : decode prog_1_method_14_code 22 = .ok (.ireturn, 1) := by decide +kernel
theorem d_X_value_0 : decode prog_1_method_15_code 0 = .ok (.aload_n 0, 1) := by decide +kernel
theorem d_X_value_1 : decode prog_1_method_15_code 1 = .ok (.getfield 33, 3) := by decide +kernel
theorem d_X_value_4 : decode prog_1_method_15_code 4 = .ok (.iload_n 1, 1) := by decide +kernel
theorem d_X_value_5 : decode prog_1_method_15_code 5 = .ok (.invokevirtual 139, 3) := by decide +kernel
theorem d_X_value_8 : decode prog_1_method_15_code 8 = .ok (.astore_n 2, 1) := by decide +kernel
theorem d_X_value_9 : decode prog_1_method_15_code 9 = .ok (.aload_n 2, 1) := by decide +kernel
theorem d_X_value_10 : decode prog_1_method_15_code 10 = .ok (.ifnonnull 7, 3) := by decide +kernel
theorem d_X_value_13 : decode prog_1_method_15_code 13 = .ok (.lconst 0, 1) := by decide +kernel
theorem d_X_value_14 : decode prog_1_method_15_code 14 = .ok (.goto 7, 3) := by decide +kernel
theorem d_X_value_17 : decode prog_1_method_15_code 17 = .ok (.aload_n 2, 1) := by decide +kernel
theorem d_X_value_18 : decode prog_1_method_15_code 18 = .ok (.getfield 146, 3) := by decide +kernel
theorem d_X_value_21 : decode prog_1_method_15_code 21 = .ok (.lreturn, 1) := by decide +kernel
theorem d_X_textByte_0 : decode prog_1_method_16_code 0 = .ok (.aload_n 0, 1) := by decide +kernel
theorem d_X_textByte_1 : decode prog_1_method_16_code 1 = .ok (.getfield 33, 3) := by decide +kernel
theorem d_X_textByte_4 : decode prog_1_method_16_code 4 = .ok (.iload_n 1, 1) := by decide +kernel
theorem d_X_textByte_5 : decode prog_1_method_16_code 5 = .ok (.invokevirtual 139, 3) := by decide +kernel
theorem d_X_textByte_8 : decode prog_1_method_16_code 8 = .ok (.astore_n 3, 1) := by decide +kernel
theorem d_X_textByte_9 : decode prog_1_method_16_code 9 = .ok (.aload_n 3, 1) := by decide +kernel
theorem d_X_textByte_10 : decode prog_1_method_16_code 10 = .ok (.ifnonnull 7, 3) := by decide +kernel
theorem d_X_textByte_13 : decode prog_1_method_16_code 13 = .ok (.iconst (-1), 1) := by decide +kernel
theorem d_X_textByte_14 : decode prog_1_method_16_code 14 = .ok (.goto 11, 3) := by decide +kernel
theorem d_X_textByte_17 : decode prog_1_method_16_code 17 = .ok (.aload_n 3, 1) := by decide +kernel
theorem d_X_textByte_18 : decode prog_1_method_16_code 18 = .ok (.getfield 150, 3) := by decide +kernel
theorem d_X_textByte_21 : decode prog_1_method_16_code 21 = .ok (.iload_n 2, 1) := by decide +kernel
theorem d_X_textByte_22 : decode prog_1_method_16_code 22 = .ok (.invokestatic 89, 3) := by decide +kernel
theorem d_X_textByte_25 : decode prog_1_method_16_code 25 = .ok (.ireturn, 1) := by decide +kernel
theorem d_X_isWhole_0 : decode prog_1_method_17_code 0 = .ok (.aload_n 0, 1) := by decide +kernel
theorem d_X_isWhole_1 : decode prog_1_method_17_code 1 = .ok (.getfield 26, 3) := by decide +kernel
theorem d_X_isWhole_4 : decode prog_1_method_17_code 4 = .ok (.getfield 69, 3) := by decide +kernel
theorem d_X_isWhole_7 : decode prog_1_method_17_code 7 = .ok (.ifCond .le 21, 3) := by decide +kernel
theorem d_X_isWhole_10 : decode prog_1_method_17_code 10 = .ok (.aload_n 0, 1) := by decide +kernel
theorem d_X_isWhole_11 : decode prog_1_method_17_code 11 = .ok (.getfield 33, 3) := by decide +kernel
theorem d_X_isWhole_14 : decode prog_1_method_17_code 14 = .ok (.aload_n 0, 1) := by decide +kernel
theorem d_X_isWhole_15 : decode prog_1_method_17_code 15 = .ok (.getfield 26, 3) := by decide +kernel
theorem d_X_isWhole_18 : decode prog_1_method_17_code 18 = .ok (.invokevirtual 153, 3) := by decide +kernel
theorem d_X_isWhole_21 : decode prog_1_method_17_code 21 = .ok (.ifCond .eq 7, 3) := by decide +kernel
theorem d_X_isWhole_24 : decode prog_1_method_17_code 24 = .ok (.iconst 1, 1) := by decide +kernel
theorem d_X_isWhole_25 : decode prog_1_method_17_code 25 = .ok (.goto 4, 3) := by decide +kernel
theorem d_X_isWhole_28 : decode prog_1_method_17_code 28 = .ok (.iconst 0, 1) := by decide +kernel
theorem d_X_isWhole_29 : decode prog_1_method_17_code 29 = .ok (.ireturn, 1) := by decide +kernel
theorem d_X_write_0 : decode prog_1_method_18_code 0 = .ok (.aload_n 0, 1) := by decide +kernel
theorem d_X_write_1 : decode prog_1_method_18_code 1 = .ok (.getfield 19, 3) := by decide +kernel
theorem d_X_write_4 : decode prog_1_method_18_code 4 = .ok (.invokevirtual 157, 3) := by decide +kernel
theorem d_X_write_7 : decode prog_1_method_18_code 7 = .ok (.aload_n 0, 1) := by decide +kernel
theorem d_X_write_8 : decode prog_1_method_18_code 8 = .ok (.invokevirtual 158, 3) := by decide +kernel
theorem d_X_write_11 : decode prog_1_method_18_code 11 = .ok (.ifCond .ne 5, 3) := by decide +kernel
theorem d_X_write_14 : decode prog_1_method_18_code 14 = .ok (.iconst (-1), 1) := by decide +kernel
theorem d_X_write_15 : decode prog_1_method_18_code 15 = .ok (.ireturn, 1) := by decide +kernel
theorem d_X_write_16 : decode prog_1_method_18_code 16 = .ok (.new 161, 3) := by decide +kernel
theorem d_X_write_19 : decode prog_1_method_18_code 19 = .ok (.dup, 1) := by decide +kernel
theorem d_X_write_20 : decode prog_1_method_18_code 20 = .ok (.aload_n 0, 1) := by decide +kernel
theorem d_X_write_21 : decode prog_1_method_18_code 21 = .ok (.getfield 26, 3) := by decide +kernel
theorem d_X_write_24 : decode prog_1_method_18_code 24 = .ok (.aload_n 0, 1) := by decide +kernel
theorem d_X_write_25 : decode prog_1_method_18_code 25 = .ok (.getfield 33, 3) := by decide +kernel
theorem d_X_write_28 : decode prog_1_method_18_code 28 = .ok (.aload_n 0, 1) := by decide +kernel
theorem d_X_write_29 : decode prog_1_method_18_code 29 = .ok (.getfield 19, 3) := by decide +kernel
theorem d_X_write_32 : decode prog_1_method_18_code 32 = .ok (.invokespecial 163, 3) := by decide +kernel
theorem d_X_write_35 : decode prog_1_method_18_code 35 = .ok (.iconst 0, 1) := by decide +kernel
theorem d_X_write_36 : decode prog_1_method_18_code 36 = .ok (.iconst 0, 1) := by decide +kernel
theorem d_X_write_37 : decode prog_1_method_18_code 37 = .ok (.invokevirtual 166, 3) := by decide +kernel
theorem d_X_write_40 : decode prog_1_method_18_code 40 = .ok (.pop, 1) := by decide +kernel
theorem d_X_write_41 : decode prog_1_method_18_code 41 = .ok (.aload_n 0, 1) := by decide +kernel
theorem d_X_write_42 : decode prog_1_method_18_code 42 = .ok (.getfield 19, 3) := by decide +kernel
theorem d_X_write_45 : decode prog_1_method_18_code 45 = .ok (.getfield 170, 3) := by decide +kernel
theorem d_X_write_48 : decode prog_1_method_18_code 48 = .ok (.ireturn, 1) := by decide +kernel
theorem d_X_output_0 : decode prog_1_method_19_code 0 = .ok (.aload_n 0, 1) := by decide +kernel
theorem d_X_output_1 : decode prog_1_method_19_code 1 = .ok (.getfield 19, 3) := by decide +kernel
theorem d_X_output_4 : decode prog_1_method_19_code 4 = .ok (.iload_n 1, 1) := by decide +kernel
theorem d_X_output_5 : decode prog_1_method_19_code 5 = .ok (.invokevirtual 171, 3) := by decide +kernel
theorem d_X_output_8 : decode prog_1_method_19_code 8 = .ok (.ireturn, 1) := by decide +kernel
