theorem dX0_init_0 : decode cX0_init 0 = .ok (.aload_n 0, 1) := by decide +kernel
theorem dX0_init_1 : decode cX0_init 1 = .ok (.invokespecial 3, 3) := by decide +kernel
theorem dX0_init_4 : decode cX0_init 4 = .ok (.aload_n 0, 1) := by decide +kernel
theorem dX0_init_5 : decode cX0_init 5 = .ok (.bipush 60, 2) := by decide +kernel
theorem dX0_init_7 : decode cX0_init 7 = .ok (.newarray .char, 2) := by decide +kernel
theorem dX0_init_9 : decode cX0_init 9 = .ok (.putfield 11, 3) := by decide +kernel
theorem dX0_init_12 : decode cX0_init 12 = .ok (.aload_n 0, 1) := by decide +kernel
theorem dX0_init_13 : decode cX0_init 13 = .ok (.bipush 13, 2) := by decide +kernel
theorem dX0_init_15 : decode cX0_init 15 = .ok (.newarray .int, 2) := by decide +kernel
theorem dX0_init_17 : decode cX0_init 17 = .ok (.putfield 15, 3) := by decide +kernel
theorem dX0_init_20 : decode cX0_init 20 = .ok (.aload_n 0, 1) := by decide +kernel
theorem dX0_init_21 : decode cX0_init 21 = .ok (.bipush 39, 2) := by decide +kernel
theorem dX0_init_23 : decode cX0_init 23 = .ok (.newarray .int, 2) := by decide +kernel
theorem dX0_init_25 : decode cX0_init 25 = .ok (.putfield 19, 3) := by decide +kernel
theorem dX0_init_28 : decode cX0_init 28 = .ok (.return_, 1) := by decide +kernel
theorem dX0_hasRoom_0 : decode cX0_hasRoom 0 = .ok (.aload_n 0, 1) := by decide +kernel
theorem dX0_hasRoom_1 : decode cX0_hasRoom 1 = .ok (.getfield 22, 3) := by decide +kernel
theorem dX0_hasRoom_4 : decode cX0_hasRoom 4 = .ok (.bipush 60, 2) := by decide +kernel
theorem dX0_hasRoom_6 : decode cX0_hasRoom 6 = .ok (.if_icmp .ge 7, 3) := by decide +kernel
theorem dX0_hasRoom_9 : decode cX0_hasRoom 9 = .ok (.iconst 1, 1) := by decide +kernel
theorem dX0_hasRoom_10 : decode cX0_hasRoom 10 = .ok (.goto 4, 3) := by decide +kernel
theorem dX0_hasRoom_13 : decode cX0_hasRoom 13 = .ok (.iconst 0, 1) := by decide +kernel
theorem dX0_hasRoom_14 : decode cX0_hasRoom 14 = .ok (.ireturn, 1) := by decide +kernel
theorem dX0_add_0 : decode cX0_add 0 = .ok (.aload_n 0, 1) := by decide +kernel
theorem dX0_add_1 : decode cX0_add 1 = .ok (.getfield 11, 3) := by decide +kernel
theorem dX0_add_4 : decode cX0_add 4 = .ok (.aload_n 0, 1) := by decide +kernel
theorem dX0_add_5 : decode cX0_add 5 = .ok (.getfield 22, 3) := by decide +kernel
theorem dX0_add_8 : decode cX0_add 8 = .ok (.iload_n 1, 1) := by decide +kernel
theorem dX0_add_9 : decode cX0_add 9 = .ok (.castore, 1) := by decide +kernel
theorem dX0_add_10 : decode cX0_add 10 = .ok (.aload_n 0, 1) := by decide +kernel
theorem dX0_add_11 : decode cX0_add 11 = .ok (.dup, 1) := by decide +kernel
theorem dX0_add_12 : decode cX0_add 12 = .ok (.getfield 22, 3) := by decide +kernel
theorem dX0_add_15 : decode cX0_add 15 = .ok (.iconst 1, 1) := by decide +kernel
theorem dX0_add_16 : decode cX0_add 16 = .ok (.iadd, 1) := by decide +kernel
theorem dX0_add_17 : decode cX0_add 17 = .ok (.putfield 22, 3) := by decide +kernel
theorem dX0_add_20 : decode cX0_add 20 = .ok (.aload_n 0, 1) := by decide +kernel
theorem dX0_add_21 : decode cX0_add 21 = .ok (.getfield 22, 3) := by decide +kernel
theorem dX0_add_24 : decode cX0_add 24 = .ok (.ireturn, 1) := by decide +kernel
theorem dX0_empty_0 : decode cX0_empty 0 = .ok (.aload_n 0, 1) := by decide +kernel
theorem dX0_empty_1 : decode cX0_empty 1 = .ok (.iconst 0, 1) := by decide +kernel
theorem dX0_empty_2 : decode cX0_empty 2 = .ok (.putfield 22, 3) := by decide +kernel
theorem dX0_empty_5 : decode cX0_empty 5 = .ok (.return_, 1) := by decide +kernel
theorem dX0_numberOf_0 : decode cX0_numberOf 0 = .ok (.aload_n 0, 1) := by decide +kernel
theorem dX0_numberOf_1 : decode cX0_numberOf 1 = .ok (.getfield 19, 3) := by decide +kernel
theorem dX0_numberOf_4 : decode cX0_numberOf 4 = .ok (.iload_n 1, 1) := by decide +kernel
theorem dX0_numberOf_5 : decode cX0_numberOf 5 = .ok (.iconst 3, 1) := by decide +kernel
theorem dX0_numberOf_6 : decode cX0_numberOf 6 = .ok (.imul, 1) := by decide +kernel
theorem dX0_numberOf_7 : decode cX0_numberOf 7 = .ok (.iload_n 2, 1) := by decide +kernel
theorem dX0_numberOf_8 : decode cX0_numberOf 8 = .ok (.iadd, 1) := by decide +kernel
theorem dX0_numberOf_9 : decode cX0_numberOf 9 = .ok (.iaload, 1) := by decide +kernel
theorem dX0_numberOf_10 : decode cX0_numberOf 10 = .ok (.ireturn, 1) := by decide +kernel
theorem dX0_read_0 : decode cX0_read 0 = .ok (.iconst 0, 1) := by decide +kernel
theorem dX0_read_1 : decode cX0_read 1 = .ok (.istore_n 1, 1) := by decide +kernel
theorem dX0_read_2 : decode cX0_read 2 = .ok (.iconst 0, 1) := by decide +kernel
theorem dX0_read_3 : decode cX0_read 3 = .ok (.istore_n 2, 1) := by decide +kernel
theorem dX0_read_4 : decode cX0_read 4 = .ok (.iload_n 2, 1) := by decide +kernel
theorem dX0_read_5 : decode cX0_read 5 = .ok (.bipush 13, 2) := by decide +kernel
theorem dX0_read_7 : decode cX0_read 7 = .ok (.if_icmp .ge 69, 3) := by decide +kernel
theorem dX0_read_10 : decode cX0_read 10 = .ok (.aload_n 0, 1) := by decide +kernel
theorem dX0_read_11 : decode cX0_read 11 = .ok (.iload_n 2, 1) := by decide +kernel
theorem dX0_read_12 : decode cX0_read 12 = .ok (.iload_n 1, 1) := by decide +kernel
theorem dX0_read_13 : decode cX0_read 13 = .ok (.invokevirtual 26, 3) := by decide +kernel
theorem dX0_read_16 : decode cX0_read 16 = .ok (.istore_n 3, 1) := by decide +kernel
theorem dX0_read_17 : decode cX0_read 17 = .ok (.iload_n 3, 1) := by decide +kernel
theorem dX0_read_18 : decode cX0_read 18 = .ok (.iconst (-1), 1) := by decide +kernel
theorem dX0_read_19 : decode cX0_read 19 = .ok (.if_icmp .eq 5, 3) := by decide +kernel
theorem dX0_read_22 : decode cX0_read 22 = .ok (.iload_n 3, 1) := by decide +kernel
theorem dX0_read_23 : decode cX0_read 23 = .ok (.ireturn, 1) := by decide +kernel
theorem dX0_read_24 : decode cX0_read 24 = .ok (.aload_n 0, 1) := by decide +kernel
theorem dX0_read_25 : decode cX0_read 25 = .ok (.iload_n 2, 1) := by decide +kernel
theorem dX0_read_26 : decode cX0_read 26 = .ok (.iconst 1, 1) := by decide +kernel
theorem dX0_read_27 : decode cX0_read 27 = .ok (.iadd, 1) := by decide +kernel
theorem dX0_read_28 : decode cX0_read 28 = .ok (.putfield 30, 3) := by decide +kernel
theorem dX0_read_31 : decode cX0_read 31 = .ok (.aload_n 0, 1) := by decide +kernel
theorem dX0_read_32 : decode cX0_read 32 = .ok (.getfield 33, 3) := by decide +kernel
theorem dX0_read_35 : decode cX0_read 35 = .ok (.aload_n 0, 1) := by decide +kernel
theorem dX0_read_36 : decode cX0_read 36 = .ok (.getfield 22, 3) := by decide +kernel
theorem dX0_read_39 : decode cX0_read 39 = .ok (.if_icmp .lt 5, 3) := by decide +kernel
theorem dX0_read_42 : decode cX0_read 42 = .ok (.iconst (-1), 1) := by decide +kernel
theorem dX0_read_43 : decode cX0_read 43 = .ok (.ireturn, 1) := by decide +kernel
theorem dX0_read_44 : decode cX0_read 44 = .ok (.aload_n 0, 1) := by decide +kernel
theorem dX0_read_45 : decode cX0_read 45 = .ok (.getfield 11, 3) := by decide +kernel
theorem dX0_read_48 : decode cX0_read 48 = .ok (.aload_n 0, 1) := by decide +kernel
theorem dX0_read_49 : decode cX0_read 49 = .ok (.getfield 33, 3) := by decide +kernel
theorem dX0_read_52 : decode cX0_read 52 = .ok (.caload, 1) := by decide +kernel
theorem dX0_read_53 : decode cX0_read 53 = .ok (.bipush 59, 2) := by decide +kernel
theorem dX0_read_55 : decode cX0_read 55 = .ok (.if_icmp .eq 8, 3) := by decide +kernel
theorem dX0_read_58 : decode cX0_read 58 = .ok (.aload_n 0, 1) := by decide +kernel
theorem dX0_read_59 : decode cX0_read 59 = .ok (.getfield 33, 3) := by decide +kernel
theorem dX0_read_62 : decode cX0_read 62 = .ok (.ireturn, 1) := by decide +kernel
theorem dX0_read_63 : decode cX0_read 63 = .ok (.aload_n 0, 1) := by decide +kernel
theorem dX0_read_64 : decode cX0_read 64 = .ok (.getfield 33, 3) := by decide +kernel
theorem dX0_read_67 : decode cX0_read 67 = .ok (.iconst 1, 1) := by decide +kernel
theorem dX0_read_68 : decode cX0_read 68 = .ok (.iadd, 1) := by decide +kernel
theorem dX0_read_69 : decode cX0_read 69 = .ok (.istore_n 1, 1) := by decide +kernel
theorem dX0_read_70 : decode cX0_read 70 = .ok (.iinc 2 1, 3) := by decide +kernel
theorem dX0_read_73 : decode cX0_read 73 = .ok (.goto (-69), 3) := by decide +kernel
theorem dX0_read_76 : decode cX0_read 76 = .ok (.iload_n 1, 1) := by decide +kernel
theorem dX0_read_77 : decode cX0_read 77 = .ok (.ireturn, 1) := by decide +kernel
theorem dX0_readCommand_0 : decode cX0_readCommand 0 = .ok (.iload_n 2, 1) := by decide +kernel
theorem dX0_readCommand_1 : decode cX0_readCommand 1 = .ok (.istore_n 3, 1) := by decide +kernel
theorem dX0_readCommand_2 : decode cX0_readCommand 2 = .ok (.iconst 0, 1) := by decide +kernel
theorem dX0_readCommand_3 : decode cX0_readCommand 3 = .ok (.istore 4, 2) := by decide +kernel
theorem dX0_readCommand_5 : decode cX0_readCommand 5 = .ok (.iload 4, 2) := by decide +kernel
theorem dX0_readCommand_7 : decode cX0_readCommand 7 = .ok (.bipush 12, 2) := by decide +kernel
theorem dX0_readCommand_9 : decode cX0_readCommand 9 = .ok (.if_icmp .ge 48, 3) := by decide +kernel
theorem dX0_readCommand_12 : decode cX0_readCommand 12 = .ok (.aload_n 0, 1) := by decide +kernel
theorem dX0_readCommand_13 : decode cX0_readCommand 13 = .ok (.iload_n 2, 1) := by decide +kernel
theorem dX0_readCommand_14 : decode cX0_readCommand 14 = .ok (.putfield 33, 3) := by decide +kernel
theorem dX0_readCommand_17 : decode cX0_readCommand 17 = .ok (.aload_n 0, 1) := by decide +kernel
theorem dX0_readCommand_18 : decode cX0_readCommand 18 = .ok (.iload 4, 2) := by decide +kernel
theorem dX0_readCommand_20 : decode cX0_readCommand 20 = .ok (.invokestatic 36, 3) := by decide +kernel
theorem dX0_readCommand_23 : decode cX0_readCommand 23 = .ok (.iload_n 1, 1) := by decide +kernel
theorem dX0_readCommand_24 : decode cX0_readCommand 24 = .ok (.iconst 3, 1) := by decide +kernel
theorem dX0_readCommand_25 : decode cX0_readCommand 25 = .ok (.imul, 1) := by decide +kernel
theorem dX0_readCommand_26 : decode cX0_readCommand 26 = .ok (.invokevirtual 40, 3) := by decide +kernel
theorem dX0_readCommand_29 : decode cX0_readCommand 29 = .ok (.ifCond .eq 13, 3) := by decide +kernel
theorem dX0_readCommand_32 : decode cX0_readCommand 32 = .ok (.aload_n 0, 1) := by decide +kernel
theorem dX0_readCommand_33 : decode cX0_readCommand 33 = .ok (.getfield 15, 3) := by decide +kernel
theorem dX0_readCommand_36 : decode cX0_readCommand 36 = .ok (.iload_n 1, 1) := by decide +kernel
theorem dX0_readCommand_37 : decode cX0_readCommand 37 = .ok (.iload 4, 2) := by decide +kernel
theorem dX0_readCommand_39 : decode cX0_readCommand 39 = .ok (.iastore, 1) := by decide +kernel
theorem dX0_readCommand_40 : decode cX0_readCommand 40 = .ok (.iconst (-1), 1) := by decide +kernel
theorem dX0_readCommand_41 : decode cX0_readCommand 41 = .ok (.ireturn, 1) := by decide +kernel
theorem dX0_readCommand_42 : decode cX0_readCommand 42 = .ok (.iload_n 3, 1) := by decide +kernel
theorem dX0_readCommand_43 : decode cX0_readCommand 43 = .ok (.aload_n 0, 1) := by decide +kernel
theorem dX0_readCommand_44 : decode cX0_readCommand 44 = .ok (.getfield 33, 3) := by decide +kernel
theorem dX0_readCommand_47 : decode cX0_readCommand 47 = .ok (.invokestatic 44, 3) := by decide +kernel
theorem dX0_readCommand_50 : decode cX0_readCommand 50 = .ok (.istore_n 3, 1) := by decide +kernel
theorem dX0_readCommand_51 : decode cX0_readCommand 51 = .ok (.iinc 4 1, 3) := by decide +kernel
theorem dX0_readCommand_54 : decode cX0_readCommand 54 = .ok (.goto (-49), 3) := by decide +kernel
theorem dX0_readCommand_57 : decode cX0_readCommand 57 = .ok (.iload_n 3, 1) := by decide +kernel
theorem dX0_readCommand_58 : decode cX0_readCommand 58 = .ok (.ireturn, 1) := by decide +kernel
theorem dX0_fits_0 : decode cX0_fits 0 = .ok (.iload_n 2, 1) := by decide +kernel
theorem dX0_fits_1 : decode cX0_fits 1 = .ok (.istore_n 3, 1) := by decide +kernel
theorem dX0_fits_2 : decode cX0_fits 2 = .ok (.iconst 0, 1) := by decide +kernel
theorem dX0_fits_3 : decode cX0_fits 3 = .ok (.istore 4, 2) := by decide +kernel
theorem dX0_fits_5 : decode cX0_fits 5 = .ok (.iload 4, 2) := by decide +kernel
theorem dX0_fits_7 : decode cX0_fits 7 = .ok (.aload_n 1, 1) := by decide +kernel
theorem dX0_fits_8 : decode cX0_fits 8 = .ok (.invokevirtual 49, 3) := by decide +kernel
theorem dX0_fits_11 : decode cX0_fits 11 = .ok (.if_icmp .ge 109, 3) := by decide +kernel
theorem dX0_fits_14 : decode cX0_fits 14 = .ok (.aload_n 1, 1) := by decide +kernel
theorem dX0_fits_15 : decode cX0_fits 15 = .ok (.iload 4, 2) := by decide +kernel
theorem dX0_fits_17 : decode cX0_fits 17 = .ok (.invokevirtual 54, 3) := by decide +kernel
theorem dX0_fits_20 : decode cX0_fits 20 = .ok (.istore 5, 2) := by decide +kernel
theorem dX0_fits_22 : decode cX0_fits 22 = .ok (.iload 5, 2) := by decide +kernel
theorem dX0_fits_24 : decode cX0_fits 24 = .ok (.bipush 35, 2) := by decide +kernel
theorem dX0_fits_26 : decode cX0_fits 26 = .ok (.if_icmp .eq 10, 3) := by decide +kernel
theorem dX0_fits_29 : decode cX0_fits 29 = .ok (.iload 5, 2) := by decide +kernel
theorem dX0_fits_31 : decode cX0_fits 31 = .ok (.bipush 37, 2) := by decide +kernel
theorem dX0_fits_33 : decode cX0_fits 33 = .ok (.if_icmp .ne 44, 3) := by decide +kernel
theorem dX0_fits_36 : decode cX0_fits 36 = .ok (.aload_n 0, 1) := by decide +kernel
theorem dX0_fits_37 : decode cX0_fits 37 = .ok (.aload_n 0, 1) := by decide +kernel
theorem dX0_fits_38 : decode cX0_fits 38 = .ok (.getfield 33, 3) := by decide +kernel
theorem dX0_fits_41 : decode cX0_fits 41 = .ok (.invokevirtual 58, 3) := by decide +kernel
theorem dX0_fits_44 : decode cX0_fits 44 = .ok (.ifCond .ne 5, 3) := by decide +kernel
theorem dX0_fits_47 : decode cX0_fits 47 = .ok (.iconst 0, 1) := by decide +kernel
theorem dX0_fits_48 : decode cX0_fits 48 = .ok (.ireturn, 1) := by decide +kernel
theorem dX0_fits_49 : decode cX0_fits 49 = .ok (.aload_n 0, 1) := by decide +kernel
theorem dX0_fits_50 : decode cX0_fits 50 = .ok (.getfield 19, 3) := by decide +kernel
theorem dX0_fits_53 : decode cX0_fits 53 = .ok (.iload_n 3, 1) := by decide +kernel
theorem dX0_fits_54 : decode cX0_fits 54 = .ok (.aload_n 0, 1) := by decide +kernel
theorem dX0_fits_55 : decode cX0_fits 55 = .ok (.iload 5, 2) := by decide +kernel
theorem dX0_fits_57 : decode cX0_fits 57 = .ok (.bipush 37, 2) := by decide +kernel
theorem dX0_fits_59 : decode cX0_fits 59 = .ok (.if_icmp .ne 7, 3) := by decide +kernel
theorem dX0_fits_62 : decode cX0_fits 62 = .ok (.iconst 1, 1) := by decide +kernel
theorem dX0_fits_63 : decode cX0_fits 63 = .ok (.goto 4, 3) := by decide +kernel
theorem dX0_fits_66 : decode cX0_fits 66 = .ok (.iconst 0, 1) := by decide +kernel
theorem dX0_fits_67 : decode cX0_fits 67 = .ok (.invokevirtual 62, 3) := by decide +kernel
theorem dX0_fits_70 : decode cX0_fits 70 = .ok (.iastore, 1) := by decide +kernel
theorem dX0_fits_71 : decode cX0_fits 71 = .ok (.iinc 3 1, 3) := by decide +kernel
theorem dX0_fits_74 : decode cX0_fits 74 = .ok (.goto 40, 3) := by decide +kernel
theorem dX0_fits_77 : decode cX0_fits 77 = .ok (.aload_n 0, 1) := by decide +kernel
theorem dX0_fits_78 : decode cX0_fits 78 = .ok (.getfield 33, 3) := by decide +kernel
theorem dX0_fits_81 : decode cX0_fits 81 = .ok (.aload_n 0, 1) := by decide +kernel
theorem dX0_fits_82 : decode cX0_fits 82 = .ok (.getfield 22, 3) := by decide +kernel
theorem dX0_fits_85 : decode cX0_fits 85 = .ok (.if_icmp .ge 17, 3) := by decide +kernel
theorem dX0_fits_88 : decode cX0_fits 88 = .ok (.aload_n 0, 1) := by decide +kernel
theorem dX0_fits_89 : decode cX0_fits 89 = .ok (.getfield 11, 3) := by decide +kernel
theorem dX0_fits_92 : decode cX0_fits 92 = .ok (.aload_n 0, 1) := by decide +kernel
theorem dX0_fits_93 : decode cX0_fits 93 = .ok (.getfield 33, 3) := by decide +kernel
theorem dX0_fits_96 : decode cX0_fits 96 = .ok (.caload, 1) := by decide +kernel
theorem dX0_fits_97 : decode cX0_fits 97 = .ok (.iload 5, 2) := by decide +kernel
theorem dX0_fits_99 : decode cX0_fits 99 = .ok (.if_icmp .eq 5, 3) := by decide +kernel
theorem dX0_fits_102 : decode cX0_fits 102 = .ok (.iconst 0, 1) := by decide +kernel
theorem dX0_fits_103 : decode cX0_fits 103 = .ok (.ireturn, 1) := by decide +kernel
theorem dX0_fits_104 : decode cX0_fits 104 = .ok (.aload_n 0, 1) := by decide +kernel
theorem dX0_fits_105 : decode cX0_fits 105 = .ok (.dup, 1) := by decide +kernel
theorem dX0_fits_106 : decode cX0_fits 106 = .ok (.getfield 33, 3) := by decide +kernel
theorem dX0_fits_109 : decode cX0_fits 109 = .ok (.iconst 1, 1) := by decide +kernel
theorem dX0_fits_110 : decode cX0_fits 110 = .ok (.iadd, 1) := by decide +kernel
theorem dX0_fits_111 : decode cX0_fits 111 = .ok (.putfield 33, 3) := by decide +kernel
theorem dX0_fits_114 : decode cX0_fits 114 = .ok (.iinc 4 1, 3) := by decide +kernel
theorem dX0_fits_117 : decode cX0_fits 117 = .ok (.goto (-112), 3) := by decide +kernel
theorem dX0_fits_120 : decode cX0_fits 120 = .ok (.iconst 1, 1) := by decide +kernel
theorem dX0_fits_121 : decode cX0_fits 121 = .ok (.ireturn, 1) := by decide +kernel
theorem dX0_readNumber_0 : decode cX0_readNumber 0 = .ok (.aload_n 0, 1) := by decide +kernel
theorem dX0_readNumber_1 : decode cX0_readNumber 1 = .ok (.getfield 11, 3) := by decide +kernel
theorem dX0_readNumber_4 : decode cX0_readNumber 4 = .ok (.aload_n 0, 1) := by decide +kernel
theorem dX0_readNumber_5 : decode cX0_readNumber 5 = .ok (.getfield 33, 3) := by decide +kernel
theorem dX0_readNumber_8 : decode cX0_readNumber 8 = .ok (.caload, 1) := by decide +kernel
theorem dX0_readNumber_9 : decode cX0_readNumber 9 = .ok (.bipush 48, 2) := by decide +kernel
theorem dX0_readNumber_11 : decode cX0_readNumber 11 = .ok (.isub, 1) := by decide +kernel
theorem dX0_readNumber_12 : decode cX0_readNumber 12 = .ok (.istore_n 2, 1) := by decide +kernel
theorem dX0_readNumber_13 : decode cX0_readNumber 13 = .ok (.aload_n 0, 1) := by decide +kernel
theorem dX0_readNumber_14 : decode cX0_readNumber 14 = .ok (.dup, 1) := by decide +kernel
theorem dX0_readNumber_15 : decode cX0_readNumber 15 = .ok (.getfield 33, 3) := by decide +kernel
theorem dX0_readNumber_18 : decode cX0_readNumber 18 = .ok (.iconst 1, 1) := by decide +kernel
theorem dX0_readNumber_19 : decode cX0_readNumber 19 = .ok (.iadd, 1) := by decide +kernel
theorem dX0_readNumber_20 : decode cX0_readNumber 20 = .ok (.putfield 33, 3) := by decide +kernel
theorem dX0_readNumber_23 : decode cX0_readNumber 23 = .ok (.iload_n 1, 1) := by decide +kernel
theorem dX0_readNumber_24 : decode cX0_readNumber 24 = .ok (.ifCond .eq 42, 3) := by decide +kernel
theorem dX0_readNumber_27 : decode cX0_readNumber 27 = .ok (.aload_n 0, 1) := by decide +kernel
theorem dX0_readNumber_28 : decode cX0_readNumber 28 = .ok (.aload_n 0, 1) := by decide +kernel
theorem dX0_readNumber_29 : decode cX0_readNumber 29 = .ok (.getfield 33, 3) := by decide +kernel
theorem dX0_readNumber_32 : decode cX0_readNumber 32 = .ok (.invokevirtual 58, 3) := by decide +kernel
theorem dX0_readNumber_35 : decode cX0_readNumber 35 = .ok (.ifCond .eq 31, 3) := by decide +kernel
theorem dX0_readNumber_38 : decode cX0_readNumber 38 = .ok (.iload_n 2, 1) := by decide +kernel
theorem dX0_readNumber_39 : decode cX0_readNumber 39 = .ok (.bipush 10, 2) := by decide +kernel
theorem dX0_readNumber_41 : decode cX0_readNumber 41 = .ok (.imul, 1) := by decide +kernel
theorem dX0_readNumber_42 : decode cX0_readNumber 42 = .ok (.aload_n 0, 1) := by decide +kernel
theorem dX0_readNumber_43 : decode cX0_readNumber 43 = .ok (.getfield 11, 3) := by decide +kernel
theorem dX0_readNumber_46 : decode cX0_readNumber 46 = .ok (.aload_n 0, 1) := by decide +kernel
theorem dX0_readNumber_47 : decode cX0_readNumber 47 = .ok (.getfield 33, 3) := by decide +kernel
theorem dX0_readNumber_50 : decode cX0_readNumber 50 = .ok (.caload, 1) := by decide +kernel
theorem dX0_readNumber_51 : decode cX0_readNumber 51 = .ok (.bipush 48, 2) := by decide +kernel
theorem dX0_readNumber_53 : decode cX0_readNumber 53 = .ok (.isub, 1) := by decide +kernel
theorem dX0_readNumber_54 : decode cX0_readNumber 54 = .ok (.iadd, 1) := by decide +kernel
theorem dX0_readNumber_55 : decode cX0_readNumber 55 = .ok (.istore_n 2, 1) := by decide +kernel
theorem dX0_readNumber_56 : decode cX0_readNumber 56 = .ok (.aload_n 0, 1) := by decide +kernel
theorem dX0_readNumber_57 : decode cX0_readNumber 57 = .ok (.dup, 1) := by decide +kernel
theorem dX0_readNumber_58 : decode cX0_readNumber 58 = .ok (.getfield 33, 3) := by decide +kernel
theorem dX0_readNumber_61 : decode cX0_readNumber 61 = .ok (.iconst 1, 1) := by decide +kernel
theorem dX0_readNumber_62 : decode cX0_readNumber 62 = .ok (.iadd, 1) := by decide +kernel
theorem dX0_readNumber_63 : decode cX0_readNumber 63 = .ok (.putfield 33, 3) := by decide +kernel
theorem dX0_readNumber_66 : decode cX0_readNumber 66 = .ok (.iload_n 2, 1) := by decide +kernel
theorem dX0_readNumber_67 : decode cX0_readNumber 67 = .ok (.ireturn, 1) := by decide +kernel
theorem dX0_isDigit_0 : decode cX0_isDigit 0 = .ok (.iload_n 1, 1) := by decide +kernel
theorem dX0_isDigit_1 : decode cX0_isDigit 1 = .ok (.aload_n 0, 1) := by decide +kernel
theorem dX0_isDigit_2 : decode cX0_isDigit 2 = .ok (.getfield 22, 3) := by decide +kernel
theorem dX0_isDigit_5 : decode cX0_isDigit 5 = .ok (.if_icmp .ge 23, 3) := by decide +kernel
theorem dX0_isDigit_8 : decode cX0_isDigit 8 = .ok (.aload_n 0, 1) := by decide +kernel
theorem dX0_isDigit_9 : decode cX0_isDigit 9 = .ok (.getfield 11, 3) := by decide +kernel
theorem dX0_isDigit_12 : decode cX0_isDigit 12 = .ok (.iload_n 1, 1) := by decide +kernel
theorem dX0_isDigit_13 : decode cX0_isDigit 13 = .ok (.caload, 1) := by decide +kernel
theorem dX0_isDigit_14 : decode cX0_isDigit 14 = .ok (.bipush 48, 2) := by decide +kernel
theorem dX0_isDigit_16 : decode cX0_isDigit 16 = .ok (.bipush 57, 2) := by decide +kernel
theorem dX0_isDigit_18 : decode cX0_isDigit 18 = .ok (.invokestatic 66, 3) := by decide +kernel
theorem dX0_isDigit_21 : decode cX0_isDigit 21 = .ok (.ifCond .eq 7, 3) := by decide +kernel
theorem dX0_isDigit_24 : decode cX0_isDigit 24 = .ok (.iconst 1, 1) := by decide +kernel
theorem dX0_isDigit_25 : decode cX0_isDigit 25 = .ok (.goto 4, 3) := by decide +kernel
theorem dX0_isDigit_28 : decode cX0_isDigit 28 = .ok (.iconst 0, 1) := by decide +kernel
theorem dX0_isDigit_29 : decode cX0_isDigit 29 = .ok (.ireturn, 1) := by decide +kernel
theorem dX0_formOf_0 : decode cX0_formOf 0 = .ok (.iload_n 0, 1) := by decide +kernel
theorem dX0_formOf_1 : decode cX0_formOf 1 = .ok (.tableswitch 92 0 10 #[59, 62, 65, 68, 71, 74, 77, 80, 83, 86, 89], 59) := by decide +kernel
theorem dX0_formOf_60 : decode cX0_formOf 60 = .ok (.ldc 70, 2) := by decide +kernel
theorem dX0_formOf_62 : decode cX0_formOf 62 = .ok (.areturn, 1) := by decide +kernel
theorem dX0_formOf_63 : decode cX0_formOf 63 = .ok (.ldc 72, 2) := by decide +kernel
theorem dX0_formOf_65 : decode cX0_formOf 65 = .ok (.areturn, 1) := by decide +kernel
theorem dX0_formOf_66 : decode cX0_formOf 66 = .ok (.ldc 74, 2) := by decide +kernel
theorem dX0_formOf_68 : decode cX0_formOf 68 = .ok (.areturn, 1) := by decide +kernel
theorem dX0_formOf_69 : decode cX0_formOf 69 = .ok (.ldc 76, 2) := by decide +kernel
theorem dX0_formOf_71 : decode cX0_formOf 71 = .ok (.areturn, 1) := by decide +kernel
theorem dX0_formOf_72 : decode cX0_formOf 72 = .ok (.ldc 78, 2) := by decide +kernel
theorem dX0_formOf_74 : decode cX0_formOf 74 = .ok (.areturn, 1) := by decide +kernel
theorem dX0_formOf_75 : decode cX0_formOf 75 = .ok (.ldc 80, 2) := by decide +kernel
theorem dX0_formOf_77 : decode cX0_formOf 77 = .ok (.areturn, 1) := by decide +kernel
theorem dX0_formOf_78 : decode cX0_formOf 78 = .ok (.ldc 82, 2) := by decide +kernel
theorem dX0_formOf_80 : decode cX0_formOf 80 = .ok (.areturn, 1) := by decide +kernel
theorem dX0_formOf_81 : decode cX0_formOf 81 = .ok (.ldc 84, 2) := by decide +kernel
theorem dX0_formOf_83 : decode cX0_formOf 83 = .ok (.areturn, 1) := by decide +kernel
theorem dX0_formOf_84 : decode cX0_formOf 84 = .ok (.ldc 86, 2) := by decide +kernel
theorem dX0_formOf_86 : decode cX0_formOf 86 = .ok (.areturn, 1) := by decide +kernel
theorem dX0_formOf_87 : decode cX0_formOf 87 = .ok (.ldc 88, 2) := by decide +kernel
theorem dX0_formOf_89 : decode cX0_formOf 89 = .ok (.areturn, 1) := by decide +kernel
theorem dX0_formOf_90 : decode cX0_formOf 90 = .ok (.ldc 90, 2) := by decide +kernel
theorem dX0_formOf_92 : decode cX0_formOf 92 = .ok (.areturn, 1) := by decide +kernel
theorem dX0_formOf_93 : decode cX0_formOf 93 = .ok (.ldc 92, 2) := by decide +kernel
theorem dX0_formOf_95 : decode cX0_formOf 95 = .ok (.areturn, 1) := by decide +kernel
theorem dX1_init_0 : decode cX1_init 0 = .ok (.aload_n 0, 1) := by decide +kernel
theorem dX1_init_1 : decode cX1_init 1 = .ok (.invokespecial 3, 3) := by decide +kernel
theorem dX1_init_4 : decode cX1_init 4 = .ok (.aload_n 0, 1) := by decide +kernel
theorem dX1_init_5 : decode cX1_init 5 = .ok (.bipush 8, 2) := by decide +kernel
theorem dX1_init_7 : decode cX1_init 7 = .ok (.newarray .int, 2) := by decide +kernel
theorem dX1_init_9 : decode cX1_init 9 = .ok (.putfield 9, 3) := by decide +kernel
theorem dX1_init_12 : decode cX1_init 12 = .ok (.aload_n 0, 1) := by decide +kernel
theorem dX1_init_13 : decode cX1_init 13 = .ok (.bipush 8, 2) := by decide +kernel
theorem dX1_init_15 : decode cX1_init 15 = .ok (.newarray .int, 2) := by decide +kernel
theorem dX1_init_17 : decode cX1_init 17 = .ok (.putfield 15, 3) := by decide +kernel
theorem dX1_init_20 : decode cX1_init 20 = .ok (.aload_n 0, 1) := by decide +kernel
theorem dX1_init_21 : decode cX1_init 21 = .ok (.bipush 8, 2) := by decide +kernel
theorem dX1_init_23 : decode cX1_init 23 = .ok (.newarray .int, 2) := by decide +kernel
theorem dX1_init_25 : decode cX1_init 25 = .ok (.putfield 18, 3) := by decide +kernel
theorem dX1_init_28 : decode cX1_init 28 = .ok (.aload_n 0, 1) := by decide +kernel
theorem dX1_init_29 : decode cX1_init 29 = .ok (.bipush 24, 2) := by decide +kernel
theorem dX1_init_31 : decode cX1_init 31 = .ok (.newarray .int, 2) := by decide +kernel
theorem dX1_init_33 : decode cX1_init 33 = .ok (.putfield 21, 3) := by decide +kernel
theorem dX1_init_36 : decode cX1_init 36 = .ok (.aload_n 0, 1) := by decide +kernel
theorem dX1_init_37 : decode cX1_init 37 = .ok (.iconst 3, 1) := by decide +kernel
theorem dX1_init_38 : decode cX1_init 38 = .ok (.putfield 24, 3) := by decide +kernel
theorem dX1_init_41 : decode cX1_init 41 = .ok (.return_, 1) := by decide +kernel
theorem dX1_begin_0 : decode cX1_begin 0 = .ok (.aload_n 0, 1) := by decide +kernel
theorem dX1_begin_1 : decode cX1_begin 1 = .ok (.iload_n 1, 1) := by decide +kernel
theorem dX1_begin_2 : decode cX1_begin 2 = .ok (.putfield 24, 3) := by decide +kernel
theorem dX1_begin_5 : decode cX1_begin 5 = .ok (.aload_n 0, 1) := by decide +kernel
theorem dX1_begin_6 : decode cX1_begin 6 = .ok (.iconst 0, 1) := by decide +kernel
theorem dX1_begin_7 : decode cX1_begin 7 = .ok (.putfield 28, 3) := by decide +kernel
theorem dX1_begin_10 : decode cX1_begin 10 = .ok (.aload_n 0, 1) := by decide +kernel
theorem dX1_begin_11 : decode cX1_begin 11 = .ok (.iconst 0, 1) := by decide +kernel
theorem dX1_begin_12 : decode cX1_begin 12 = .ok (.putfield 31, 3) := by decide +kernel
theorem dX1_begin_15 : decode cX1_begin 15 = .ok (.aload_n 0, 1) := by decide +kernel
theorem dX1_begin_16 : decode cX1_begin 16 = .ok (.iconst 0, 1) := by decide +kernel
theorem dX1_begin_17 : decode cX1_begin 17 = .ok (.putfield 34, 3) := by decide +kernel
theorem dX1_begin_20 : decode cX1_begin 20 = .ok (.aload_n 0, 1) := by decide +kernel
theorem dX1_begin_21 : decode cX1_begin 21 = .ok (.iconst 0, 1) := by decide +kernel
theorem dX1_begin_22 : decode cX1_begin 22 = .ok (.putfield 37, 3) := by decide +kernel
theorem dX1_begin_25 : decode cX1_begin 25 = .ok (.iconst 0, 1) := by decide +kernel
theorem dX1_begin_26 : decode cX1_begin 26 = .ok (.istore_n 2, 1) := by decide +kernel
theorem dX1_begin_27 : decode cX1_begin 27 = .ok (.iload_n 2, 1) := by decide +kernel
theorem dX1_begin_28 : decode cX1_begin 28 = .ok (.bipush 8, 2) := by decide +kernel
theorem dX1_begin_30 : decode cX1_begin 30 = .ok (.if_icmp .ge 30, 3) := by decide +kernel
theorem dX1_begin_33 : decode cX1_begin 33 = .ok (.aload_n 0, 1) := by decide +kernel
theorem dX1_begin_34 : decode cX1_begin 34 = .ok (.getfield 9, 3) := by decide +kernel
theorem dX1_begin_37 : decode cX1_begin 37 = .ok (.iload_n 2, 1) := by decide +kernel
theorem dX1_begin_38 : decode cX1_begin 38 = .ok (.iload_n 2, 1) := by decide +kernel
theorem dX1_begin_39 : decode cX1_begin 39 = .ok (.iastore, 1) := by decide +kernel
theorem dX1_begin_40 : decode cX1_begin 40 = .ok (.aload_n 0, 1) := by decide +kernel
theorem dX1_begin_41 : decode cX1_begin 41 = .ok (.getfield 15, 3) := by decide +kernel
theorem dX1_begin_44 : decode cX1_begin 44 = .ok (.iload_n 2, 1) := by decide +kernel
theorem dX1_begin_45 : decode cX1_begin 45 = .ok (.iconst 5, 1) := by decide +kernel
theorem dX1_begin_46 : decode cX1_begin 46 = .ok (.iastore, 1) := by decide +kernel
theorem dX1_begin_47 : decode cX1_begin 47 = .ok (.aload_n 0, 1) := by decide +kernel
theorem dX1_begin_48 : decode cX1_begin 48 = .ok (.getfield 18, 3) := by decide +kernel
theorem dX1_begin_51 : decode cX1_begin 51 = .ok (.iload_n 2, 1) := by decide +kernel
theorem dX1_begin_52 : decode cX1_begin 52 = .ok (.iconst 0, 1) := by decide +kernel
theorem dX1_begin_53 : decode cX1_begin 53 = .ok (.iastore, 1) := by decide +kernel
theorem dX1_begin_54 : decode cX1_begin 54 = .ok (.iinc 2 1, 3) := by decide +kernel
theorem dX1_begin_57 : decode cX1_begin 57 = .ok (.goto (-30), 3) := by decide +kernel
theorem dX1_begin_60 : decode cX1_begin 60 = .ok (.return_, 1) := by decide +kernel
theorem dX1_become_0 : decode cX1_become 0 = .ok (.aload_n 1, 1) := by decide +kernel
theorem dX1_become_1 : decode cX1_become 1 = .ok (.getfield 9, 3) := by decide +kernel
theorem dX1_become_4 : decode cX1_become 4 = .ok (.iconst 0, 1) := by decide +kernel
theorem dX1_become_5 : decode cX1_become 5 = .ok (.aload_n 0, 1) := by decide +kernel
theorem dX1_become_6 : decode cX1_become 6 = .ok (.getfield 9, 3) := by decide +kernel
theorem dX1_become_9 : decode cX1_become 9 = .ok (.iconst 0, 1) := by decide +kernel
theorem dX1_become_10 : decode cX1_become 10 = .ok (.bipush 8, 2) := by decide +kernel
theorem dX1_become_12 : decode cX1_become 12 = .ok (.invokestatic 40, 3) := by decide +kernel
theorem dX1_become_15 : decode cX1_become 15 = .ok (.aload_n 1, 1) := by decide +kernel
theorem dX1_become_16 : decode cX1_become 16 = .ok (.getfield 15, 3) := by decide +kernel
theorem dX1_become_19 : decode cX1_become 19 = .ok (.iconst 0, 1) := by decide +kernel
theorem dX1_become_20 : decode cX1_become 20 = .ok (.aload_n 0, 1) := by decide +kernel
theorem dX1_become_21 : decode cX1_become 21 = .ok (.getfield 15, 3) := by decide +kernel
theorem dX1_become_24 : decode cX1_become 24 = .ok (.iconst 0, 1) := by decide +kernel
theorem dX1_become_25 : decode cX1_become 25 = .ok (.bipush 8, 2) := by decide +kernel
theorem dX1_become_27 : decode cX1_become 27 = .ok (.invokestatic 40, 3) := by decide +kernel
theorem dX1_become_30 : decode cX1_become 30 = .ok (.aload_n 1, 1) := by decide +kernel
theorem dX1_become_31 : decode cX1_become 31 = .ok (.getfield 18, 3) := by decide +kernel
theorem dX1_become_34 : decode cX1_become 34 = .ok (.iconst 0, 1) := by decide +kernel
theorem dX1_become_35 : decode cX1_become 35 = .ok (.aload_n 0, 1) := by decide +kernel
theorem dX1_become_36 : decode cX1_become 36 = .ok (.getfield 18, 3) := by decide +kernel
theorem dX1_become_39 : decode cX1_become 39 = .ok (.iconst 0, 1) := by decide +kernel
theorem dX1_become_40 : decode cX1_become 40 = .ok (.bipush 8, 2) := by decide +kernel
theorem dX1_become_42 : decode cX1_become 42 = .ok (.invokestatic 40, 3) := by decide +kernel
theorem dX1_become_45 : decode cX1_become 45 = .ok (.aload_n 1, 1) := by decide +kernel
theorem dX1_become_46 : decode cX1_become 46 = .ok (.getfield 21, 3) := by decide +kernel
theorem dX1_become_49 : decode cX1_become 49 = .ok (.iconst 0, 1) := by decide +kernel
theorem dX1_become_50 : decode cX1_become 50 = .ok (.aload_n 0, 1) := by decide +kernel
theorem dX1_become_51 : decode cX1_become 51 = .ok (.getfield 21, 3) := by decide +kernel
theorem dX1_become_54 : decode cX1_become 54 = .ok (.iconst 0, 1) := by decide +kernel
theorem dX1_become_55 : decode cX1_become 55 = .ok (.bipush 24, 2) := by decide +kernel
theorem dX1_become_57 : decode cX1_become 57 = .ok (.invokestatic 40, 3) := by decide +kernel
theorem dX1_become_60 : decode cX1_become 60 = .ok (.aload_n 0, 1) := by decide +kernel
theorem dX1_become_61 : decode cX1_become 61 = .ok (.aload_n 1, 1) := by decide +kernel
theorem dX1_become_62 : decode cX1_become 62 = .ok (.getfield 34, 3) := by decide +kernel
theorem dX1_become_65 : decode cX1_become 65 = .ok (.putfield 34, 3) := by decide +kernel
theorem dX1_become_68 : decode cX1_become 68 = .ok (.aload_n 0, 1) := by decide +kernel
theorem dX1_become_69 : decode cX1_become 69 = .ok (.aload_n 1, 1) := by decide +kernel
theorem dX1_become_70 : decode cX1_become 70 = .ok (.getfield 37, 3) := by decide +kernel
theorem dX1_become_73 : decode cX1_become 73 = .ok (.putfield 37, 3) := by decide +kernel
theorem dX1_become_76 : decode cX1_become 76 = .ok (.aload_n 0, 1) := by decide +kernel
theorem dX1_become_77 : decode cX1_become 77 = .ok (.aload_n 1, 1) := by decide +kernel
theorem dX1_become_78 : decode cX1_become 78 = .ok (.getfield 24, 3) := by decide +kernel
theorem dX1_become_81 : decode cX1_become 81 = .ok (.putfield 24, 3) := by decide +kernel
theorem dX1_become_84 : decode cX1_become 84 = .ok (.aload_n 0, 1) := by decide +kernel
theorem dX1_become_85 : decode cX1_become 85 = .ok (.aload_n 1, 1) := by decide +kernel
theorem dX1_become_86 : decode cX1_become 86 = .ok (.getfield 28, 3) := by decide +kernel
theorem dX1_become_89 : decode cX1_become 89 = .ok (.putfield 28, 3) := by decide +kernel
theorem dX1_become_92 : decode cX1_become 92 = .ok (.aload_n 0, 1) := by decide +kernel
theorem dX1_become_93 : decode cX1_become 93 = .ok (.aload_n 1, 1) := by decide +kernel
theorem dX1_become_94 : decode cX1_become 94 = .ok (.getfield 31, 3) := by decide +kernel
theorem dX1_become_97 : decode cX1_become 97 = .ok (.putfield 31, 3) := by decide +kernel
theorem dX1_become_100 : decode cX1_become 100 = .ok (.return_, 1) := by decide +kernel
theorem dX1_hasCylinder_0 : decode cX1_hasCylinder 0 = .ok (.iload_n 1, 1) := by decide +kernel
theorem dX1_hasCylinder_1 : decode cX1_hasCylinder 1 = .ok (.iconst 0, 1) := by decide +kernel
theorem dX1_hasCylinder_2 : decode cX1_hasCylinder 2 = .ok (.aload_n 0, 1) := by decide +kernel
theorem dX1_hasCylinder_3 : decode cX1_hasCylinder 3 = .ok (.getfield 24, 3) := by decide +kernel
theorem dX1_hasCylinder_6 : decode cX1_hasCylinder 6 = .ok (.iconst 1, 1) := by decide +kernel
theorem dX1_hasCylinder_7 : decode cX1_hasCylinder 7 = .ok (.isub, 1) := by decide +kernel
theorem dX1_hasCylinder_8 : decode cX1_hasCylinder 8 = .ok (.invokestatic 46, 3) := by decide +kernel
theorem dX1_hasCylinder_11 : decode cX1_hasCylinder 11 = .ok (.ireturn, 1) := by decide +kernel
theorem dX1_swapPlaces_0 : decode cX1_swapPlaces 0 = .ok (.aload_n 0, 1) := by decide +kernel
theorem dX1_swapPlaces_1 : decode cX1_swapPlaces 1 = .ok (.getfield 9, 3) := by decide +kernel
theorem dX1_swapPlaces_4 : decode cX1_swapPlaces 4 = .ok (.iload_n 1, 1) := by decide +kernel
theorem dX1_swapPlaces_5 : decode cX1_swapPlaces 5 = .ok (.iaload, 1) := by decide +kernel
theorem dX1_swapPlaces_6 : decode cX1_swapPlaces 6 = .ok (.istore_n 3, 1) := by decide +kernel
theorem dX1_swapPlaces_7 : decode cX1_swapPlaces 7 = .ok (.aload_n 0, 1) := by decide +kernel
theorem dX1_swapPlaces_8 : decode cX1_swapPlaces 8 = .ok (.getfield 9, 3) := by decide +kernel
theorem dX1_swapPlaces_11 : decode cX1_swapPlaces 11 = .ok (.iload_n 1, 1) := by decide +kernel
theorem dX1_swapPlaces_12 : decode cX1_swapPlaces 12 = .ok (.aload_n 0, 1) := by decide +kernel
theorem dX1_swapPlaces_13 : decode cX1_swapPlaces 13 = .ok (.getfield 9, 3) := by decide +kernel
theorem dX1_swapPlaces_16 : decode cX1_swapPlaces 16 = .ok (.iload_n 2, 1) := by decide +kernel
theorem dX1_swapPlaces_17 : decode cX1_swapPlaces 17 = .ok (.iaload, 1) := by decide +kernel
theorem dX1_swapPlaces_18 : decode cX1_swapPlaces 18 = .ok (.iastore, 1) := by decide +kernel
theorem dX1_swapPlaces_19 : decode cX1_swapPlaces 19 = .ok (.aload_n 0, 1) := by decide +kernel
theorem dX1_swapPlaces_20 : decode cX1_swapPlaces 20 = .ok (.getfield 9, 3) := by decide +kernel
theorem dX1_swapPlaces_23 : decode cX1_swapPlaces 23 = .ok (.iload_n 2, 1) := by decide +kernel
theorem dX1_swapPlaces_24 : decode cX1_swapPlaces 24 = .ok (.iload_n 3, 1) := by decide +kernel
theorem dX1_swapPlaces_25 : decode cX1_swapPlaces 25 = .ok (.iastore, 1) := by decide +kernel
theorem dX1_swapPlaces_26 : decode cX1_swapPlaces 26 = .ok (.aload_n 0, 1) := by decide +kernel
theorem dX1_swapPlaces_27 : decode cX1_swapPlaces 27 = .ok (.getfield 9, 3) := by decide +kernel
theorem dX1_swapPlaces_30 : decode cX1_swapPlaces 30 = .ok (.iload_n 1, 1) := by decide +kernel
theorem dX1_swapPlaces_31 : decode cX1_swapPlaces 31 = .ok (.iaload, 1) := by decide +kernel
theorem dX1_swapPlaces_32 : decode cX1_swapPlaces 32 = .ok (.ireturn, 1) := by decide +kernel
theorem dX1_changeRate_0 : decode cX1_changeRate 0 = .ok (.aload_n 0, 1) := by decide +kernel
theorem dX1_changeRate_1 : decode cX1_changeRate 1 = .ok (.getfield 31, 3) := by decide +kernel
theorem dX1_changeRate_4 : decode cX1_changeRate 4 = .ok (.istore_n 2, 1) := by decide +kernel
theorem dX1_changeRate_5 : decode cX1_changeRate 5 = .ok (.aload_n 0, 1) := by decide +kernel
theorem dX1_changeRate_6 : decode cX1_changeRate 6 = .ok (.iload_n 1, 1) := by decide +kernel
theorem dX1_changeRate_7 : decode cX1_changeRate 7 = .ok (.putfield 31, 3) := by decide +kernel
theorem dX1_changeRate_10 : decode cX1_changeRate 10 = .ok (.iload_n 2, 1) := by decide +kernel
theorem dX1_changeRate_11 : decode cX1_changeRate 11 = .ok (.ireturn, 1) := by decide +kernel
theorem dX1_dueByDivision_0 : decode cX1_dueByDivision 0 = .ok (.aload_n 0, 1) := by decide +kernel
theorem dX1_dueByDivision_1 : decode cX1_dueByDivision 1 = .ok (.getfield 24, 3) := by decide +kernel
theorem dX1_dueByDivision_4 : decode cX1_dueByDivision 4 = .ok (.iconst 1, 1) := by decide +kernel
theorem dX1_dueByDivision_5 : decode cX1_dueByDivision 5 = .ok (.if_icmp .ge 5, 3) := by decide +kernel
theorem dX1_dueByDivision_8 : decode cX1_dueByDivision 8 = .ok (.iconst 0, 1) := by decide +kernel
theorem dX1_dueByDivision_9 : decode cX1_dueByDivision 9 = .ok (.ireturn, 1) := by decide +kernel
theorem dX1_dueByDivision_10 : decode cX1_dueByDivision 10 = .ok (.aload_n 0, 1) := by decide +kernel
theorem dX1_dueByDivision_11 : decode cX1_dueByDivision 11 = .ok (.getfield 9, 3) := by decide +kernel
theorem dX1_dueByDivision_14 : decode cX1_dueByDivision 14 = .ok (.aload_n 0, 1) := by decide +kernel
theorem dX1_dueByDivision_15 : decode cX1_dueByDivision 15 = .ok (.getfield 28, 3) := by decide +kernel
theorem dX1_dueByDivision_18 : decode cX1_dueByDivision 18 = .ok (.iload_n 1, 1) := by decide +kernel
theorem dX1_dueByDivision_19 : decode cX1_dueByDivision 19 = .ok (.iadd, 1) := by decide +kernel
theorem dX1_dueByDivision_20 : decode cX1_dueByDivision 20 = .ok (.aload_n 0, 1) := by decide +kernel
theorem dX1_dueByDivision_21 : decode cX1_dueByDivision 21 = .ok (.getfield 24, 3) := by decide +kernel
theorem dX1_dueByDivision_24 : decode cX1_dueByDivision 24 = .ok (.irem, 1) := by decide +kernel
theorem dX1_dueByDivision_25 : decode cX1_dueByDivision 25 = .ok (.iaload, 1) := by decide +kernel
theorem dX1_dueByDivision_26 : decode cX1_dueByDivision 26 = .ok (.ireturn, 1) := by decide +kernel
theorem dX1_dueByCounting_0 : decode cX1_dueByCounting 0 = .ok (.aload_n 0, 1) := by decide +kernel
theorem dX1_dueByCounting_1 : decode cX1_dueByCounting 1 = .ok (.getfield 28, 3) := by decide +kernel
theorem dX1_dueByCounting_4 : decode cX1_dueByCounting 4 = .ok (.istore_n 2, 1) := by decide +kernel
theorem dX1_dueByCounting_5 : decode cX1_dueByCounting 5 = .ok (.iconst 0, 1) := by decide +kernel
theorem dX1_dueByCounting_6 : decode cX1_dueByCounting 6 = .ok (.istore_n 3, 1) := by decide +kernel
theorem dX1_dueByCounting_7 : decode cX1_dueByCounting 7 = .ok (.iload_n 3, 1) := by decide +kernel
theorem dX1_dueByCounting_8 : decode cX1_dueByCounting 8 = .ok (.iload_n 1, 1) := by decide +kernel
theorem dX1_dueByCounting_9 : decode cX1_dueByCounting 9 = .ok (.if_icmp .ge 15, 3) := by decide +kernel
theorem dX1_dueByCounting_12 : decode cX1_dueByCounting 12 = .ok (.aload_n 0, 1) := by decide +kernel
theorem dX1_dueByCounting_13 : decode cX1_dueByCounting 13 = .ok (.iload_n 2, 1) := by decide +kernel
theorem dX1_dueByCounting_14 : decode cX1_dueByCounting 14 = .ok (.invokevirtual 50, 3) := by decide +kernel
theorem dX1_dueByCounting_17 : decode cX1_dueByCounting 17 = .ok (.istore_n 2, 1) := by decide +kernel
theorem dX1_dueByCounting_18 : decode cX1_dueByCounting 18 = .ok (.iinc 3 1, 3) := by decide +kernel
theorem dX1_dueByCounting_21 : decode cX1_dueByCounting 21 = .ok (.goto (-14), 3) := by decide +kernel
theorem dX1_dueByCounting_24 : decode cX1_dueByCounting 24 = .ok (.aload_n 0, 1) := by decide +kernel
theorem dX1_dueByCounting_25 : decode cX1_dueByCounting 25 = .ok (.getfield 9, 3) := by decide +kernel
theorem dX1_dueByCounting_28 : decode cX1_dueByCounting 28 = .ok (.iload_n 2, 1) := by decide +kernel
theorem dX1_dueByCounting_29 : decode cX1_dueByCounting 29 = .ok (.iaload, 1) := by decide +kernel
theorem dX1_dueByCounting_30 : decode cX1_dueByCounting 30 = .ok (.ireturn, 1) := by decide +kernel
theorem dX1_placeAfter_0 : decode cX1_placeAfter 0 = .ok (.iload_n 1, 1) := by decide +kernel
theorem dX1_placeAfter_1 : decode cX1_placeAfter 1 = .ok (.iconst 1, 1) := by decide +kernel
theorem dX1_placeAfter_2 : decode cX1_placeAfter 2 = .ok (.iadd, 1) := by decide +kernel
theorem dX1_placeAfter_3 : decode cX1_placeAfter 3 = .ok (.aload_n 0, 1) := by decide +kernel
theorem dX1_placeAfter_4 : decode cX1_placeAfter 4 = .ok (.getfield 24, 3) := by decide +kernel
theorem dX1_placeAfter_7 : decode cX1_placeAfter 7 = .ok (.if_icmp .ge 9, 3) := by decide +kernel
theorem dX1_placeAfter_10 : decode cX1_placeAfter 10 = .ok (.iload_n 1, 1) := by decide +kernel
theorem dX1_placeAfter_11 : decode cX1_placeAfter 11 = .ok (.iconst 1, 1) := by decide +kernel
theorem dX1_placeAfter_12 : decode cX1_placeAfter 12 = .ok (.iadd, 1) := by decide +kernel
theorem dX1_placeAfter_13 : decode cX1_placeAfter 13 = .ok (.goto 4, 3) := by decide +kernel
theorem dX1_placeAfter_16 : decode cX1_placeAfter 16 = .ok (.iconst 0, 1) := by decide +kernel
theorem dX1_placeAfter_17 : decode cX1_placeAfter 17 = .ok (.ireturn, 1) := by decide +kernel
theorem dX1_turnByCycles_0 : decode cX1_turnByCycles 0 = .ok (.iconst 1, 1) := by decide +kernel
theorem dX1_turnByCycles_1 : decode cX1_turnByCycles 1 = .ok (.istore_n 1, 1) := by decide +kernel
theorem dX1_turnByCycles_2 : decode cX1_turnByCycles 2 = .ok (.iconst 0, 1) := by decide +kernel
theorem dX1_turnByCycles_3 : decode cX1_turnByCycles 3 = .ok (.istore_n 2, 1) := by decide +kernel
theorem dX1_turnByCycles_4 : decode cX1_turnByCycles 4 = .ok (.iload_n 2, 1) := by decide +kernel
theorem dX1_turnByCycles_5 : decode cX1_turnByCycles 5 = .ok (.aload_n 0, 1) := by decide +kernel
theorem dX1_turnByCycles_6 : decode cX1_turnByCycles 6 = .ok (.getfield 24, 3) := by decide +kernel
theorem dX1_turnByCycles_9 : decode cX1_turnByCycles 9 = .ok (.if_icmp .ge 19, 3) := by decide +kernel
theorem dX1_turnByCycles_12 : decode cX1_turnByCycles 12 = .ok (.iload_n 1, 1) := by decide +kernel
theorem dX1_turnByCycles_13 : decode cX1_turnByCycles 13 = .ok (.aload_n 0, 1) := by decide +kernel
theorem dX1_turnByCycles_14 : decode cX1_turnByCycles 14 = .ok (.iload_n 2, 1) := by decide +kernel
theorem dX1_turnByCycles_15 : decode cX1_turnByCycles 15 = .ok (.invokevirtual 54, 3) := by decide +kernel
theorem dX1_turnByCycles_18 : decode cX1_turnByCycles 18 = .ok (.invokestatic 57, 3) := by decide +kernel
theorem dX1_turnByCycles_21 : decode cX1_turnByCycles 21 = .ok (.istore_n 1, 1) := by decide +kernel
theorem dX1_turnByCycles_22 : decode cX1_turnByCycles 22 = .ok (.iinc 2 1, 3) := by decide +kernel
theorem dX1_turnByCycles_25 : decode cX1_turnByCycles 25 = .ok (.goto (-21), 3) := by decide +kernel
theorem dX1_turnByCycles_28 : decode cX1_turnByCycles 28 = .ok (.iload_n 1, 1) := by decide +kernel
theorem dX1_turnByCycles_29 : decode cX1_turnByCycles 29 = .ok (.ireturn, 1) := by decide +kernel
theorem dX1_cycleFrom_0 : decode cX1_cycleFrom 0 = .ok (.iconst 1, 1) := by decide +kernel
theorem dX1_cycleFrom_1 : decode cX1_cycleFrom 1 = .ok (.istore_n 2, 1) := by decide +kernel
theorem dX1_cycleFrom_2 : decode cX1_cycleFrom 2 = .ok (.aload_n 0, 1) := by decide +kernel
theorem dX1_cycleFrom_3 : decode cX1_cycleFrom 3 = .ok (.getfield 9, 3) := by decide +kernel
theorem dX1_cycleFrom_6 : decode cX1_cycleFrom 6 = .ok (.iload_n 1, 1) := by decide +kernel
theorem dX1_cycleFrom_7 : decode cX1_cycleFrom 7 = .ok (.iaload, 1) := by decide +kernel
theorem dX1_cycleFrom_8 : decode cX1_cycleFrom 8 = .ok (.istore_n 3, 1) := by decide +kernel
theorem dX1_cycleFrom_9 : decode cX1_cycleFrom 9 = .ok (.iload_n 3, 1) := by decide +kernel
theorem dX1_cycleFrom_10 : decode cX1_cycleFrom 10 = .ok (.iload_n 1, 1) := by decide +kernel
theorem dX1_cycleFrom_11 : decode cX1_cycleFrom 11 = .ok (.if_icmp .eq 24, 3) := by decide +kernel
theorem dX1_cycleFrom_14 : decode cX1_cycleFrom 14 = .ok (.iload_n 2, 1) := by decide +kernel
theorem dX1_cycleFrom_15 : decode cX1_cycleFrom 15 = .ok (.aload_n 0, 1) := by decide +kernel
theorem dX1_cycleFrom_16 : decode cX1_cycleFrom 16 = .ok (.getfield 24, 3) := by decide +kernel
theorem dX1_cycleFrom_19 : decode cX1_cycleFrom 19 = .ok (.if_icmp .ge 16, 3) := by decide +kernel
theorem dX1_cycleFrom_22 : decode cX1_cycleFrom 22 = .ok (.iinc 2 1, 3) := by decide +kernel
theorem dX1_cycleFrom_25 : decode cX1_cycleFrom 25 = .ok (.aload_n 0, 1) := by decide +kernel
theorem dX1_cycleFrom_26 : decode cX1_cycleFrom 26 = .ok (.getfield 9, 3) := by decide +kernel
theorem dX1_cycleFrom_29 : decode cX1_cycleFrom 29 = .ok (.iload_n 3, 1) := by decide +kernel
theorem dX1_cycleFrom_30 : decode cX1_cycleFrom 30 = .ok (.iaload, 1) := by decide +kernel
theorem dX1_cycleFrom_31 : decode cX1_cycleFrom 31 = .ok (.istore_n 3, 1) := by decide +kernel
theorem dX1_cycleFrom_32 : decode cX1_cycleFrom 32 = .ok (.goto (-23), 3) := by decide +kernel
theorem dX1_cycleFrom_35 : decode cX1_cycleFrom 35 = .ok (.iload_n 2, 1) := by decide +kernel
theorem dX1_cycleFrom_36 : decode cX1_cycleFrom 36 = .ok (.ireturn, 1) := by decide +kernel
theorem dX1_leastCommonMultiple_0 : decode cX1_leastCommonMultiple 0 = .ok (.iconst 1, 1) := by decide +kernel
theorem dX1_leastCommonMultiple_1 : decode cX1_leastCommonMultiple 1 = .ok (.istore_n 2, 1) := by decide +kernel
theorem dX1_leastCommonMultiple_2 : decode cX1_leastCommonMultiple 2 = .ok (.iload_n 2, 1) := by decide +kernel
theorem dX1_leastCommonMultiple_3 : decode cX1_leastCommonMultiple 3 = .ok (.iload_n 1, 1) := by decide +kernel
theorem dX1_leastCommonMultiple_4 : decode cX1_leastCommonMultiple 4 = .ok (.if_icmp .ge 21, 3) := by decide +kernel
theorem dX1_leastCommonMultiple_7 : decode cX1_leastCommonMultiple 7 = .ok (.iload_n 0, 1) := by decide +kernel
theorem dX1_leastCommonMultiple_8 : decode cX1_leastCommonMultiple 8 = .ok (.iload_n 2, 1) := by decide +kernel
theorem dX1_leastCommonMultiple_9 : decode cX1_leastCommonMultiple 9 = .ok (.imul, 1) := by decide +kernel
theorem dX1_leastCommonMultiple_10 : decode cX1_leastCommonMultiple 10 = .ok (.iload_n 1, 1) := by decide +kernel
theorem dX1_leastCommonMultiple_11 : decode cX1_leastCommonMultiple 11 = .ok (.irem, 1) := by decide +kernel
theorem dX1_leastCommonMultiple_12 : decode cX1_leastCommonMultiple 12 = .ok (.ifCond .ne 7, 3) := by decide +kernel
theorem dX1_leastCommonMultiple_15 : decode cX1_leastCommonMultiple 15 = .ok (.iload_n 0, 1) := by decide +kernel
theorem dX1_leastCommonMultiple_16 : decode cX1_leastCommonMultiple 16 = .ok (.iload_n 2, 1) := by decide +kernel
theorem dX1_leastCommonMultiple_17 : decode cX1_leastCommonMultiple 17 = .ok (.imul, 1) := by decide +kernel
theorem dX1_leastCommonMultiple_18 : decode cX1_leastCommonMultiple 18 = .ok (.ireturn, 1) := by decide +kernel
theorem dX1_leastCommonMultiple_19 : decode cX1_leastCommonMultiple 19 = .ok (.iinc 2 1, 3) := by decide +kernel
theorem dX1_leastCommonMultiple_22 : decode cX1_leastCommonMultiple 22 = .ok (.goto (-20), 3) := by decide +kernel
theorem dX1_leastCommonMultiple_25 : decode cX1_leastCommonMultiple 25 = .ok (.iload_n 0, 1) := by decide +kernel
theorem dX1_leastCommonMultiple_26 : decode cX1_leastCommonMultiple 26 = .ok (.iload_n 1, 1) := by decide +kernel
theorem dX1_leastCommonMultiple_27 : decode cX1_leastCommonMultiple 27 = .ok (.imul, 1) := by decide +kernel
theorem dX1_leastCommonMultiple_28 : decode cX1_leastCommonMultiple 28 = .ok (.ireturn, 1) := by decide +kernel
theorem dX1_turnBySteps_0 : decode cX1_turnBySteps 0 = .ok (.bipush 64, 2) := by decide +kernel
theorem dX1_turnBySteps_2 : decode cX1_turnBySteps 2 = .ok (.istore_n 1, 1) := by decide +kernel
theorem dX1_turnBySteps_3 : decode cX1_turnBySteps 3 = .ok (.iconst 1, 1) := by decide +kernel
theorem dX1_turnBySteps_4 : decode cX1_turnBySteps 4 = .ok (.istore_n 2, 1) := by decide +kernel
theorem dX1_turnBySteps_5 : decode cX1_turnBySteps 5 = .ok (.iload_n 2, 1) := by decide +kernel
theorem dX1_turnBySteps_6 : decode cX1_turnBySteps 6 = .ok (.iload_n 1, 1) := by decide +kernel
theorem dX1_turnBySteps_7 : decode cX1_turnBySteps 7 = .ok (.if_icmp .ge 17, 3) := by decide +kernel
theorem dX1_turnBySteps_10 : decode cX1_turnBySteps 10 = .ok (.aload_n 0, 1) := by decide +kernel
theorem dX1_turnBySteps_11 : decode cX1_turnBySteps 11 = .ok (.iload_n 2, 1) := by decide +kernel
theorem dX1_turnBySteps_12 : decode cX1_turnBySteps 12 = .ok (.invokevirtual 61, 3) := by decide +kernel
theorem dX1_turnBySteps_15 : decode cX1_turnBySteps 15 = .ok (.ifCond .ne 9, 3) := by decide +kernel
theorem dX1_turnBySteps_18 : decode cX1_turnBySteps 18 = .ok (.iinc 2 1, 3) := by decide +kernel
theorem dX1_turnBySteps_21 : decode cX1_turnBySteps 21 = .ok (.goto (-16), 3) := by decide +kernel
theorem dX1_turnBySteps_24 : decode cX1_turnBySteps 24 = .ok (.iload_n 2, 1) := by decide +kernel
theorem dX1_turnBySteps_25 : decode cX1_turnBySteps 25 = .ok (.ireturn, 1) := by decide +kernel
theorem dX1_leadsBackAfter_0 : decode cX1_leadsBackAfter 0 = .ok (.iconst 0, 1) := by decide +kernel
theorem dX1_leadsBackAfter_1 : decode cX1_leadsBackAfter 1 = .ok (.istore_n 2, 1) := by decide +kernel
theorem dX1_leadsBackAfter_2 : decode cX1_leadsBackAfter 2 = .ok (.iload_n 2, 1) := by decide +kernel
theorem dX1_leadsBackAfter_3 : decode cX1_leadsBackAfter 3 = .ok (.aload_n 0, 1) := by decide +kernel
theorem dX1_leadsBackAfter_4 : decode cX1_leadsBackAfter 4 = .ok (.getfield 24, 3) := by decide +kernel
theorem dX1_leadsBackAfter_7 : decode cX1_leadsBackAfter 7 = .ok (.if_icmp .ge 40, 3) := by decide +kernel
theorem dX1_leadsBackAfter_10 : decode cX1_leadsBackAfter 10 = .ok (.iload_n 2, 1) := by decide +kernel
theorem dX1_leadsBackAfter_11 : decode cX1_leadsBackAfter 11 = .ok (.istore_n 3, 1) := by decide +kernel
theorem dX1_leadsBackAfter_12 : decode cX1_leadsBackAfter 12 = .ok (.iconst 0, 1) := by decide +kernel
theorem dX1_leadsBackAfter_13 : decode cX1_leadsBackAfter 13 = .ok (.istore 4, 2) := by decide +kernel
theorem dX1_leadsBackAfter_15 : decode cX1_leadsBackAfter 15 = .ok (.iload 4, 2) := by decide +kernel
theorem dX1_leadsBackAfter_17 : decode cX1_leadsBackAfter 17 = .ok (.iload_n 1, 1) := by decide +kernel
theorem dX1_leadsBackAfter_18 : decode cX1_leadsBackAfter 18 = .ok (.if_icmp .ge 16, 3) := by decide +kernel
theorem dX1_leadsBackAfter_21 : decode cX1_leadsBackAfter 21 = .ok (.aload_n 0, 1) := by decide +kernel
theorem dX1_leadsBackAfter_22 : decode cX1_leadsBackAfter 22 = .ok (.getfield 9, 3) := by decide +kernel
theorem dX1_leadsBackAfter_25 : decode cX1_leadsBackAfter 25 = .ok (.iload_n 3, 1) := by decide +kernel
theorem dX1_leadsBackAfter_26 : decode cX1_leadsBackAfter 26 = .ok (.iaload, 1) := by decide +kernel
theorem dX1_leadsBackAfter_27 : decode cX1_leadsBackAfter 27 = .ok (.istore_n 3, 1) := by decide +kernel
theorem dX1_leadsBackAfter_28 : decode cX1_leadsBackAfter 28 = .ok (.iinc 4 1, 3) := by decide +kernel
theorem dX1_leadsBackAfter_31 : decode cX1_leadsBackAfter 31 = .ok (.goto (-16), 3) := by decide +kernel
theorem dX1_leadsBackAfter_34 : decode cX1_leadsBackAfter 34 = .ok (.iload_n 3, 1) := by decide +kernel
theorem dX1_leadsBackAfter_35 : decode cX1_leadsBackAfter 35 = .ok (.iload_n 2, 1) := by decide +kernel
theorem dX1_leadsBackAfter_36 : decode cX1_leadsBackAfter 36 = .ok (.if_icmp .eq 5, 3) := by decide +kernel
theorem dX1_leadsBackAfter_39 : decode cX1_leadsBackAfter 39 = .ok (.iconst 0, 1) := by decide +kernel
theorem dX1_leadsBackAfter_40 : decode cX1_leadsBackAfter 40 = .ok (.ireturn, 1) := by decide +kernel
theorem dX1_leadsBackAfter_41 : decode cX1_leadsBackAfter 41 = .ok (.iinc 2 1, 3) := by decide +kernel
theorem dX1_leadsBackAfter_44 : decode cX1_leadsBackAfter 44 = .ok (.goto (-42), 3) := by decide +kernel
theorem dX1_leadsBackAfter_47 : decode cX1_leadsBackAfter 47 = .ok (.iconst 1, 1) := by decide +kernel
theorem dX1_leadsBackAfter_48 : decode cX1_leadsBackAfter 48 = .ok (.ireturn, 1) := by decide +kernel
theorem dX1_leastDistance_0 : decode cX1_leastDistance 0 = .ok (.aload_n 0, 1) := by decide +kernel
theorem dX1_leastDistance_1 : decode cX1_leastDistance 1 = .ok (.getfield 24, 3) := by decide +kernel
theorem dX1_leastDistance_4 : decode cX1_leastDistance 4 = .ok (.istore_n 1, 1) := by decide +kernel
theorem dX1_leastDistance_5 : decode cX1_leastDistance 5 = .ok (.iconst 0, 1) := by decide +kernel
theorem dX1_leastDistance_6 : decode cX1_leastDistance 6 = .ok (.istore_n 2, 1) := by decide +kernel
theorem dX1_leastDistance_7 : decode cX1_leastDistance 7 = .ok (.iload_n 2, 1) := by decide +kernel
theorem dX1_leastDistance_8 : decode cX1_leastDistance 8 = .ok (.aload_n 0, 1) := by decide +kernel
theorem dX1_leastDistance_9 : decode cX1_leastDistance 9 = .ok (.getfield 24, 3) := by decide +kernel
theorem dX1_leastDistance_12 : decode cX1_leastDistance 12 = .ok (.if_icmp .ge 39, 3) := by decide +kernel
theorem dX1_leastDistance_15 : decode cX1_leastDistance 15 = .ok (.aload_n 0, 1) := by decide +kernel
theorem dX1_leastDistance_16 : decode cX1_leastDistance 16 = .ok (.getfield 9, 3) := by decide +kernel
theorem dX1_leastDistance_19 : decode cX1_leastDistance 19 = .ok (.aload_n 0, 1) := by decide +kernel
theorem dX1_leastDistance_20 : decode cX1_leastDistance 20 = .ok (.iload_n 2, 1) := by decide +kernel
theorem dX1_leastDistance_21 : decode cX1_leastDistance 21 = .ok (.invokevirtual 50, 3) := by decide +kernel
theorem dX1_leastDistance_24 : decode cX1_leastDistance 24 = .ok (.iaload, 1) := by decide +kernel
theorem dX1_leastDistance_25 : decode cX1_leastDistance 25 = .ok (.istore_n 3, 1) := by decide +kernel
theorem dX1_leastDistance_26 : decode cX1_leastDistance 26 = .ok (.iload_n 1, 1) := by decide +kernel
theorem dX1_leastDistance_27 : decode cX1_leastDistance 27 = .ok (.aload_n 0, 1) := by decide +kernel
theorem dX1_leastDistance_28 : decode cX1_leastDistance 28 = .ok (.getfield 9, 3) := by decide +kernel
theorem dX1_leastDistance_31 : decode cX1_leastDistance 31 = .ok (.iload_n 2, 1) := by decide +kernel
theorem dX1_leastDistance_32 : decode cX1_leastDistance 32 = .ok (.iaload, 1) := by decide +kernel
theorem dX1_leastDistance_33 : decode cX1_leastDistance 33 = .ok (.iload_n 3, 1) := by decide +kernel
theorem dX1_leastDistance_34 : decode cX1_leastDistance 34 = .ok (.aload_n 0, 1) := by decide +kernel
theorem dX1_leastDistance_35 : decode cX1_leastDistance 35 = .ok (.getfield 24, 3) := by decide +kernel
theorem dX1_leastDistance_38 : decode cX1_leastDistance 38 = .ok (.invokestatic 65, 3) := by decide +kernel
theorem dX1_leastDistance_41 : decode cX1_leastDistance 41 = .ok (.invokestatic 69, 3) := by decide +kernel
theorem dX1_leastDistance_44 : decode cX1_leastDistance 44 = .ok (.istore_n 1, 1) := by decide +kernel
theorem dX1_leastDistance_45 : decode cX1_leastDistance 45 = .ok (.iinc 2 1, 3) := by decide +kernel
theorem dX1_leastDistance_48 : decode cX1_leastDistance 48 = .ok (.goto (-41), 3) := by decide +kernel
theorem dX1_leastDistance_51 : decode cX1_leastDistance 51 = .ok (.iload_n 1, 1) := by decide +kernel
theorem dX1_leastDistance_52 : decode cX1_leastDistance 52 = .ok (.ireturn, 1) := by decide +kernel
theorem dX1_turnOver_0 : decode cX1_turnOver 0 = .ok (.iconst 0, 1) := by decide +kernel
theorem dX1_turnOver_1 : decode cX1_turnOver 1 = .ok (.istore_n 2, 1) := by decide +kernel
theorem dX1_turnOver_2 : decode cX1_turnOver 2 = .ok (.iconst 0, 1) := by decide +kernel
theorem dX1_turnOver_3 : decode cX1_turnOver 3 = .ok (.istore_n 3, 1) := by decide +kernel
theorem dX1_turnOver_4 : decode cX1_turnOver 4 = .ok (.iload_n 3, 1) := by decide +kernel
theorem dX1_turnOver_5 : decode cX1_turnOver 5 = .ok (.iload_n 1, 1) := by decide +kernel
theorem dX1_turnOver_6 : decode cX1_turnOver 6 = .ok (.if_icmp .ge 76, 3) := by decide +kernel
theorem dX1_turnOver_9 : decode cX1_turnOver 9 = .ok (.aload_n 0, 1) := by decide +kernel
theorem dX1_turnOver_10 : decode cX1_turnOver 10 = .ok (.getfield 9, 3) := by decide +kernel
theorem dX1_turnOver_13 : decode cX1_turnOver 13 = .ok (.aload_n 0, 1) := by decide +kernel
theorem dX1_turnOver_14 : decode cX1_turnOver 14 = .ok (.getfield 28, 3) := by decide +kernel
theorem dX1_turnOver_17 : decode cX1_turnOver 17 = .ok (.iaload, 1) := by decide +kernel
theorem dX1_turnOver_18 : decode cX1_turnOver 18 = .ok (.istore 4, 2) := by decide +kernel
theorem dX1_turnOver_20 : decode cX1_turnOver 20 = .ok (.aload_n 0, 1) := by decide +kernel
theorem dX1_turnOver_21 : decode cX1_turnOver 21 = .ok (.getfield 15, 3) := by decide +kernel
theorem dX1_turnOver_24 : decode cX1_turnOver 24 = .ok (.iload 4, 2) := by decide +kernel
theorem dX1_turnOver_26 : decode cX1_turnOver 26 = .ok (.iaload, 1) := by decide +kernel
theorem dX1_turnOver_27 : decode cX1_turnOver 27 = .ok (.ifCond .le 28, 3) := by decide +kernel
theorem dX1_turnOver_30 : decode cX1_turnOver 30 = .ok (.aload_n 0, 1) := by decide +kernel
theorem dX1_turnOver_31 : decode cX1_turnOver 31 = .ok (.getfield 15, 3) := by decide +kernel
theorem dX1_turnOver_34 : decode cX1_turnOver 34 = .ok (.iload 4, 2) := by decide +kernel
theorem dX1_turnOver_36 : decode cX1_turnOver 36 = .ok (.dup2, 1) := by decide +kernel
theorem dX1_turnOver_37 : decode cX1_turnOver 37 = .ok (.iaload, 1) := by decide +kernel
theorem dX1_turnOver_38 : decode cX1_turnOver 38 = .ok (.iconst 1, 1) := by decide +kernel
theorem dX1_turnOver_39 : decode cX1_turnOver 39 = .ok (.isub, 1) := by decide +kernel
theorem dX1_turnOver_40 : decode cX1_turnOver 40 = .ok (.iastore, 1) := by decide +kernel
theorem dX1_turnOver_41 : decode cX1_turnOver 41 = .ok (.aload_n 0, 1) := by decide +kernel
theorem dX1_turnOver_42 : decode cX1_turnOver 42 = .ok (.getfield 18, 3) := by decide +kernel
theorem dX1_turnOver_45 : decode cX1_turnOver 45 = .ok (.iload 4, 2) := by decide +kernel
theorem dX1_turnOver_47 : decode cX1_turnOver 47 = .ok (.dup2, 1) := by decide +kernel
theorem dX1_turnOver_48 : decode cX1_turnOver 48 = .ok (.iaload, 1) := by decide +kernel
theorem dX1_turnOver_49 : decode cX1_turnOver 49 = .ok (.iconst 1, 1) := by decide +kernel
theorem dX1_turnOver_50 : decode cX1_turnOver 50 = .ok (.iadd, 1) := by decide +kernel
theorem dX1_turnOver_51 : decode cX1_turnOver 51 = .ok (.iastore, 1) := by decide +kernel
theorem dX1_turnOver_52 : decode cX1_turnOver 52 = .ok (.goto 12, 3) := by decide +kernel
theorem dX1_turnOver_55 : decode cX1_turnOver 55 = .ok (.aload_n 0, 1) := by decide +kernel
theorem dX1_turnOver_56 : decode cX1_turnOver 56 = .ok (.iload 4, 2) := by decide +kernel
theorem dX1_turnOver_58 : decode cX1_turnOver 58 = .ok (.invokevirtual 74, 3) := by decide +kernel
theorem dX1_turnOver_61 : decode cX1_turnOver 61 = .ok (.iinc 2 1, 3) := by decide +kernel
theorem dX1_turnOver_64 : decode cX1_turnOver 64 = .ok (.aload_n 0, 1) := by decide +kernel
theorem dX1_turnOver_65 : decode cX1_turnOver 65 = .ok (.aload_n 0, 1) := by decide +kernel
theorem dX1_turnOver_66 : decode cX1_turnOver 66 = .ok (.aload_n 0, 1) := by decide +kernel
theorem dX1_turnOver_67 : decode cX1_turnOver 67 = .ok (.getfield 28, 3) := by decide +kernel
theorem dX1_turnOver_70 : decode cX1_turnOver 70 = .ok (.invokevirtual 50, 3) := by decide +kernel
theorem dX1_turnOver_73 : decode cX1_turnOver 73 = .ok (.putfield 28, 3) := by decide +kernel
theorem dX1_turnOver_76 : decode cX1_turnOver 76 = .ok (.iinc 3 1, 3) := by decide +kernel
theorem dX1_turnOver_79 : decode cX1_turnOver 79 = .ok (.goto (-75), 3) := by decide +kernel
theorem dX1_turnOver_82 : decode cX1_turnOver 82 = .ok (.iload_n 2, 1) := by decide +kernel
theorem dX1_turnOver_83 : decode cX1_turnOver 83 = .ok (.ireturn, 1) := by decide +kernel
theorem dX1_keepKnock_0 : decode cX1_keepKnock 0 = .ok (.aload_n 0, 1) := by decide +kernel
theorem dX1_keepKnock_1 : decode cX1_keepKnock 1 = .ok (.getfield 37, 3) := by decide +kernel
theorem dX1_keepKnock_4 : decode cX1_keepKnock 4 = .ok (.bipush 24, 2) := by decide +kernel
theorem dX1_keepKnock_6 : decode cX1_keepKnock 6 = .ok (.if_icmp .ge 34, 3) := by decide +kernel
theorem dX1_keepKnock_9 : decode cX1_keepKnock 9 = .ok (.aload_n 0, 1) := by decide +kernel
theorem dX1_keepKnock_10 : decode cX1_keepKnock 10 = .ok (.getfield 21, 3) := by decide +kernel
theorem dX1_keepKnock_13 : decode cX1_keepKnock 13 = .ok (.aload_n 0, 1) := by decide +kernel
theorem dX1_keepKnock_14 : decode cX1_keepKnock 14 = .ok (.getfield 34, 3) := by decide +kernel
theorem dX1_keepKnock_17 : decode cX1_keepKnock 17 = .ok (.aload_n 0, 1) := by decide +kernel
theorem dX1_keepKnock_18 : decode cX1_keepKnock 18 = .ok (.getfield 37, 3) := by decide +kernel
theorem dX1_keepKnock_21 : decode cX1_keepKnock 21 = .ok (.iadd, 1) := by decide +kernel
theorem dX1_keepKnock_22 : decode cX1_keepKnock 22 = .ok (.bipush 24, 2) := by decide +kernel
theorem dX1_keepKnock_24 : decode cX1_keepKnock 24 = .ok (.irem, 1) := by decide +kernel
theorem dX1_keepKnock_25 : decode cX1_keepKnock 25 = .ok (.iload_n 1, 1) := by decide +kernel
theorem dX1_keepKnock_26 : decode cX1_keepKnock 26 = .ok (.iastore, 1) := by decide +kernel
theorem dX1_keepKnock_27 : decode cX1_keepKnock 27 = .ok (.aload_n 0, 1) := by decide +kernel
theorem dX1_keepKnock_28 : decode cX1_keepKnock 28 = .ok (.dup, 1) := by decide +kernel
theorem dX1_keepKnock_29 : decode cX1_keepKnock 29 = .ok (.getfield 37, 3) := by decide +kernel
theorem dX1_keepKnock_32 : decode cX1_keepKnock 32 = .ok (.iconst 1, 1) := by decide +kernel
theorem dX1_keepKnock_33 : decode cX1_keepKnock 33 = .ok (.iadd, 1) := by decide +kernel
theorem dX1_keepKnock_34 : decode cX1_keepKnock 34 = .ok (.putfield 37, 3) := by decide +kernel
theorem dX1_keepKnock_37 : decode cX1_keepKnock 37 = .ok (.goto 26, 3) := by decide +kernel
theorem dX1_keepKnock_40 : decode cX1_keepKnock 40 = .ok (.aload_n 0, 1) := by decide +kernel
theorem dX1_keepKnock_41 : decode cX1_keepKnock 41 = .ok (.getfield 21, 3) := by decide +kernel
theorem dX1_keepKnock_44 : decode cX1_keepKnock 44 = .ok (.aload_n 0, 1) := by decide +kernel
theorem dX1_keepKnock_45 : decode cX1_keepKnock 45 = .ok (.getfield 34, 3) := by decide +kernel
theorem dX1_keepKnock_48 : decode cX1_keepKnock 48 = .ok (.iload_n 1, 1) := by decide +kernel
theorem dX1_keepKnock_49 : decode cX1_keepKnock 49 = .ok (.iastore, 1) := by decide +kernel
theorem dX1_keepKnock_50 : decode cX1_keepKnock 50 = .ok (.aload_n 0, 1) := by decide +kernel
theorem dX1_keepKnock_51 : decode cX1_keepKnock 51 = .ok (.aload_n 0, 1) := by decide +kernel
theorem dX1_keepKnock_52 : decode cX1_keepKnock 52 = .ok (.getfield 34, 3) := by decide +kernel
theorem dX1_keepKnock_55 : decode cX1_keepKnock 55 = .ok (.iconst 1, 1) := by decide +kernel
theorem dX1_keepKnock_56 : decode cX1_keepKnock 56 = .ok (.iadd, 1) := by decide +kernel
theorem dX1_keepKnock_57 : decode cX1_keepKnock 57 = .ok (.bipush 24, 2) := by decide +kernel
theorem dX1_keepKnock_59 : decode cX1_keepKnock 59 = .ok (.irem, 1) := by decide +kernel
theorem dX1_keepKnock_60 : decode cX1_keepKnock 60 = .ok (.putfield 34, 3) := by decide +kernel
theorem dX1_keepKnock_63 : decode cX1_keepKnock 63 = .ok (.return_, 1) := by decide +kernel
theorem dX1_keptKnock_0 : decode cX1_keptKnock 0 = .ok (.aload_n 0, 1) := by decide +kernel
theorem dX1_keptKnock_1 : decode cX1_keptKnock 1 = .ok (.getfield 21, 3) := by decide +kernel
theorem dX1_keptKnock_4 : decode cX1_keptKnock 4 = .ok (.aload_n 0, 1) := by decide +kernel
theorem dX1_keptKnock_5 : decode cX1_keptKnock 5 = .ok (.getfield 34, 3) := by decide +kernel
theorem dX1_keptKnock_8 : decode cX1_keptKnock 8 = .ok (.iload_n 1, 1) := by decide +kernel
theorem dX1_keptKnock_9 : decode cX1_keptKnock 9 = .ok (.iadd, 1) := by decide +kernel
theorem dX1_keptKnock_10 : decode cX1_keptKnock 10 = .ok (.bipush 24, 2) := by decide +kernel
theorem dX1_keptKnock_12 : decode cX1_keptKnock 12 = .ok (.irem, 1) := by decide +kernel
theorem dX1_keptKnock_13 : decode cX1_keptKnock 13 = .ok (.iaload, 1) := by decide +kernel
theorem dX1_keptKnock_14 : decode cX1_keptKnock 14 = .ok (.ireturn, 1) := by decide +kernel
theorem dX1_periodByBorders_0 : decode cX1_periodByBorders 0 = .ok (.iconst 0, 1) := by decide +kernel
theorem dX1_periodByBorders_1 : decode cX1_periodByBorders 1 = .ok (.istore_n 2, 1) := by decide +kernel
theorem dX1_periodByBorders_2 : decode cX1_periodByBorders 2 = .ok (.iconst 1, 1) := by decide +kernel
theorem dX1_periodByBorders_3 : decode cX1_periodByBorders 3 = .ok (.istore_n 3, 1) := by decide +kernel
theorem dX1_periodByBorders_4 : decode cX1_periodByBorders 4 = .ok (.iload_n 3, 1) := by decide +kernel
theorem dX1_periodByBorders_5 : decode cX1_periodByBorders 5 = .ok (.aload_n 0, 1) := by decide +kernel
theorem dX1_periodByBorders_6 : decode cX1_periodByBorders 6 = .ok (.getfield 37, 3) := by decide +kernel
theorem dX1_periodByBorders_9 : decode cX1_periodByBorders 9 = .ok (.if_icmp .ge 68, 3) := by decide +kernel
theorem dX1_periodByBorders_12 : decode cX1_periodByBorders 12 = .ok (.aload_n 0, 1) := by decide +kernel
theorem dX1_periodByBorders_13 : decode cX1_periodByBorders 13 = .ok (.iload_n 3, 1) := by decide +kernel
theorem dX1_periodByBorders_14 : decode cX1_periodByBorders 14 = .ok (.invokevirtual 78, 3) := by decide +kernel
theorem dX1_periodByBorders_17 : decode cX1_periodByBorders 17 = .ok (.istore 4, 2) := by decide +kernel
theorem dX1_periodByBorders_19 : decode cX1_periodByBorders 19 = .ok (.iconst 0, 1) := by decide +kernel
theorem dX1_periodByBorders_20 : decode cX1_periodByBorders 20 = .ok (.istore 5, 2) := by decide +kernel
theorem dX1_periodByBorders_22 : decode cX1_periodByBorders 22 = .ok (.iload 5, 2) := by decide +kernel
theorem dX1_periodByBorders_24 : decode cX1_periodByBorders 24 = .ok (.iload_n 3, 1) := by decide +kernel
theorem dX1_periodByBorders_25 : decode cX1_periodByBorders 25 = .ok (.if_icmp .ge 29, 3) := by decide +kernel
theorem dX1_periodByBorders_28 : decode cX1_periodByBorders 28 = .ok (.iload_n 2, 1) := by decide +kernel
theorem dX1_periodByBorders_29 : decode cX1_periodByBorders 29 = .ok (.ifCond .le 25, 3) := by decide +kernel
theorem dX1_periodByBorders_32 : decode cX1_periodByBorders 32 = .ok (.aload_n 0, 1) := by decide +kernel
theorem dX1_periodByBorders_33 : decode cX1_periodByBorders 33 = .ok (.iload_n 2, 1) := by decide +kernel
theorem dX1_periodByBorders_34 : decode cX1_periodByBorders 34 = .ok (.invokevirtual 78, 3) := by decide +kernel
theorem dX1_periodByBorders_37 : decode cX1_periodByBorders 37 = .ok (.iload 4, 2) := by decide +kernel
theorem dX1_periodByBorders_39 : decode cX1_periodByBorders 39 = .ok (.if_icmp .eq 15, 3) := by decide +kernel
theorem dX1_periodByBorders_42 : decode cX1_periodByBorders 42 = .ok (.aload_n 1, 1) := by decide +kernel
theorem dX1_periodByBorders_43 : decode cX1_periodByBorders 43 = .ok (.iload_n 2, 1) := by decide +kernel
theorem dX1_periodByBorders_44 : decode cX1_periodByBorders 44 = .ok (.iconst 1, 1) := by decide +kernel
theorem dX1_periodByBorders_45 : decode cX1_periodByBorders 45 = .ok (.isub, 1) := by decide +kernel
theorem dX1_periodByBorders_46 : decode cX1_periodByBorders 46 = .ok (.iaload, 1) := by decide +kernel
theorem dX1_periodByBorders_47 : decode cX1_periodByBorders 47 = .ok (.istore_n 2, 1) := by decide +kernel
theorem dX1_periodByBorders_48 : decode cX1_periodByBorders 48 = .ok (.iinc 5 1, 3) := by decide +kernel
theorem dX1_periodByBorders_51 : decode cX1_periodByBorders 51 = .ok (.goto (-29), 3) := by decide +kernel
theorem dX1_periodByBorders_54 : decode cX1_periodByBorders 54 = .ok (.aload_n 0, 1) := by decide +kernel
theorem dX1_periodByBorders_55 : decode cX1_periodByBorders 55 = .ok (.iload_n 2, 1) := by decide +kernel
theorem dX1_periodByBorders_56 : decode cX1_periodByBorders 56 = .ok (.invokevirtual 78, 3) := by decide +kernel
theorem dX1_periodByBorders_59 : decode cX1_periodByBorders 59 = .ok (.iload 4, 2) := by decide +kernel
theorem dX1_periodByBorders_61 : decode cX1_periodByBorders 61 = .ok (.if_icmp .ne 6, 3) := by decide +kernel
theorem dX1_periodByBorders_64 : decode cX1_periodByBorders 64 = .ok (.iinc 2 1, 3) := by decide +kernel
theorem dX1_periodByBorders_67 : decode cX1_periodByBorders 67 = .ok (.aload_n 1, 1) := by decide +kernel
theorem dX1_periodByBorders_68 : decode cX1_periodByBorders 68 = .ok (.iload_n 3, 1) := by decide +kernel
theorem dX1_periodByBorders_69 : decode cX1_periodByBorders 69 = .ok (.iload_n 2, 1) := by decide +kernel
theorem dX1_periodByBorders_70 : decode cX1_periodByBorders 70 = .ok (.iastore, 1) := by decide +kernel
theorem dX1_periodByBorders_71 : decode cX1_periodByBorders 71 = .ok (.iinc 3 1, 3) := by decide +kernel
theorem dX1_periodByBorders_74 : decode cX1_periodByBorders 74 = .ok (.goto (-70), 3) := by decide +kernel
theorem dX1_periodByBorders_77 : decode cX1_periodByBorders 77 = .ok (.aload_n 0, 1) := by decide +kernel
theorem dX1_periodByBorders_78 : decode cX1_periodByBorders 78 = .ok (.getfield 37, 3) := by decide +kernel
theorem dX1_periodByBorders_81 : decode cX1_periodByBorders 81 = .ok (.iload_n 2, 1) := by decide +kernel
theorem dX1_periodByBorders_82 : decode cX1_periodByBorders 82 = .ok (.isub, 1) := by decide +kernel
theorem dX1_periodByBorders_83 : decode cX1_periodByBorders 83 = .ok (.ireturn, 1) := by decide +kernel
theorem dX1_periodByTrials_0 : decode cX1_periodByTrials 0 = .ok (.iconst 1, 1) := by decide +kernel
theorem dX1_periodByTrials_1 : decode cX1_periodByTrials 1 = .ok (.istore_n 1, 1) := by decide +kernel
theorem dX1_periodByTrials_2 : decode cX1_periodByTrials 2 = .ok (.iload_n 1, 1) := by decide +kernel
theorem dX1_periodByTrials_3 : decode cX1_periodByTrials 3 = .ok (.aload_n 0, 1) := by decide +kernel
theorem dX1_periodByTrials_4 : decode cX1_periodByTrials 4 = .ok (.getfield 37, 3) := by decide +kernel
theorem dX1_periodByTrials_7 : decode cX1_periodByTrials 7 = .ok (.if_icmp .ge 19, 3) := by decide +kernel
theorem dX1_periodByTrials_10 : decode cX1_periodByTrials 10 = .ok (.aload_n 0, 1) := by decide +kernel
theorem dX1_periodByTrials_11 : decode cX1_periodByTrials 11 = .ok (.iload_n 1, 1) := by decide +kernel
theorem dX1_periodByTrials_12 : decode cX1_periodByTrials 12 = .ok (.invokevirtual 81, 3) := by decide +kernel
theorem dX1_periodByTrials_15 : decode cX1_periodByTrials 15 = .ok (.ifCond .eq 5, 3) := by decide +kernel
theorem dX1_periodByTrials_18 : decode cX1_periodByTrials 18 = .ok (.iload_n 1, 1) := by decide +kernel
theorem dX1_periodByTrials_19 : decode cX1_periodByTrials 19 = .ok (.ireturn, 1) := by decide +kernel
theorem dX1_periodByTrials_20 : decode cX1_periodByTrials 20 = .ok (.iinc 1 1, 3) := by decide +kernel
theorem dX1_periodByTrials_23 : decode cX1_periodByTrials 23 = .ok (.goto (-21), 3) := by decide +kernel
theorem dX1_periodByTrials_26 : decode cX1_periodByTrials 26 = .ok (.aload_n 0, 1) := by decide +kernel
theorem dX1_periodByTrials_27 : decode cX1_periodByTrials 27 = .ok (.getfield 37, 3) := by decide +kernel
theorem dX1_periodByTrials_30 : decode cX1_periodByTrials 30 = .ok (.ireturn, 1) := by decide +kernel
theorem dX1_repeatsAfter_0 : decode cX1_repeatsAfter 0 = .ok (.iload_n 1, 1) := by decide +kernel
theorem dX1_repeatsAfter_1 : decode cX1_repeatsAfter 1 = .ok (.istore_n 2, 1) := by decide +kernel
theorem dX1_repeatsAfter_2 : decode cX1_repeatsAfter 2 = .ok (.iload_n 2, 1) := by decide +kernel
theorem dX1_repeatsAfter_3 : decode cX1_repeatsAfter 3 = .ok (.aload_n 0, 1) := by decide +kernel
theorem dX1_repeatsAfter_4 : decode cX1_repeatsAfter 4 = .ok (.getfield 37, 3) := by decide +kernel
theorem dX1_repeatsAfter_7 : decode cX1_repeatsAfter 7 = .ok (.if_icmp .ge 26, 3) := by decide +kernel
theorem dX1_repeatsAfter_10 : decode cX1_repeatsAfter 10 = .ok (.aload_n 0, 1) := by decide +kernel
theorem dX1_repeatsAfter_11 : decode cX1_repeatsAfter 11 = .ok (.iload_n 2, 1) := by decide +kernel
theorem dX1_repeatsAfter_12 : decode cX1_repeatsAfter 12 = .ok (.invokevirtual 78, 3) := by decide +kernel
theorem dX1_repeatsAfter_15 : decode cX1_repeatsAfter 15 = .ok (.aload_n 0, 1) := by decide +kernel
theorem dX1_repeatsAfter_16 : decode cX1_repeatsAfter 16 = .ok (.iload_n 2, 1) := by decide +kernel
theorem dX1_repeatsAfter_17 : decode cX1_repeatsAfter 17 = .ok (.iload_n 1, 1) := by decide +kernel
theorem dX1_repeatsAfter_18 : decode cX1_repeatsAfter 18 = .ok (.isub, 1) := by decide +kernel
theorem dX1_repeatsAfter_19 : decode cX1_repeatsAfter 19 = .ok (.invokevirtual 78, 3) := by decide +kernel
theorem dX1_repeatsAfter_22 : decode cX1_repeatsAfter 22 = .ok (.if_icmp .eq 5, 3) := by decide +kernel
theorem dX1_repeatsAfter_25 : decode cX1_repeatsAfter 25 = .ok (.iconst 0, 1) := by decide +kernel
theorem dX1_repeatsAfter_26 : decode cX1_repeatsAfter 26 = .ok (.ireturn, 1) := by decide +kernel
theorem dX1_repeatsAfter_27 : decode cX1_repeatsAfter 27 = .ok (.iinc 2 1, 3) := by decide +kernel
theorem dX1_repeatsAfter_30 : decode cX1_repeatsAfter 30 = .ok (.goto (-28), 3) := by decide +kernel
theorem dX1_repeatsAfter_33 : decode cX1_repeatsAfter 33 = .ok (.iconst 1, 1) := by decide +kernel
theorem dX1_repeatsAfter_34 : decode cX1_repeatsAfter 34 = .ok (.ireturn, 1) := by decide +kernel
theorem dX1_sumOf_0 : decode cX1_sumOf 0 = .ok (.iconst 0, 1) := by decide +kernel
theorem dX1_sumOf_1 : decode cX1_sumOf 1 = .ok (.istore_n 2, 1) := by decide +kernel
theorem dX1_sumOf_2 : decode cX1_sumOf 2 = .ok (.iconst 0, 1) := by decide +kernel
theorem dX1_sumOf_3 : decode cX1_sumOf 3 = .ok (.istore_n 3, 1) := by decide +kernel
theorem dX1_sumOf_4 : decode cX1_sumOf 4 = .ok (.iload_n 3, 1) := by decide +kernel
theorem dX1_sumOf_5 : decode cX1_sumOf 5 = .ok (.aload_n 0, 1) := by decide +kernel
theorem dX1_sumOf_6 : decode cX1_sumOf 6 = .ok (.getfield 24, 3) := by decide +kernel
theorem dX1_sumOf_9 : decode cX1_sumOf 9 = .ok (.if_icmp .ge 15, 3) := by decide +kernel
theorem dX1_sumOf_12 : decode cX1_sumOf 12 = .ok (.iload_n 2, 1) := by decide +kernel
theorem dX1_sumOf_13 : decode cX1_sumOf 13 = .ok (.aload_n 1, 1) := by decide +kernel
theorem dX1_sumOf_14 : decode cX1_sumOf 14 = .ok (.iload_n 3, 1) := by decide +kernel
theorem dX1_sumOf_15 : decode cX1_sumOf 15 = .ok (.iaload, 1) := by decide +kernel
theorem dX1_sumOf_16 : decode cX1_sumOf 16 = .ok (.iadd, 1) := by decide +kernel
theorem dX1_sumOf_17 : decode cX1_sumOf 17 = .ok (.istore_n 2, 1) := by decide +kernel
theorem dX1_sumOf_18 : decode cX1_sumOf 18 = .ok (.iinc 3 1, 3) := by decide +kernel
theorem dX1_sumOf_21 : decode cX1_sumOf 21 = .ok (.goto (-17), 3) := by decide +kernel
theorem dX1_sumOf_24 : decode cX1_sumOf 24 = .ok (.iload_n 2, 1) := by decide +kernel
theorem dX1_sumOf_25 : decode cX1_sumOf 25 = .ok (.ireturn, 1) := by decide +kernel
theorem dX1_renew_0 : decode cX1_renew 0 = .ok (.iconst 0, 1) := by decide +kernel
theorem dX1_renew_1 : decode cX1_renew 1 = .ok (.istore_n 1, 1) := by decide +kernel
theorem dX1_renew_2 : decode cX1_renew 2 = .ok (.iload_n 1, 1) := by decide +kernel
theorem dX1_renew_3 : decode cX1_renew 3 = .ok (.aload_n 0, 1) := by decide +kernel
theorem dX1_renew_4 : decode cX1_renew 4 = .ok (.getfield 24, 3) := by decide +kernel
theorem dX1_renew_7 : decode cX1_renew 7 = .ok (.if_icmp .ge 16, 3) := by decide +kernel
theorem dX1_renew_10 : decode cX1_renew 10 = .ok (.aload_n 0, 1) := by decide +kernel
theorem dX1_renew_11 : decode cX1_renew 11 = .ok (.getfield 18, 3) := by decide +kernel
theorem dX1_renew_14 : decode cX1_renew 14 = .ok (.iload_n 1, 1) := by decide +kernel
theorem dX1_renew_15 : decode cX1_renew 15 = .ok (.iconst 0, 1) := by decide +kernel
theorem dX1_renew_16 : decode cX1_renew 16 = .ok (.iastore, 1) := by decide +kernel
theorem dX1_renew_17 : decode cX1_renew 17 = .ok (.iinc 1 1, 3) := by decide +kernel
theorem dX1_renew_20 : decode cX1_renew 20 = .ok (.goto (-18), 3) := by decide +kernel
theorem dX1_renew_23 : decode cX1_renew 23 = .ok (.return_, 1) := by decide +kernel
theorem dX2_init_0 : decode cX2_init 0 = .ok (.aload_n 0, 1) := by decide +kernel
theorem dX2_init_1 : decode cX2_init 1 = .ok (.invokespecial 3, 3) := by decide +kernel
theorem dX2_init_4 : decode cX2_init 4 = .ok (.aload_n 0, 1) := by decide +kernel
theorem dX2_init_5 : decode cX2_init 5 = .ok (.sipush 2048, 3) := by decide +kernel
theorem dX2_init_8 : decode cX2_init 8 = .ok (.newarray .int, 2) := by decide +kernel
theorem dX2_init_10 : decode cX2_init 10 = .ok (.putfield 9, 3) := by decide +kernel
theorem dX2_init_13 : decode cX2_init 13 = .ok (.aload_n 0, 1) := by decide +kernel
theorem dX2_init_14 : decode cX2_init 14 = .ok (.bipush 8, 2) := by decide +kernel
theorem dX2_init_16 : decode cX2_init 16 = .ok (.newarray .int, 2) := by decide +kernel
theorem dX2_init_18 : decode cX2_init 18 = .ok (.putfield 15, 3) := by decide +kernel
theorem dX2_init_21 : decode cX2_init 21 = .ok (.return_, 1) := by decide +kernel
theorem dX2_countByTable_0 : decode cX2_countByTable 0 = .ok (.iconst 1, 1) := by decide +kernel
theorem dX2_countByTable_1 : decode cX2_countByTable 1 = .ok (.iload_n 1, 1) := by decide +kernel
theorem dX2_countByTable_2 : decode cX2_countByTable 2 = .ok (.ishl, 1) := by decide +kernel
theorem dX2_countByTable_3 : decode cX2_countByTable 3 = .ok (.istore_n 3, 1) := by decide +kernel
theorem dX2_countByTable_4 : decode cX2_countByTable 4 = .ok (.iconst 0, 1) := by decide +kernel
theorem dX2_countByTable_5 : decode cX2_countByTable 5 = .ok (.istore 4, 2) := by decide +kernel
theorem dX2_countByTable_7 : decode cX2_countByTable 7 = .ok (.iload 4, 2) := by decide +kernel
theorem dX2_countByTable_9 : decode cX2_countByTable 9 = .ok (.iload_n 3, 1) := by decide +kernel
theorem dX2_countByTable_10 : decode cX2_countByTable 10 = .ok (.bipush 8, 2) := by decide +kernel
theorem dX2_countByTable_12 : decode cX2_countByTable 12 = .ok (.imul, 1) := by decide +kernel
theorem dX2_countByTable_13 : decode cX2_countByTable 13 = .ok (.if_icmp .ge 17, 3) := by decide +kernel
theorem dX2_countByTable_16 : decode cX2_countByTable 16 = .ok (.aload_n 0, 1) := by decide +kernel
theorem dX2_countByTable_17 : decode cX2_countByTable 17 = .ok (.getfield 9, 3) := by decide +kernel
theorem dX2_countByTable_20 : decode cX2_countByTable 20 = .ok (.iload 4, 2) := by decide +kernel
theorem dX2_countByTable_22 : decode cX2_countByTable 22 = .ok (.iconst 0, 1) := by decide +kernel
theorem dX2_countByTable_23 : decode cX2_countByTable 23 = .ok (.iastore, 1) := by decide +kernel
theorem dX2_countByTable_24 : decode cX2_countByTable 24 = .ok (.iinc 4 1, 3) := by decide +kernel
theorem dX2_countByTable_27 : decode cX2_countByTable 27 = .ok (.goto (-20), 3) := by decide +kernel
theorem dX2_countByTable_30 : decode cX2_countByTable 30 = .ok (.aload_n 0, 1) := by decide +kernel
theorem dX2_countByTable_31 : decode cX2_countByTable 31 = .ok (.getfield 9, 3) := by decide +kernel
theorem dX2_countByTable_34 : decode cX2_countByTable 34 = .ok (.bipush 8, 2) := by decide +kernel
theorem dX2_countByTable_36 : decode cX2_countByTable 36 = .ok (.iconst 1, 1) := by decide +kernel
theorem dX2_countByTable_37 : decode cX2_countByTable 37 = .ok (.iastore, 1) := by decide +kernel
theorem dX2_countByTable_38 : decode cX2_countByTable 38 = .ok (.iconst 1, 1) := by decide +kernel
theorem dX2_countByTable_39 : decode cX2_countByTable 39 = .ok (.istore 4, 2) := by decide +kernel
theorem dX2_countByTable_41 : decode cX2_countByTable 41 = .ok (.iload 4, 2) := by decide +kernel
theorem dX2_countByTable_43 : decode cX2_countByTable 43 = .ok (.iload_n 3, 1) := by decide +kernel
theorem dX2_countByTable_44 : decode cX2_countByTable 44 = .ok (.if_icmp .ge 34, 3) := by decide +kernel
theorem dX2_countByTable_47 : decode cX2_countByTable 47 = .ok (.iconst 0, 1) := by decide +kernel
theorem dX2_countByTable_48 : decode cX2_countByTable 48 = .ok (.istore 5, 2) := by decide +kernel
theorem dX2_countByTable_50 : decode cX2_countByTable 50 = .ok (.iload 5, 2) := by decide +kernel
theorem dX2_countByTable_52 : decode cX2_countByTable 52 = .ok (.iload_n 1, 1) := by decide +kernel
theorem dX2_countByTable_53 : decode cX2_countByTable 53 = .ok (.if_icmp .ge 19, 3) := by decide +kernel
theorem dX2_countByTable_56 : decode cX2_countByTable 56 = .ok (.aload_n 0, 1) := by decide +kernel
theorem dX2_countByTable_57 : decode cX2_countByTable 57 = .ok (.iload 4, 2) := by decide +kernel
theorem dX2_countByTable_59 : decode cX2_countByTable 59 = .ok (.iload 5, 2) := by decide +kernel
theorem dX2_countByTable_61 : decode cX2_countByTable 61 = .ok (.iload_n 1, 1) := by decide +kernel
theorem dX2_countByTable_62 : decode cX2_countByTable 62 = .ok (.iload_n 2, 1) := by decide +kernel
theorem dX2_countByTable_63 : decode cX2_countByTable 63 = .ok (.invokevirtual 18, 3) := by decide +kernel
theorem dX2_countByTable_66 : decode cX2_countByTable 66 = .ok (.iinc 5 1, 3) := by decide +kernel
theorem dX2_countByTable_69 : decode cX2_countByTable 69 = .ok (.goto (-19), 3) := by decide +kernel
theorem dX2_countByTable_72 : decode cX2_countByTable 72 = .ok (.iinc 4 2, 3) := by decide +kernel
theorem dX2_countByTable_75 : decode cX2_countByTable 75 = .ok (.goto (-34), 3) := by decide +kernel
theorem dX2_countByTable_78 : decode cX2_countByTable 78 = .ok (.aload_n 0, 1) := by decide +kernel
theorem dX2_countByTable_79 : decode cX2_countByTable 79 = .ok (.iload_n 1, 1) := by decide +kernel
theorem dX2_countByTable_80 : decode cX2_countByTable 80 = .ok (.iload_n 2, 1) := by decide +kernel
theorem dX2_countByTable_81 : decode cX2_countByTable 81 = .ok (.invokevirtual 22, 3) := by decide +kernel
theorem dX2_countByTable_84 : decode cX2_countByTable 84 = .ok (.ireturn, 1) := by decide +kernel
theorem dX2_goOn_0 : decode cX2_goOn 0 = .ok (.aload_n 0, 1) := by decide +kernel
theorem dX2_goOn_1 : decode cX2_goOn 1 = .ok (.getfield 9, 3) := by decide +kernel
theorem dX2_goOn_4 : decode cX2_goOn 4 = .ok (.iload_n 1, 1) := by decide +kernel
theorem dX2_goOn_5 : decode cX2_goOn 5 = .ok (.bipush 8, 2) := by decide +kernel
theorem dX2_goOn_7 : decode cX2_goOn 7 = .ok (.imul, 1) := by decide +kernel
theorem dX2_goOn_8 : decode cX2_goOn 8 = .ok (.iload_n 2, 1) := by decide +kernel
theorem dX2_goOn_9 : decode cX2_goOn 9 = .ok (.iadd, 1) := by decide +kernel
theorem dX2_goOn_10 : decode cX2_goOn 10 = .ok (.iaload, 1) := by decide +kernel
theorem dX2_goOn_11 : decode cX2_goOn 11 = .ok (.istore 5, 2) := by decide +kernel
theorem dX2_goOn_13 : decode cX2_goOn 13 = .ok (.iload 5, 2) := by decide +kernel
theorem dX2_goOn_15 : decode cX2_goOn 15 = .ok (.ifCond .ne 4, 3) := by decide +kernel
theorem dX2_goOn_18 : decode cX2_goOn 18 = .ok (.return_, 1) := by decide +kernel
theorem dX2_goOn_19 : decode cX2_goOn 19 = .ok (.iconst 0, 1) := by decide +kernel
theorem dX2_goOn_20 : decode cX2_goOn 20 = .ok (.istore 6, 2) := by decide +kernel
theorem dX2_goOn_22 : decode cX2_goOn 22 = .ok (.iload 6, 2) := by decide +kernel
theorem dX2_goOn_24 : decode cX2_goOn 24 = .ok (.iload_n 3, 1) := by decide +kernel
theorem dX2_goOn_25 : decode cX2_goOn 25 = .ok (.if_icmp .ge 54, 3) := by decide +kernel
theorem dX2_goOn_28 : decode cX2_goOn 28 = .ok (.iconst 1, 1) := by decide +kernel
theorem dX2_goOn_29 : decode cX2_goOn 29 = .ok (.iload 6, 2) := by decide +kernel
theorem dX2_goOn_31 : decode cX2_goOn 31 = .ok (.ishl, 1) := by decide +kernel
theorem dX2_goOn_32 : decode cX2_goOn 32 = .ok (.istore 7, 2) := by decide +kernel
theorem dX2_goOn_34 : decode cX2_goOn 34 = .ok (.iload_n 1, 1) := by decide +kernel
theorem dX2_goOn_35 : decode cX2_goOn 35 = .ok (.iload 7, 2) := by decide +kernel
theorem dX2_goOn_37 : decode cX2_goOn 37 = .ok (.iand, 1) := by decide +kernel
theorem dX2_goOn_38 : decode cX2_goOn 38 = .ok (.ifCond .ne 35, 3) := by decide +kernel
theorem dX2_goOn_41 : decode cX2_goOn 41 = .ok (.iload_n 2, 1) := by decide +kernel
theorem dX2_goOn_42 : decode cX2_goOn 42 = .ok (.iload 6, 2) := by decide +kernel
theorem dX2_goOn_44 : decode cX2_goOn 44 = .ok (.iload_n 3, 1) := by decide +kernel
theorem dX2_goOn_45 : decode cX2_goOn 45 = .ok (.invokestatic 26, 3) := by decide +kernel
theorem dX2_goOn_48 : decode cX2_goOn 48 = .ok (.iload 4, 2) := by decide +kernel
theorem dX2_goOn_50 : decode cX2_goOn 50 = .ok (.if_icmp .lt 23, 3) := by decide +kernel
theorem dX2_goOn_53 : decode cX2_goOn 53 = .ok (.aload_n 0, 1) := by decide +kernel
theorem dX2_goOn_54 : decode cX2_goOn 54 = .ok (.getfield 9, 3) := by decide +kernel
theorem dX2_goOn_57 : decode cX2_goOn 57 = .ok (.iload_n 1, 1) := by decide +kernel
theorem dX2_goOn_58 : decode cX2_goOn 58 = .ok (.iload 7, 2) := by decide +kernel
theorem dX2_goOn_60 : decode cX2_goOn 60 = .ok (.ior, 1) := by decide +kernel
theorem dX2_goOn_61 : decode cX2_goOn 61 = .ok (.bipush 8, 2) := by decide +kernel
theorem dX2_goOn_63 : decode cX2_goOn 63 = .ok (.imul, 1) := by decide +kernel
theorem dX2_goOn_64 : decode cX2_goOn 64 = .ok (.iload 6, 2) := by decide +kernel
theorem dX2_goOn_66 : decode cX2_goOn 66 = .ok (.iadd, 1) := by decide +kernel
theorem dX2_goOn_67 : decode cX2_goOn 67 = .ok (.dup2, 1) := by decide +kernel
theorem dX2_goOn_68 : decode cX2_goOn 68 = .ok (.iaload, 1) := by decide +kernel
theorem dX2_goOn_69 : decode cX2_goOn 69 = .ok (.iload 5, 2) := by decide +kernel
theorem dX2_goOn_71 : decode cX2_goOn 71 = .ok (.iadd, 1) := by decide +kernel
theorem dX2_goOn_72 : decode cX2_goOn 72 = .ok (.iastore, 1) := by decide +kernel
theorem dX2_goOn_73 : decode cX2_goOn 73 = .ok (.iinc 6 1, 3) := by decide +kernel
theorem dX2_goOn_76 : decode cX2_goOn 76 = .ok (.goto (-54), 3) := by decide +kernel
theorem dX2_goOn_79 : decode cX2_goOn 79 = .ok (.return_, 1) := by decide +kernel
theorem dX2_sumOfEnds_0 : decode cX2_sumOfEnds 0 = .ok (.iconst 1, 1) := by decide +kernel
theorem dX2_sumOfEnds_1 : decode cX2_sumOfEnds 1 = .ok (.iload_n 1, 1) := by decide +kernel
theorem dX2_sumOfEnds_2 : decode cX2_sumOfEnds 2 = .ok (.ishl, 1) := by decide +kernel
theorem dX2_sumOfEnds_3 : decode cX2_sumOfEnds 3 = .ok (.iconst 1, 1) := by decide +kernel
theorem dX2_sumOfEnds_4 : decode cX2_sumOfEnds 4 = .ok (.isub, 1) := by decide +kernel
theorem dX2_sumOfEnds_5 : decode cX2_sumOfEnds 5 = .ok (.istore_n 3, 1) := by decide +kernel
theorem dX2_sumOfEnds_6 : decode cX2_sumOfEnds 6 = .ok (.iconst 0, 1) := by decide +kernel
theorem dX2_sumOfEnds_7 : decode cX2_sumOfEnds 7 = .ok (.istore 4, 2) := by decide +kernel
theorem dX2_sumOfEnds_9 : decode cX2_sumOfEnds 9 = .ok (.iconst 1, 1) := by decide +kernel
theorem dX2_sumOfEnds_10 : decode cX2_sumOfEnds 10 = .ok (.istore 5, 2) := by decide +kernel
theorem dX2_sumOfEnds_12 : decode cX2_sumOfEnds 12 = .ok (.iload 5, 2) := by decide +kernel
theorem dX2_sumOfEnds_14 : decode cX2_sumOfEnds 14 = .ok (.iload_n 1, 1) := by decide +kernel
theorem dX2_sumOfEnds_15 : decode cX2_sumOfEnds 15 = .ok (.if_icmp .ge 37, 3) := by decide +kernel
theorem dX2_sumOfEnds_18 : decode cX2_sumOfEnds 18 = .ok (.iload 5, 2) := by decide +kernel
theorem dX2_sumOfEnds_20 : decode cX2_sumOfEnds 20 = .ok (.iconst 0, 1) := by decide +kernel
theorem dX2_sumOfEnds_21 : decode cX2_sumOfEnds 21 = .ok (.iload_n 1, 1) := by decide +kernel
theorem dX2_sumOfEnds_22 : decode cX2_sumOfEnds 22 = .ok (.invokestatic 26, 3) := by decide +kernel
theorem dX2_sumOfEnds_25 : decode cX2_sumOfEnds 25 = .ok (.iload_n 2, 1) := by decide +kernel
theorem dX2_sumOfEnds_26 : decode cX2_sumOfEnds 26 = .ok (.if_icmp .lt 20, 3) := by decide +kernel
theorem dX2_sumOfEnds_29 : decode cX2_sumOfEnds 29 = .ok (.iload 4, 2) := by decide +kernel
theorem dX2_sumOfEnds_31 : decode cX2_sumOfEnds 31 = .ok (.aload_n 0, 1) := by decide +kernel
theorem dX2_sumOfEnds_32 : decode cX2_sumOfEnds 32 = .ok (.getfield 9, 3) := by decide +kernel
theorem dX2_sumOfEnds_35 : decode cX2_sumOfEnds 35 = .ok (.iload_n 3, 1) := by decide +kernel
theorem dX2_sumOfEnds_36 : decode cX2_sumOfEnds 36 = .ok (.bipush 8, 2) := by decide +kernel
theorem dX2_sumOfEnds_38 : decode cX2_sumOfEnds 38 = .ok (.imul, 1) := by decide +kernel
theorem dX2_sumOfEnds_39 : decode cX2_sumOfEnds 39 = .ok (.iload 5, 2) := by decide +kernel
theorem dX2_sumOfEnds_41 : decode cX2_sumOfEnds 41 = .ok (.iadd, 1) := by decide +kernel
theorem dX2_sumOfEnds_42 : decode cX2_sumOfEnds 42 = .ok (.iaload, 1) := by decide +kernel
theorem dX2_sumOfEnds_43 : decode cX2_sumOfEnds 43 = .ok (.iadd, 1) := by decide +kernel
theorem dX2_sumOfEnds_44 : decode cX2_sumOfEnds 44 = .ok (.istore 4, 2) := by decide +kernel
theorem dX2_sumOfEnds_46 : decode cX2_sumOfEnds 46 = .ok (.iinc 5 1, 3) := by decide +kernel
theorem dX2_sumOfEnds_49 : decode cX2_sumOfEnds 49 = .ok (.goto (-37), 3) := by decide +kernel
theorem dX2_sumOfEnds_52 : decode cX2_sumOfEnds 52 = .ok (.iload 4, 2) := by decide +kernel
theorem dX2_sumOfEnds_54 : decode cX2_sumOfEnds 54 = .ok (.ireturn, 1) := by decide +kernel
theorem dX2_countBySwapping_0 : decode cX2_countBySwapping 0 = .ok (.iconst 0, 1) := by decide +kernel
theorem dX2_countBySwapping_1 : decode cX2_countBySwapping 1 = .ok (.istore_n 3, 1) := by decide +kernel
theorem dX2_countBySwapping_2 : decode cX2_countBySwapping 2 = .ok (.iload_n 3, 1) := by decide +kernel
theorem dX2_countBySwapping_3 : decode cX2_countBySwapping 3 = .ok (.iload_n 1, 1) := by decide +kernel
theorem dX2_countBySwapping_4 : decode cX2_countBySwapping 4 = .ok (.if_icmp .ge 16, 3) := by decide +kernel
theorem dX2_countBySwapping_7 : decode cX2_countBySwapping 7 = .ok (.aload_n 0, 1) := by decide +kernel
theorem dX2_countBySwapping_8 : decode cX2_countBySwapping 8 = .ok (.getfield 15, 3) := by decide +kernel
theorem dX2_countBySwapping_11 : decode cX2_countBySwapping 11 = .ok (.iload_n 3, 1) := by decide +kernel
theorem dX2_countBySwapping_12 : decode cX2_countBySwapping 12 = .ok (.iload_n 3, 1) := by decide +kernel
theorem dX2_countBySwapping_13 : decode cX2_countBySwapping 13 = .ok (.iastore, 1) := by decide +kernel
theorem dX2_countBySwapping_14 : decode cX2_countBySwapping 14 = .ok (.iinc 3 1, 3) := by decide +kernel
theorem dX2_countBySwapping_17 : decode cX2_countBySwapping 17 = .ok (.goto (-15), 3) := by decide +kernel
theorem dX2_countBySwapping_20 : decode cX2_countBySwapping 20 = .ok (.iconst 1, 1) := by decide +kernel
theorem dX2_countBySwapping_21 : decode cX2_countBySwapping 21 = .ok (.aload_n 0, 1) := by decide +kernel
theorem dX2_countBySwapping_22 : decode cX2_countBySwapping 22 = .ok (.getfield 15, 3) := by decide +kernel
theorem dX2_countBySwapping_25 : decode cX2_countBySwapping 25 = .ok (.iload_n 1, 1) := by decide +kernel
theorem dX2_countBySwapping_26 : decode cX2_countBySwapping 26 = .ok (.iload_n 2, 1) := by decide +kernel
theorem dX2_countBySwapping_27 : decode cX2_countBySwapping 27 = .ok (.invokestatic 30, 3) := by decide +kernel
theorem dX2_countBySwapping_30 : decode cX2_countBySwapping 30 = .ok (.ireturn, 1) := by decide +kernel
theorem dX2_countFrom_0 : decode cX2_countFrom 0 = .ok (.iload_n 0, 1) := by decide +kernel
theorem dX2_countFrom_1 : decode cX2_countFrom 1 = .ok (.iload_n 2, 1) := by decide +kernel
theorem dX2_countFrom_2 : decode cX2_countFrom 2 = .ok (.if_icmp .lt 25, 3) := by decide +kernel
theorem dX2_countFrom_5 : decode cX2_countFrom 5 = .ok (.aload_n 1, 1) := by decide +kernel
theorem dX2_countFrom_6 : decode cX2_countFrom 6 = .ok (.iload_n 0, 1) := by decide +kernel
theorem dX2_countFrom_7 : decode cX2_countFrom 7 = .ok (.iconst 1, 1) := by decide +kernel
theorem dX2_countFrom_8 : decode cX2_countFrom 8 = .ok (.isub, 1) := by decide +kernel
theorem dX2_countFrom_9 : decode cX2_countFrom 9 = .ok (.iaload, 1) := by decide +kernel
theorem dX2_countFrom_10 : decode cX2_countFrom 10 = .ok (.aload_n 1, 1) := by decide +kernel
theorem dX2_countFrom_11 : decode cX2_countFrom 11 = .ok (.iconst 0, 1) := by decide +kernel
theorem dX2_countFrom_12 : decode cX2_countFrom 12 = .ok (.iaload, 1) := by decide +kernel
theorem dX2_countFrom_13 : decode cX2_countFrom 13 = .ok (.iload_n 2, 1) := by decide +kernel
theorem dX2_countFrom_14 : decode cX2_countFrom 14 = .ok (.invokestatic 26, 3) := by decide +kernel
theorem dX2_countFrom_17 : decode cX2_countFrom 17 = .ok (.iload_n 3, 1) := by decide +kernel
theorem dX2_countFrom_18 : decode cX2_countFrom 18 = .ok (.if_icmp .lt 7, 3) := by decide +kernel
theorem dX2_countFrom_21 : decode cX2_countFrom 21 = .ok (.iconst 1, 1) := by decide +kernel
theorem dX2_countFrom_22 : decode cX2_countFrom 22 = .ok (.goto 4, 3) := by decide +kernel
theorem dX2_countFrom_25 : decode cX2_countFrom 25 = .ok (.iconst 0, 1) := by decide +kernel
theorem dX2_countFrom_26 : decode cX2_countFrom 26 = .ok (.ireturn, 1) := by decide +kernel
theorem dX2_countFrom_27 : decode cX2_countFrom 27 = .ok (.iconst 0, 1) := by decide +kernel
theorem dX2_countFrom_28 : decode cX2_countFrom 28 = .ok (.istore 4, 2) := by decide +kernel
theorem dX2_countFrom_30 : decode cX2_countFrom 30 = .ok (.iload_n 0, 1) := by decide +kernel
theorem dX2_countFrom_31 : decode cX2_countFrom 31 = .ok (.istore 5, 2) := by decide +kernel
theorem dX2_countFrom_33 : decode cX2_countFrom 33 = .ok (.iload 5, 2) := by decide +kernel
theorem dX2_countFrom_35 : decode cX2_countFrom 35 = .ok (.iload_n 2, 1) := by decide +kernel
theorem dX2_countFrom_36 : decode cX2_countFrom 36 = .ok (.if_icmp .ge 69, 3) := by decide +kernel
theorem dX2_countFrom_39 : decode cX2_countFrom 39 = .ok (.aload_n 1, 1) := by decide +kernel
theorem dX2_countFrom_40 : decode cX2_countFrom 40 = .ok (.iload 5, 2) := by decide +kernel
theorem dX2_countFrom_42 : decode cX2_countFrom 42 = .ok (.iaload, 1) := by decide +kernel
theorem dX2_countFrom_43 : decode cX2_countFrom 43 = .ok (.istore 6, 2) := by decide +kernel
theorem dX2_countFrom_45 : decode cX2_countFrom 45 = .ok (.aload_n 1, 1) := by decide +kernel
theorem dX2_countFrom_46 : decode cX2_countFrom 46 = .ok (.iload_n 0, 1) := by decide +kernel
theorem dX2_countFrom_47 : decode cX2_countFrom 47 = .ok (.iconst 1, 1) := by decide +kernel
theorem dX2_countFrom_48 : decode cX2_countFrom 48 = .ok (.isub, 1) := by decide +kernel
theorem dX2_countFrom_49 : decode cX2_countFrom 49 = .ok (.iaload, 1) := by decide +kernel
theorem dX2_countFrom_50 : decode cX2_countFrom 50 = .ok (.iload 6, 2) := by decide +kernel
theorem dX2_countFrom_52 : decode cX2_countFrom 52 = .ok (.iload_n 2, 1) := by decide +kernel
theorem dX2_countFrom_53 : decode cX2_countFrom 53 = .ok (.invokestatic 26, 3) := by decide +kernel
theorem dX2_countFrom_56 : decode cX2_countFrom 56 = .ok (.iload_n 3, 1) := by decide +kernel
theorem dX2_countFrom_57 : decode cX2_countFrom 57 = .ok (.if_icmp .lt 42, 3) := by decide +kernel
theorem dX2_countFrom_60 : decode cX2_countFrom 60 = .ok (.aload_n 1, 1) := by decide +kernel
theorem dX2_countFrom_61 : decode cX2_countFrom 61 = .ok (.iload 5, 2) := by decide +kernel
theorem dX2_countFrom_63 : decode cX2_countFrom 63 = .ok (.aload_n 1, 1) := by decide +kernel
theorem dX2_countFrom_64 : decode cX2_countFrom 64 = .ok (.iload_n 0, 1) := by decide +kernel
theorem dX2_countFrom_65 : decode cX2_countFrom 65 = .ok (.iaload, 1) := by decide +kernel
theorem dX2_countFrom_66 : decode cX2_countFrom 66 = .ok (.iastore, 1) := by decide +kernel
theorem dX2_countFrom_67 : decode cX2_countFrom 67 = .ok (.aload_n 1, 1) := by decide +kernel
theorem dX2_countFrom_68 : decode cX2_countFrom 68 = .ok (.iload_n 0, 1) := by decide +kernel
theorem dX2_countFrom_69 : decode cX2_countFrom 69 = .ok (.iload 6, 2) := by decide +kernel
theorem dX2_countFrom_71 : decode cX2_countFrom 71 = .ok (.iastore, 1) := by decide +kernel
theorem dX2_countFrom_72 : decode cX2_countFrom 72 = .ok (.iload 4, 2) := by decide +kernel
theorem dX2_countFrom_74 : decode cX2_countFrom 74 = .ok (.iload_n 0, 1) := by decide +kernel
theorem dX2_countFrom_75 : decode cX2_countFrom 75 = .ok (.iconst 1, 1) := by decide +kernel
theorem dX2_countFrom_76 : decode cX2_countFrom 76 = .ok (.iadd, 1) := by decide +kernel
theorem dX2_countFrom_77 : decode cX2_countFrom 77 = .ok (.aload_n 1, 1) := by decide +kernel
theorem dX2_countFrom_78 : decode cX2_countFrom 78 = .ok (.iload_n 2, 1) := by decide +kernel
theorem dX2_countFrom_79 : decode cX2_countFrom 79 = .ok (.iload_n 3, 1) := by decide +kernel
theorem dX2_countFrom_80 : decode cX2_countFrom 80 = .ok (.invokestatic 30, 3) := by decide +kernel
theorem dX2_countFrom_83 : decode cX2_countFrom 83 = .ok (.iadd, 1) := by decide +kernel
theorem dX2_countFrom_84 : decode cX2_countFrom 84 = .ok (.istore 4, 2) := by decide +kernel
theorem dX2_countFrom_86 : decode cX2_countFrom 86 = .ok (.aload_n 1, 1) := by decide +kernel
theorem dX2_countFrom_87 : decode cX2_countFrom 87 = .ok (.iload_n 0, 1) := by decide +kernel
theorem dX2_countFrom_88 : decode cX2_countFrom 88 = .ok (.aload_n 1, 1) := by decide +kernel
theorem dX2_countFrom_89 : decode cX2_countFrom 89 = .ok (.iload 5, 2) := by decide +kernel
theorem dX2_countFrom_91 : decode cX2_countFrom 91 = .ok (.iaload, 1) := by decide +kernel
theorem dX2_countFrom_92 : decode cX2_countFrom 92 = .ok (.iastore, 1) := by decide +kernel
theorem dX2_countFrom_93 : decode cX2_countFrom 93 = .ok (.aload_n 1, 1) := by decide +kernel
theorem dX2_countFrom_94 : decode cX2_countFrom 94 = .ok (.iload 5, 2) := by decide +kernel
theorem dX2_countFrom_96 : decode cX2_countFrom 96 = .ok (.iload 6, 2) := by decide +kernel
theorem dX2_countFrom_98 : decode cX2_countFrom 98 = .ok (.iastore, 1) := by decide +kernel
theorem dX2_countFrom_99 : decode cX2_countFrom 99 = .ok (.iinc 5 1, 3) := by decide +kernel
theorem dX2_countFrom_102 : decode cX2_countFrom 102 = .ok (.goto (-69), 3) := by decide +kernel
theorem dX2_countFrom_105 : decode cX2_countFrom 105 = .ok (.iload 4, 2) := by decide +kernel
theorem dX2_countFrom_107 : decode cX2_countFrom 107 = .ok (.ireturn, 1) := by decide +kernel
theorem dX3_init_0 : decode cX3_init 0 = .ok (.aload_n 0, 1) := by decide +kernel
theorem dX3_init_1 : decode cX3_init 1 = .ok (.invokespecial 3, 3) := by decide +kernel
theorem dX3_init_4 : decode cX3_init 4 = .ok (.aload_n 0, 1) := by decide +kernel
theorem dX3_init_5 : decode cX3_init 5 = .ok (.iconst 4, 1) := by decide +kernel
theorem dX3_init_6 : decode cX3_init 6 = .ok (.anewarray 9, 3) := by decide +kernel
theorem dX3_init_9 : decode cX3_init 9 = .ok (.putfield 11, 3) := by decide +kernel
theorem dX3_init_12 : decode cX3_init 12 = .ok (.aload_n 0, 1) := by decide +kernel
theorem dX3_init_13 : decode cX3_init 13 = .ok (.bipush 6, 2) := by decide +kernel
theorem dX3_init_15 : decode cX3_init 15 = .ok (.newarray .int, 2) := by decide +kernel
theorem dX3_init_17 : decode cX3_init 17 = .ok (.putfield 17, 3) := by decide +kernel
theorem dX3_init_20 : decode cX3_init 20 = .ok (.aload_n 0, 1) := by decide +kernel
theorem dX3_init_21 : decode cX3_init 21 = .ok (.new 21, 3) := by decide +kernel
theorem dX3_init_24 : decode cX3_init 24 = .ok (.dup, 1) := by decide +kernel
theorem dX3_init_25 : decode cX3_init 25 = .ok (.invokespecial 23, 3) := by decide +kernel
theorem dX3_init_28 : decode cX3_init 28 = .ok (.putfield 24, 3) := by decide +kernel
theorem dX3_init_31 : decode cX3_init 31 = .ok (.aload_n 0, 1) := by decide +kernel
theorem dX3_init_32 : decode cX3_init 32 = .ok (.new 28, 3) := by decide +kernel
theorem dX3_init_35 : decode cX3_init 35 = .ok (.dup, 1) := by decide +kernel
theorem dX3_init_36 : decode cX3_init 36 = .ok (.invokespecial 30, 3) := by decide +kernel
theorem dX3_init_39 : decode cX3_init 39 = .ok (.putfield 31, 3) := by decide +kernel
theorem dX3_init_42 : decode cX3_init 42 = .ok (.aload_n 0, 1) := by decide +kernel
theorem dX3_init_43 : decode cX3_init 43 = .ok (.bipush 20, 2) := by decide +kernel
theorem dX3_init_45 : decode cX3_init 45 = .ok (.putfield 35, 3) := by decide +kernel
theorem dX3_init_48 : decode cX3_init 48 = .ok (.aload_n 0, 1) := by decide +kernel
theorem dX3_init_49 : decode cX3_init 49 = .ok (.bipush 20, 2) := by decide +kernel
theorem dX3_init_51 : decode cX3_init 51 = .ok (.putfield 39, 3) := by decide +kernel
theorem dX3_init_54 : decode cX3_init 54 = .ok (.iconst 0, 1) := by decide +kernel
theorem dX3_init_55 : decode cX3_init 55 = .ok (.istore_n 1, 1) := by decide +kernel
theorem dX3_init_56 : decode cX3_init 56 = .ok (.iload_n 1, 1) := by decide +kernel
theorem dX3_init_57 : decode cX3_init 57 = .ok (.iconst 4, 1) := by decide +kernel
theorem dX3_init_58 : decode cX3_init 58 = .ok (.if_icmp .ge 22, 3) := by decide +kernel
theorem dX3_init_61 : decode cX3_init 61 = .ok (.aload_n 0, 1) := by decide +kernel
theorem dX3_init_62 : decode cX3_init 62 = .ok (.getfield 11, 3) := by decide +kernel
theorem dX3_init_65 : decode cX3_init 65 = .ok (.iload_n 1, 1) := by decide +kernel
theorem dX3_init_66 : decode cX3_init 66 = .ok (.new 9, 3) := by decide +kernel
theorem dX3_init_69 : decode cX3_init 69 = .ok (.dup, 1) := by decide +kernel
theorem dX3_init_70 : decode cX3_init 70 = .ok (.invokespecial 42, 3) := by decide +kernel
theorem dX3_init_73 : decode cX3_init 73 = .ok (.aastore, 1) := by decide +kernel
theorem dX3_init_74 : decode cX3_init 74 = .ok (.iinc 1 1, 3) := by decide +kernel
theorem dX3_init_77 : decode cX3_init 77 = .ok (.goto (-21), 3) := by decide +kernel
theorem dX3_init_80 : decode cX3_init 80 = .ok (.return_, 1) := by decide +kernel
theorem dX3_become_0 : decode cX3_become 0 = .ok (.iconst 0, 1) := by decide +kernel
theorem dX3_become_1 : decode cX3_become 1 = .ok (.istore_n 2, 1) := by decide +kernel
theorem dX3_become_2 : decode cX3_become 2 = .ok (.iload_n 2, 1) := by decide +kernel
theorem dX3_become_3 : decode cX3_become 3 = .ok (.aload_n 1, 1) := by decide +kernel
theorem dX3_become_4 : decode cX3_become 4 = .ok (.getfield 43, 3) := by decide +kernel
theorem dX3_become_7 : decode cX3_become 7 = .ok (.if_icmp .ge 24, 3) := by decide +kernel
theorem dX3_become_10 : decode cX3_become 10 = .ok (.aload_n 0, 1) := by decide +kernel
theorem dX3_become_11 : decode cX3_become 11 = .ok (.getfield 11, 3) := by decide +kernel
theorem dX3_become_14 : decode cX3_become 14 = .ok (.iload_n 2, 1) := by decide +kernel
theorem dX3_become_15 : decode cX3_become 15 = .ok (.aaload, 1) := by decide +kernel
theorem dX3_become_16 : decode cX3_become 16 = .ok (.aload_n 1, 1) := by decide +kernel
theorem dX3_become_17 : decode cX3_become 17 = .ok (.getfield 11, 3) := by decide +kernel
theorem dX3_become_20 : decode cX3_become 20 = .ok (.iload_n 2, 1) := by decide +kernel
theorem dX3_become_21 : decode cX3_become 21 = .ok (.aaload, 1) := by decide +kernel
theorem dX3_become_22 : decode cX3_become 22 = .ok (.invokevirtual 46, 3) := by decide +kernel
theorem dX3_become_25 : decode cX3_become 25 = .ok (.iinc 2 1, 3) := by decide +kernel
theorem dX3_become_28 : decode cX3_become 28 = .ok (.goto (-26), 3) := by decide +kernel
theorem dX3_become_31 : decode cX3_become 31 = .ok (.aload_n 1, 1) := by decide +kernel
theorem dX3_become_32 : decode cX3_become 32 = .ok (.getfield 17, 3) := by decide +kernel
theorem dX3_become_35 : decode cX3_become 35 = .ok (.iconst 0, 1) := by decide +kernel
theorem dX3_become_36 : decode cX3_become 36 = .ok (.aload_n 0, 1) := by decide +kernel
theorem dX3_become_37 : decode cX3_become 37 = .ok (.getfield 17, 3) := by decide +kernel
theorem dX3_become_40 : decode cX3_become 40 = .ok (.iconst 0, 1) := by decide +kernel
theorem dX3_become_41 : decode cX3_become 41 = .ok (.bipush 6, 2) := by decide +kernel
theorem dX3_become_43 : decode cX3_become 43 = .ok (.invokestatic 50, 3) := by decide +kernel
theorem dX3_become_46 : decode cX3_become 46 = .ok (.aload_n 0, 1) := by decide +kernel
theorem dX3_become_47 : decode cX3_become 47 = .ok (.getfield 24, 3) := by decide +kernel
theorem dX3_become_50 : decode cX3_become 50 = .ok (.aload_n 1, 1) := by decide +kernel
theorem dX3_become_51 : decode cX3_become 51 = .ok (.getfield 24, 3) := by decide +kernel
theorem dX3_become_54 : decode cX3_become 54 = .ok (.invokevirtual 56, 3) := by decide +kernel
theorem dX3_become_57 : decode cX3_become 57 = .ok (.aload_n 0, 1) := by decide +kernel
theorem dX3_become_58 : decode cX3_become 58 = .ok (.getfield 31, 3) := by decide +kernel
theorem dX3_become_61 : decode cX3_become 61 = .ok (.aload_n 1, 1) := by decide +kernel
theorem dX3_become_62 : decode cX3_become 62 = .ok (.getfield 31, 3) := by decide +kernel
theorem dX3_become_65 : decode cX3_become 65 = .ok (.invokevirtual 59, 3) := by decide +kernel
theorem dX3_become_68 : decode cX3_become 68 = .ok (.aload_n 0, 1) := by decide +kernel
theorem dX3_become_69 : decode cX3_become 69 = .ok (.aload_n 1, 1) := by decide +kernel
theorem dX3_become_70 : decode cX3_become 70 = .ok (.getfield 43, 3) := by decide +kernel
theorem dX3_become_73 : decode cX3_become 73 = .ok (.putfield 43, 3) := by decide +kernel
theorem dX3_become_76 : decode cX3_become 76 = .ok (.aload_n 0, 1) := by decide +kernel
theorem dX3_become_77 : decode cX3_become 77 = .ok (.aload_n 1, 1) := by decide +kernel
theorem dX3_become_78 : decode cX3_become 78 = .ok (.getfield 62, 3) := by decide +kernel
theorem dX3_become_81 : decode cX3_become 81 = .ok (.putfield 62, 3) := by decide +kernel
theorem dX3_become_84 : decode cX3_become 84 = .ok (.aload_n 0, 1) := by decide +kernel
theorem dX3_become_85 : decode cX3_become 85 = .ok (.aload_n 1, 1) := by decide +kernel
theorem dX3_become_86 : decode cX3_become 86 = .ok (.getfield 35, 3) := by decide +kernel
theorem dX3_become_89 : decode cX3_become 89 = .ok (.putfield 35, 3) := by decide +kernel
theorem dX3_become_92 : decode cX3_become 92 = .ok (.aload_n 0, 1) := by decide +kernel
theorem dX3_become_93 : decode cX3_become 93 = .ok (.aload_n 1, 1) := by decide +kernel
theorem dX3_become_94 : decode cX3_become 94 = .ok (.getfield 39, 3) := by decide +kernel
theorem dX3_become_97 : decode cX3_become 97 = .ok (.putfield 39, 3) := by decide +kernel
theorem dX3_become_100 : decode cX3_become 100 = .ok (.aload_n 0, 1) := by decide +kernel
theorem dX3_become_101 : decode cX3_become 101 = .ok (.aload_n 1, 1) := by decide +kernel
theorem dX3_become_102 : decode cX3_become 102 = .ok (.getfield 65, 3) := by decide +kernel
theorem dX3_become_105 : decode cX3_become 105 = .ok (.putfield 65, 3) := by decide +kernel
theorem dX3_become_108 : decode cX3_become 108 = .ok (.aload_n 0, 1) := by decide +kernel
theorem dX3_become_109 : decode cX3_become 109 = .ok (.aload_n 1, 1) := by decide +kernel
theorem dX3_become_110 : decode cX3_become 110 = .ok (.getfield 68, 3) := by decide +kernel
theorem dX3_become_113 : decode cX3_become 113 = .ok (.putfield 68, 3) := by decide +kernel
theorem dX3_become_116 : decode cX3_become 116 = .ok (.aload_n 0, 1) := by decide +kernel
theorem dX3_become_117 : decode cX3_become 117 = .ok (.aload_n 1, 1) := by decide +kernel
theorem dX3_become_118 : decode cX3_become 118 = .ok (.getfield 71, 3) := by decide +kernel
theorem dX3_become_121 : decode cX3_become 121 = .ok (.putfield 71, 3) := by decide +kernel
theorem dX3_become_124 : decode cX3_become 124 = .ok (.aload_n 0, 1) := by decide +kernel
theorem dX3_become_125 : decode cX3_become 125 = .ok (.aload_n 1, 1) := by decide +kernel
theorem dX3_become_126 : decode cX3_become 126 = .ok (.getfield 74, 3) := by decide +kernel
theorem dX3_become_129 : decode cX3_become 129 = .ok (.putfield 74, 3) := by decide +kernel
theorem dX3_become_132 : decode cX3_become 132 = .ok (.return_, 1) := by decide +kernel
theorem dX3_hasEngine_0 : decode cX3_hasEngine 0 = .ok (.iload_n 1, 1) := by decide +kernel
theorem dX3_hasEngine_1 : decode cX3_hasEngine 1 = .ok (.iconst 0, 1) := by decide +kernel
theorem dX3_hasEngine_2 : decode cX3_hasEngine 2 = .ok (.aload_n 0, 1) := by decide +kernel
theorem dX3_hasEngine_3 : decode cX3_hasEngine 3 = .ok (.getfield 43, 3) := by decide +kernel
theorem dX3_hasEngine_6 : decode cX3_hasEngine 6 = .ok (.iconst 1, 1) := by decide +kernel
theorem dX3_hasEngine_7 : decode cX3_hasEngine 7 = .ok (.isub, 1) := by decide +kernel
theorem dX3_hasEngine_8 : decode cX3_hasEngine 8 = .ok (.invokestatic 77, 3) := by decide +kernel
theorem dX3_hasEngine_11 : decode cX3_hasEngine 11 = .ok (.ireturn, 1) := by decide +kernel
theorem dX3_hasCylinder_0 : decode cX3_hasCylinder 0 = .ok (.aload_n 0, 1) := by decide +kernel
theorem dX3_hasCylinder_1 : decode cX3_hasCylinder 1 = .ok (.iload_n 1, 1) := by decide +kernel
theorem dX3_hasCylinder_2 : decode cX3_hasCylinder 2 = .ok (.invokevirtual 81, 3) := by decide +kernel
theorem dX3_hasCylinder_5 : decode cX3_hasCylinder 5 = .ok (.ifCond .eq 20, 3) := by decide +kernel
theorem dX3_hasCylinder_8 : decode cX3_hasCylinder 8 = .ok (.aload_n 0, 1) := by decide +kernel
theorem dX3_hasCylinder_9 : decode cX3_hasCylinder 9 = .ok (.getfield 11, 3) := by decide +kernel
theorem dX3_hasCylinder_12 : decode cX3_hasCylinder 12 = .ok (.iload_n 1, 1) := by decide +kernel
theorem dX3_hasCylinder_13 : decode cX3_hasCylinder 13 = .ok (.aaload, 1) := by decide +kernel
theorem dX3_hasCylinder_14 : decode cX3_hasCylinder 14 = .ok (.iload_n 2, 1) := by decide +kernel
theorem dX3_hasCylinder_15 : decode cX3_hasCylinder 15 = .ok (.invokevirtual 85, 3) := by decide +kernel
theorem dX3_hasCylinder_18 : decode cX3_hasCylinder 18 = .ok (.ifCond .eq 7, 3) := by decide +kernel
theorem dX3_hasCylinder_21 : decode cX3_hasCylinder 21 = .ok (.iconst 1, 1) := by decide +kernel
theorem dX3_hasCylinder_22 : decode cX3_hasCylinder 22 = .ok (.goto 4, 3) := by decide +kernel
theorem dX3_hasCylinder_25 : decode cX3_hasCylinder 25 = .ok (.iconst 0, 1) := by decide +kernel
theorem dX3_hasCylinder_26 : decode cX3_hasCylinder 26 = .ok (.ireturn, 1) := by decide +kernel
theorem dX3_faultOfEngine_0 : decode cX3_faultOfEngine 0 = .ok (.iload_n 1, 1) := by decide +kernel
theorem dX3_faultOfEngine_1 : decode cX3_faultOfEngine 1 = .ok (.iconst 3, 1) := by decide +kernel
theorem dX3_faultOfEngine_2 : decode cX3_faultOfEngine 2 = .ok (.bipush 8, 2) := by decide +kernel
theorem dX3_faultOfEngine_4 : decode cX3_faultOfEngine 4 = .ok (.invokestatic 77, 3) := by decide +kernel
theorem dX3_faultOfEngine_7 : decode cX3_faultOfEngine 7 = .ok (.ifCond .ne 5, 3) := by decide +kernel
theorem dX3_faultOfEngine_10 : decode cX3_faultOfEngine 10 = .ok (.iconst 2, 1) := by decide +kernel
theorem dX3_faultOfEngine_11 : decode cX3_faultOfEngine 11 = .ok (.ireturn, 1) := by decide +kernel
theorem dX3_faultOfEngine_12 : decode cX3_faultOfEngine 12 = .ok (.aload_n 0, 1) := by decide +kernel
theorem dX3_faultOfEngine_13 : decode cX3_faultOfEngine 13 = .ok (.getfield 43, 3) := by decide +kernel
theorem dX3_faultOfEngine_16 : decode cX3_faultOfEngine 16 = .ok (.iconst 4, 1) := by decide +kernel
theorem dX3_faultOfEngine_17 : decode cX3_faultOfEngine 17 = .ok (.if_icmp .ge 7, 3) := by decide +kernel
theorem dX3_faultOfEngine_20 : decode cX3_faultOfEngine 20 = .ok (.iconst 0, 1) := by decide +kernel
theorem dX3_faultOfEngine_21 : decode cX3_faultOfEngine 21 = .ok (.goto 4, 3) := by decide +kernel
theorem dX3_faultOfEngine_24 : decode cX3_faultOfEngine 24 = .ok (.iconst 3, 1) := by decide +kernel
theorem dX3_faultOfEngine_25 : decode cX3_faultOfEngine 25 = .ok (.ireturn, 1) := by decide +kernel
theorem dX3_faultOfExchange_0 : decode cX3_faultOfExchange 0 = .ok (.aload_n 0, 1) := by decide +kernel
theorem dX3_faultOfExchange_1 : decode cX3_faultOfExchange 1 = .ok (.iload_n 1, 1) := by decide +kernel
theorem dX3_faultOfExchange_2 : decode cX3_faultOfExchange 2 = .ok (.iload_n 2, 1) := by decide +kernel
theorem dX3_faultOfExchange_3 : decode cX3_faultOfExchange 3 = .ok (.invokevirtual 88, 3) := by decide +kernel
theorem dX3_faultOfExchange_6 : decode cX3_faultOfExchange 6 = .ok (.ifCond .eq 16, 3) := by decide +kernel
theorem dX3_faultOfExchange_9 : decode cX3_faultOfExchange 9 = .ok (.aload_n 0, 1) := by decide +kernel
theorem dX3_faultOfExchange_10 : decode cX3_faultOfExchange 10 = .ok (.iload_n 1, 1) := by decide +kernel
theorem dX3_faultOfExchange_11 : decode cX3_faultOfExchange 11 = .ok (.iload_n 3, 1) := by decide +kernel
theorem dX3_faultOfExchange_12 : decode cX3_faultOfExchange 12 = .ok (.invokevirtual 88, 3) := by decide +kernel
theorem dX3_faultOfExchange_15 : decode cX3_faultOfExchange 15 = .ok (.ifCond .eq 7, 3) := by decide +kernel
theorem dX3_faultOfExchange_18 : decode cX3_faultOfExchange 18 = .ok (.iconst 0, 1) := by decide +kernel
theorem dX3_faultOfExchange_19 : decode cX3_faultOfExchange 19 = .ok (.goto 4, 3) := by decide +kernel
theorem dX3_faultOfExchange_22 : decode cX3_faultOfExchange 22 = .ok (.iconst 1, 1) := by decide +kernel
theorem dX3_faultOfExchange_23 : decode cX3_faultOfExchange 23 = .ok (.ireturn, 1) := by decide +kernel
theorem dX3_faultOfRate_0 : decode cX3_faultOfRate 0 = .ok (.aload_n 0, 1) := by decide +kernel
theorem dX3_faultOfRate_1 : decode cX3_faultOfRate 1 = .ok (.iload_n 1, 1) := by decide +kernel
theorem dX3_faultOfRate_2 : decode cX3_faultOfRate 2 = .ok (.invokevirtual 81, 3) := by decide +kernel
theorem dX3_faultOfRate_5 : decode cX3_faultOfRate 5 = .ok (.ifCond .ne 5, 3) := by decide +kernel
theorem dX3_faultOfRate_8 : decode cX3_faultOfRate 8 = .ok (.iconst 1, 1) := by decide +kernel
theorem dX3_faultOfRate_9 : decode cX3_faultOfRate 9 = .ok (.ireturn, 1) := by decide +kernel
theorem dX3_faultOfRate_10 : decode cX3_faultOfRate 10 = .ok (.iload_n 2, 1) := by decide +kernel
theorem dX3_faultOfRate_11 : decode cX3_faultOfRate 11 = .ok (.iconst 0, 1) := by decide +kernel
theorem dX3_faultOfRate_12 : decode cX3_faultOfRate 12 = .ok (.bipush 9, 2) := by decide +kernel
theorem dX3_faultOfRate_14 : decode cX3_faultOfRate 14 = .ok (.invokestatic 77, 3) := by decide +kernel
theorem dX3_faultOfRate_17 : decode cX3_faultOfRate 17 = .ok (.ifCond .eq 7, 3) := by decide +kernel
theorem dX3_faultOfRate_20 : decode cX3_faultOfRate 20 = .ok (.iconst 0, 1) := by decide +kernel
theorem dX3_faultOfRate_21 : decode cX3_faultOfRate 21 = .ok (.goto 4, 3) := by decide +kernel
theorem dX3_faultOfRate_24 : decode cX3_faultOfRate 24 = .ok (.iconst 2, 1) := by decide +kernel
theorem dX3_faultOfRate_25 : decode cX3_faultOfRate 25 = .ok (.ireturn, 1) := by decide +kernel
theorem dX3_faultOfRun_0 : decode cX3_faultOfRun 0 = .ok (.aload_n 0, 1) := by decide +kernel
theorem dX3_faultOfRun_1 : decode cX3_faultOfRun 1 = .ok (.iload_n 1, 1) := by decide +kernel
theorem dX3_faultOfRun_2 : decode cX3_faultOfRun 2 = .ok (.invokevirtual 81, 3) := by decide +kernel
theorem dX3_faultOfRun_5 : decode cX3_faultOfRun 5 = .ok (.ifCond .ne 5, 3) := by decide +kernel
theorem dX3_faultOfRun_8 : decode cX3_faultOfRun 8 = .ok (.iconst 1, 1) := by decide +kernel
theorem dX3_faultOfRun_9 : decode cX3_faultOfRun 9 = .ok (.ireturn, 1) := by decide +kernel
theorem dX3_faultOfRun_10 : decode cX3_faultOfRun 10 = .ok (.iload_n 2, 1) := by decide +kernel
theorem dX3_faultOfRun_11 : decode cX3_faultOfRun 11 = .ok (.iconst 1, 1) := by decide +kernel
theorem dX3_faultOfRun_12 : decode cX3_faultOfRun 12 = .ok (.bipush 99, 2) := by decide +kernel
theorem dX3_faultOfRun_14 : decode cX3_faultOfRun 14 = .ok (.invokestatic 77, 3) := by decide +kernel
theorem dX3_faultOfRun_17 : decode cX3_faultOfRun 17 = .ok (.ifCond .eq 7, 3) := by decide +kernel
theorem dX3_faultOfRun_20 : decode cX3_faultOfRun 20 = .ok (.iconst 0, 1) := by decide +kernel
theorem dX3_faultOfRun_21 : decode cX3_faultOfRun 21 = .ok (.goto 4, 3) := by decide +kernel
theorem dX3_faultOfRun_24 : decode cX3_faultOfRun 24 = .ok (.iconst 2, 1) := by decide +kernel
theorem dX3_faultOfRun_25 : decode cX3_faultOfRun 25 = .ok (.ireturn, 1) := by decide +kernel
theorem dX3_faultOfOil_0 : decode cX3_faultOfOil 0 = .ok (.aload_n 0, 1) := by decide +kernel
theorem dX3_faultOfOil_1 : decode cX3_faultOfOil 1 = .ok (.iload_n 1, 1) := by decide +kernel
theorem dX3_faultOfOil_2 : decode cX3_faultOfOil 2 = .ok (.iload_n 2, 1) := by decide +kernel
theorem dX3_faultOfOil_3 : decode cX3_faultOfOil 3 = .ok (.invokevirtual 88, 3) := by decide +kernel
theorem dX3_faultOfOil_6 : decode cX3_faultOfOil 6 = .ok (.ifCond .ne 5, 3) := by decide +kernel
theorem dX3_faultOfOil_9 : decode cX3_faultOfOil 9 = .ok (.iconst 1, 1) := by decide +kernel
theorem dX3_faultOfOil_10 : decode cX3_faultOfOil 10 = .ok (.ireturn, 1) := by decide +kernel
theorem dX3_faultOfOil_11 : decode cX3_faultOfOil 11 = .ok (.iload_n 3, 1) := by decide +kernel
theorem dX3_faultOfOil_12 : decode cX3_faultOfOil 12 = .ok (.iconst 1, 1) := by decide +kernel
theorem dX3_faultOfOil_13 : decode cX3_faultOfOil 13 = .ok (.bipush 99, 2) := by decide +kernel
theorem dX3_faultOfOil_15 : decode cX3_faultOfOil 15 = .ok (.invokestatic 77, 3) := by decide +kernel
theorem dX3_faultOfOil_18 : decode cX3_faultOfOil 18 = .ok (.ifCond .ne 5, 3) := by decide +kernel
theorem dX3_faultOfOil_21 : decode cX3_faultOfOil 21 = .ok (.iconst 2, 1) := by decide +kernel
theorem dX3_faultOfOil_22 : decode cX3_faultOfOil 22 = .ok (.ireturn, 1) := by decide +kernel
theorem dX3_faultOfOil_23 : decode cX3_faultOfOil 23 = .ok (.iload_n 3, 1) := by decide +kernel
theorem dX3_faultOfOil_24 : decode cX3_faultOfOil 24 = .ok (.aload_n 0, 1) := by decide +kernel
theorem dX3_faultOfOil_25 : decode cX3_faultOfOil 25 = .ok (.getfield 35, 3) := by decide +kernel
theorem dX3_faultOfOil_28 : decode cX3_faultOfOil 28 = .ok (.if_icmp .gt 7, 3) := by decide +kernel
theorem dX3_faultOfOil_31 : decode cX3_faultOfOil 31 = .ok (.iconst 0, 1) := by decide +kernel
theorem dX3_faultOfOil_32 : decode cX3_faultOfOil 32 = .ok (.goto 4, 3) := by decide +kernel
theorem dX3_faultOfOil_35 : decode cX3_faultOfOil 35 = .ok (.iconst 3, 1) := by decide +kernel
theorem dX3_faultOfOil_36 : decode cX3_faultOfOil 36 = .ok (.ireturn, 1) := by decide +kernel
theorem dX3_faultOfFill_0 : decode cX3_faultOfFill 0 = .ok (.iload_n 1, 1) := by decide +kernel
theorem dX3_faultOfFill_1 : decode cX3_faultOfFill 1 = .ok (.iconst 1, 1) := by decide +kernel
theorem dX3_faultOfFill_2 : decode cX3_faultOfFill 2 = .ok (.bipush 99, 2) := by decide +kernel
theorem dX3_faultOfFill_4 : decode cX3_faultOfFill 4 = .ok (.invokestatic 77, 3) := by decide +kernel
theorem dX3_faultOfFill_7 : decode cX3_faultOfFill 7 = .ok (.ifCond .ne 5, 3) := by decide +kernel
theorem dX3_faultOfFill_10 : decode cX3_faultOfFill 10 = .ok (.iconst 2, 1) := by decide +kernel
theorem dX3_faultOfFill_11 : decode cX3_faultOfFill 11 = .ok (.ireturn, 1) := by decide +kernel
theorem dX3_faultOfFill_12 : decode cX3_faultOfFill 12 = .ok (.iload_n 1, 1) := by decide +kernel
theorem dX3_faultOfFill_13 : decode cX3_faultOfFill 13 = .ok (.aload_n 0, 1) := by decide +kernel
theorem dX3_faultOfFill_14 : decode cX3_faultOfFill 14 = .ok (.getfield 35, 3) := by decide +kernel
theorem dX3_faultOfFill_17 : decode cX3_faultOfFill 17 = .ok (.if_icmp .gt 14, 3) := by decide +kernel
theorem dX3_faultOfFill_20 : decode cX3_faultOfFill 20 = .ok (.aload_n 0, 1) := by decide +kernel
theorem dX3_faultOfFill_21 : decode cX3_faultOfFill 21 = .ok (.getfield 43, 3) := by decide +kernel
theorem dX3_faultOfFill_24 : decode cX3_faultOfFill 24 = .ok (.ifCond .le 7, 3) := by decide +kernel
theorem dX3_faultOfFill_27 : decode cX3_faultOfFill 27 = .ok (.iconst 0, 1) := by decide +kernel
theorem dX3_faultOfFill_28 : decode cX3_faultOfFill 28 = .ok (.goto 4, 3) := by decide +kernel
theorem dX3_faultOfFill_31 : decode cX3_faultOfFill 31 = .ok (.iconst 3, 1) := by decide +kernel
theorem dX3_faultOfFill_32 : decode cX3_faultOfFill 32 = .ok (.ireturn, 1) := by decide +kernel
theorem dX3_faultOfPurchase_0 : decode cX3_faultOfPurchase 0 = .ok (.iload_n 1, 1) := by decide +kernel
theorem dX3_faultOfPurchase_1 : decode cX3_faultOfPurchase 1 = .ok (.iconst 1, 1) := by decide +kernel
theorem dX3_faultOfPurchase_2 : decode cX3_faultOfPurchase 2 = .ok (.bipush 99, 2) := by decide +kernel
theorem dX3_faultOfPurchase_4 : decode cX3_faultOfPurchase 4 = .ok (.invokestatic 77, 3) := by decide +kernel
theorem dX3_faultOfPurchase_7 : decode cX3_faultOfPurchase 7 = .ok (.ifCond .ne 5, 3) := by decide +kernel
theorem dX3_faultOfPurchase_10 : decode cX3_faultOfPurchase 10 = .ok (.iconst 2, 1) := by decide +kernel
theorem dX3_faultOfPurchase_11 : decode cX3_faultOfPurchase 11 = .ok (.ireturn, 1) := by decide +kernel
theorem dX3_faultOfPurchase_12 : decode cX3_faultOfPurchase 12 = .ok (.aload_n 0, 1) := by decide +kernel
theorem dX3_faultOfPurchase_13 : decode cX3_faultOfPurchase 13 = .ok (.getfield 35, 3) := by decide +kernel
theorem dX3_faultOfPurchase_16 : decode cX3_faultOfPurchase 16 = .ok (.iload_n 1, 1) := by decide +kernel
theorem dX3_faultOfPurchase_17 : decode cX3_faultOfPurchase 17 = .ok (.iadd, 1) := by decide +kernel
theorem dX3_faultOfPurchase_18 : decode cX3_faultOfPurchase 18 = .ok (.sipush 500, 3) := by decide +kernel
theorem dX3_faultOfPurchase_21 : decode cX3_faultOfPurchase 21 = .ok (.if_icmp .gt 7, 3) := by decide +kernel
theorem dX3_faultOfPurchase_24 : decode cX3_faultOfPurchase 24 = .ok (.iconst 0, 1) := by decide +kernel
theorem dX3_faultOfPurchase_25 : decode cX3_faultOfPurchase 25 = .ok (.goto 4, 3) := by decide +kernel
theorem dX3_faultOfPurchase_28 : decode cX3_faultOfPurchase 28 = .ok (.iconst 3, 1) := by decide +kernel
theorem dX3_faultOfPurchase_29 : decode cX3_faultOfPurchase 29 = .ok (.ireturn, 1) := by decide +kernel
theorem dX3_faultOfMonk_0 : decode cX3_faultOfMonk 0 = .ok (.aload_n 0, 1) := by decide +kernel
theorem dX3_faultOfMonk_1 : decode cX3_faultOfMonk 1 = .ok (.getfield 62, 3) := by decide +kernel
theorem dX3_faultOfMonk_4 : decode cX3_faultOfMonk 4 = .ok (.bipush 6, 2) := by decide +kernel
theorem dX3_faultOfMonk_6 : decode cX3_faultOfMonk 6 = .ok (.if_icmp .ge 7, 3) := by decide +kernel
theorem dX3_faultOfMonk_9 : decode cX3_faultOfMonk 9 = .ok (.iconst 0, 1) := by decide +kernel
theorem dX3_faultOfMonk_10 : decode cX3_faultOfMonk 10 = .ok (.goto 4, 3) := by decide +kernel
theorem dX3_faultOfMonk_13 : decode cX3_faultOfMonk 13 = .ok (.iconst 3, 1) := by decide +kernel
theorem dX3_faultOfMonk_14 : decode cX3_faultOfMonk 14 = .ok (.ireturn, 1) := by decide +kernel
theorem dX3_faultOfAble_0 : decode cX3_faultOfAble 0 = .ok (.iload_n 1, 1) := by decide +kernel
theorem dX3_faultOfAble_1 : decode cX3_faultOfAble 1 = .ok (.iconst 0, 1) := by decide +kernel
theorem dX3_faultOfAble_2 : decode cX3_faultOfAble 2 = .ok (.aload_n 0, 1) := by decide +kernel
theorem dX3_faultOfAble_3 : decode cX3_faultOfAble 3 = .ok (.getfield 62, 3) := by decide +kernel
theorem dX3_faultOfAble_6 : decode cX3_faultOfAble 6 = .ok (.iconst 1, 1) := by decide +kernel
theorem dX3_faultOfAble_7 : decode cX3_faultOfAble 7 = .ok (.isub, 1) := by decide +kernel
theorem dX3_faultOfAble_8 : decode cX3_faultOfAble 8 = .ok (.invokestatic 77, 3) := by decide +kernel
theorem dX3_faultOfAble_11 : decode cX3_faultOfAble 11 = .ok (.ifCond .eq 17, 3) := by decide +kernel
theorem dX3_faultOfAble_14 : decode cX3_faultOfAble 14 = .ok (.iload_n 2, 1) := by decide +kernel
theorem dX3_faultOfAble_15 : decode cX3_faultOfAble 15 = .ok (.iconst 0, 1) := by decide +kernel
theorem dX3_faultOfAble_16 : decode cX3_faultOfAble 16 = .ok (.bipush 7, 2) := by decide +kernel
theorem dX3_faultOfAble_18 : decode cX3_faultOfAble 18 = .ok (.invokestatic 77, 3) := by decide +kernel
theorem dX3_faultOfAble_21 : decode cX3_faultOfAble 21 = .ok (.ifCond .eq 7, 3) := by decide +kernel
theorem dX3_faultOfAble_24 : decode cX3_faultOfAble 24 = .ok (.iconst 1, 1) := by decide +kernel
theorem dX3_faultOfAble_25 : decode cX3_faultOfAble 25 = .ok (.goto 4, 3) := by decide +kernel
theorem dX3_faultOfAble_28 : decode cX3_faultOfAble 28 = .ok (.iconst 0, 1) := by decide +kernel
theorem dX3_faultOfAble_29 : decode cX3_faultOfAble 29 = .ok (.istore_n 3, 1) := by decide +kernel
theorem dX3_faultOfAble_30 : decode cX3_faultOfAble 30 = .ok (.iload_n 3, 1) := by decide +kernel
theorem dX3_faultOfAble_31 : decode cX3_faultOfAble 31 = .ok (.ifCond .eq 7, 3) := by decide +kernel
theorem dX3_faultOfAble_34 : decode cX3_faultOfAble 34 = .ok (.iconst 0, 1) := by decide +kernel
theorem dX3_faultOfAble_35 : decode cX3_faultOfAble 35 = .ok (.goto 4, 3) := by decide +kernel
theorem dX3_faultOfAble_38 : decode cX3_faultOfAble 38 = .ok (.iconst 1, 1) := by decide +kernel
theorem dX3_faultOfAble_39 : decode cX3_faultOfAble 39 = .ok (.ireturn, 1) := by decide +kernel
theorem dX3_faultOfRepair_0 : decode cX3_faultOfRepair 0 = .ok (.aload_n 0, 1) := by decide +kernel
theorem dX3_faultOfRepair_1 : decode cX3_faultOfRepair 1 = .ok (.iload_n 1, 1) := by decide +kernel
theorem dX3_faultOfRepair_2 : decode cX3_faultOfRepair 2 = .ok (.invokevirtual 81, 3) := by decide +kernel
theorem dX3_faultOfRepair_5 : decode cX3_faultOfRepair 5 = .ok (.ifCond .ne 5, 3) := by decide +kernel
theorem dX3_faultOfRepair_8 : decode cX3_faultOfRepair 8 = .ok (.iconst 1, 1) := by decide +kernel
theorem dX3_faultOfRepair_9 : decode cX3_faultOfRepair 9 = .ok (.ireturn, 1) := by decide +kernel
theorem dX3_faultOfRepair_10 : decode cX3_faultOfRepair 10 = .ok (.iload_n 2, 1) := by decide +kernel
theorem dX3_faultOfRepair_11 : decode cX3_faultOfRepair 11 = .ok (.iconst 1, 1) := by decide +kernel
theorem dX3_faultOfRepair_12 : decode cX3_faultOfRepair 12 = .ok (.bipush 9, 2) := by decide +kernel
theorem dX3_faultOfRepair_14 : decode cX3_faultOfRepair 14 = .ok (.invokestatic 77, 3) := by decide +kernel
theorem dX3_faultOfRepair_17 : decode cX3_faultOfRepair 17 = .ok (.ifCond .eq 13, 3) := by decide +kernel
theorem dX3_faultOfRepair_20 : decode cX3_faultOfRepair 20 = .ok (.iload_n 3, 1) := by decide +kernel
theorem dX3_faultOfRepair_21 : decode cX3_faultOfRepair 21 = .ok (.iconst 1, 1) := by decide +kernel
theorem dX3_faultOfRepair_22 : decode cX3_faultOfRepair 22 = .ok (.bipush 9, 2) := by decide +kernel
theorem dX3_faultOfRepair_24 : decode cX3_faultOfRepair 24 = .ok (.invokestatic 77, 3) := by decide +kernel
theorem dX3_faultOfRepair_27 : decode cX3_faultOfRepair 27 = .ok (.ifCond .ne 5, 3) := by decide +kernel
theorem dX3_faultOfRepair_30 : decode cX3_faultOfRepair 30 = .ok (.iconst 2, 1) := by decide +kernel
theorem dX3_faultOfRepair_31 : decode cX3_faultOfRepair 31 = .ok (.ireturn, 1) := by decide +kernel
theorem dX3_faultOfRepair_32 : decode cX3_faultOfRepair 32 = .ok (.aload_n 0, 1) := by decide +kernel
theorem dX3_faultOfRepair_33 : decode cX3_faultOfRepair 33 = .ok (.getfield 24, 3) := by decide +kernel
theorem dX3_faultOfRepair_36 : decode cX3_faultOfRepair 36 = .ok (.getfield 91, 3) := by decide +kernel
theorem dX3_faultOfRepair_39 : decode cX3_faultOfRepair 39 = .ok (.bipush 8, 2) := by decide +kernel
theorem dX3_faultOfRepair_41 : decode cX3_faultOfRepair 41 = .ok (.if_icmp .ge 7, 3) := by decide +kernel
theorem dX3_faultOfRepair_44 : decode cX3_faultOfRepair 44 = .ok (.iconst 0, 1) := by decide +kernel
theorem dX3_faultOfRepair_45 : decode cX3_faultOfRepair 45 = .ok (.goto 4, 3) := by decide +kernel
theorem dX3_faultOfRepair_48 : decode cX3_faultOfRepair 48 = .ok (.iconst 3, 1) := by decide +kernel
theorem dX3_faultOfRepair_49 : decode cX3_faultOfRepair 49 = .ok (.ireturn, 1) := by decide +kernel
theorem dX3_faultOfRepairing_0 : decode cX3_faultOfRepairing 0 = .ok (.aload_n 0, 1) := by decide +kernel
theorem dX3_faultOfRepairing_1 : decode cX3_faultOfRepairing 1 = .ok (.getfield 24, 3) := by decide +kernel
theorem dX3_faultOfRepairing_4 : decode cX3_faultOfRepairing 4 = .ok (.getfield 91, 3) := by decide +kernel
theorem dX3_faultOfRepairing_7 : decode cX3_faultOfRepairing 7 = .ok (.ifCond .le 7, 3) := by decide +kernel
theorem dX3_faultOfRepairing_10 : decode cX3_faultOfRepairing 10 = .ok (.iconst 0, 1) := by decide +kernel
theorem dX3_faultOfRepairing_11 : decode cX3_faultOfRepairing 11 = .ok (.goto 4, 3) := by decide +kernel
theorem dX3_faultOfRepairing_14 : decode cX3_faultOfRepairing 14 = .ok (.iconst 3, 1) := by decide +kernel
theorem dX3_faultOfRepairing_15 : decode cX3_faultOfRepairing 15 = .ok (.ireturn, 1) := by decide +kernel
theorem dX3_faultOfHours_0 : decode cX3_faultOfHours 0 = .ok (.iload_n 1, 1) := by decide +kernel
theorem dX3_faultOfHours_1 : decode cX3_faultOfHours 1 = .ok (.iconst 1, 1) := by decide +kernel
theorem dX3_faultOfHours_2 : decode cX3_faultOfHours 2 = .ok (.bipush 48, 2) := by decide +kernel
theorem dX3_faultOfHours_4 : decode cX3_faultOfHours 4 = .ok (.invokestatic 77, 3) := by decide +kernel
theorem dX3_faultOfHours_7 : decode cX3_faultOfHours 7 = .ok (.ifCond .eq 7, 3) := by decide +kernel
theorem dX3_faultOfHours_10 : decode cX3_faultOfHours 10 = .ok (.iconst 0, 1) := by decide +kernel
theorem dX3_faultOfHours_11 : decode cX3_faultOfHours 11 = .ok (.goto 4, 3) := by decide +kernel
theorem dX3_faultOfHours_14 : decode cX3_faultOfHours 14 = .ok (.iconst 2, 1) := by decide +kernel
theorem dX3_faultOfHours_15 : decode cX3_faultOfHours 15 = .ok (.ireturn, 1) := by decide +kernel
theorem dX3_faultOf_0 : decode cX3_faultOf 0 = .ok (.aload_n 1, 1) := by decide +kernel
theorem dX3_faultOf_1 : decode cX3_faultOf 1 = .ok (.iload_n 2, 1) := by decide +kernel
theorem dX3_faultOf_2 : decode cX3_faultOf 2 = .ok (.iconst 0, 1) := by decide +kernel
theorem dX3_faultOf_3 : decode cX3_faultOf 3 = .ok (.invokevirtual 94, 3) := by decide +kernel
theorem dX3_faultOf_6 : decode cX3_faultOf 6 = .ok (.istore_n 3, 1) := by decide +kernel
theorem dX3_faultOf_7 : decode cX3_faultOf 7 = .ok (.aload_n 1, 1) := by decide +kernel
theorem dX3_faultOf_8 : decode cX3_faultOf 8 = .ok (.iload_n 2, 1) := by decide +kernel
theorem dX3_faultOf_9 : decode cX3_faultOf 9 = .ok (.iconst 1, 1) := by decide +kernel
theorem dX3_faultOf_10 : decode cX3_faultOf 10 = .ok (.invokevirtual 94, 3) := by decide +kernel
theorem dX3_faultOf_13 : decode cX3_faultOf 13 = .ok (.istore 4, 2) := by decide +kernel
theorem dX3_faultOf_15 : decode cX3_faultOf 15 = .ok (.aload_n 1, 1) := by decide +kernel
theorem dX3_faultOf_16 : decode cX3_faultOf 16 = .ok (.iload_n 2, 1) := by decide +kernel
theorem dX3_faultOf_17 : decode cX3_faultOf 17 = .ok (.iconst 2, 1) := by decide +kernel
theorem dX3_faultOf_18 : decode cX3_faultOf 18 = .ok (.invokevirtual 94, 3) := by decide +kernel
theorem dX3_faultOf_21 : decode cX3_faultOf 21 = .ok (.istore 5, 2) := by decide +kernel
theorem dX3_faultOf_23 : decode cX3_faultOf 23 = .ok (.aload_n 1, 1) := by decide +kernel
theorem dX3_faultOf_24 : decode cX3_faultOf 24 = .ok (.getfield 100, 3) := by decide +kernel
theorem dX3_faultOf_27 : decode cX3_faultOf 27 = .ok (.iload_n 2, 1) := by decide +kernel
theorem dX3_faultOf_28 : decode cX3_faultOf 28 = .ok (.iaload, 1) := by decide +kernel
theorem dX3_faultOf_29 : decode cX3_faultOf 29 = .ok (.tableswitch 141 0 10 #[59, 65, 75, 83, 91, 101, 107, 113, 118, 126, 136], 59) := by decide +kernel
theorem dX3_faultOf_88 : decode cX3_faultOf 88 = .ok (.aload_n 0, 1) := by decide +kernel
theorem dX3_faultOf_89 : decode cX3_faultOf 89 = .ok (.iload_n 3, 1) := by decide +kernel
theorem dX3_faultOf_90 : decode cX3_faultOf 90 = .ok (.invokevirtual 103, 3) := by decide +kernel
theorem dX3_faultOf_93 : decode cX3_faultOf 93 = .ok (.ireturn, 1) := by decide +kernel
theorem dX3_faultOf_94 : decode cX3_faultOf 94 = .ok (.aload_n 0, 1) := by decide +kernel
theorem dX3_faultOf_95 : decode cX3_faultOf 95 = .ok (.iload_n 3, 1) := by decide +kernel
theorem dX3_faultOf_96 : decode cX3_faultOf 96 = .ok (.iload 4, 2) := by decide +kernel
theorem dX3_faultOf_98 : decode cX3_faultOf 98 = .ok (.iload 5, 2) := by decide +kernel
theorem dX3_faultOf_100 : decode cX3_faultOf 100 = .ok (.invokevirtual 107, 3) := by decide +kernel
theorem dX3_faultOf_103 : decode cX3_faultOf 103 = .ok (.ireturn, 1) := by decide +kernel
theorem dX3_faultOf_104 : decode cX3_faultOf 104 = .ok (.aload_n 0, 1) := by decide +kernel
theorem dX3_faultOf_105 : decode cX3_faultOf 105 = .ok (.iload_n 3, 1) := by decide +kernel
theorem dX3_faultOf_106 : decode cX3_faultOf 106 = .ok (.iload 4, 2) := by decide +kernel
theorem dX3_faultOf_108 : decode cX3_faultOf 108 = .ok (.invokevirtual 111, 3) := by decide +kernel
theorem dX3_faultOf_111 : decode cX3_faultOf 111 = .ok (.ireturn, 1) := by decide +kernel
theorem dX3_faultOf_112 : decode cX3_faultOf 112 = .ok (.aload_n 0, 1) := by decide +kernel
theorem dX3_faultOf_113 : decode cX3_faultOf 113 = .ok (.iload_n 3, 1) := by decide +kernel
theorem dX3_faultOf_114 : decode cX3_faultOf 114 = .ok (.iload 4, 2) := by decide +kernel
theorem dX3_faultOf_116 : decode cX3_faultOf 116 = .ok (.invokevirtual 114, 3) := by decide +kernel
theorem dX3_faultOf_119 : decode cX3_faultOf 119 = .ok (.ireturn, 1) := by decide +kernel
theorem dX3_faultOf_120 : decode cX3_faultOf 120 = .ok (.aload_n 0, 1) := by decide +kernel
theorem dX3_faultOf_121 : decode cX3_faultOf 121 = .ok (.iload_n 3, 1) := by decide +kernel
theorem dX3_faultOf_122 : decode cX3_faultOf 122 = .ok (.iload 4, 2) := by decide +kernel
theorem dX3_faultOf_124 : decode cX3_faultOf 124 = .ok (.iload 5, 2) := by decide +kernel
theorem dX3_faultOf_126 : decode cX3_faultOf 126 = .ok (.invokevirtual 117, 3) := by decide +kernel
theorem dX3_faultOf_129 : decode cX3_faultOf 129 = .ok (.ireturn, 1) := by decide +kernel
theorem dX3_faultOf_130 : decode cX3_faultOf 130 = .ok (.aload_n 0, 1) := by decide +kernel
theorem dX3_faultOf_131 : decode cX3_faultOf 131 = .ok (.iload_n 3, 1) := by decide +kernel
theorem dX3_faultOf_132 : decode cX3_faultOf 132 = .ok (.invokevirtual 120, 3) := by decide +kernel
theorem dX3_faultOf_135 : decode cX3_faultOf 135 = .ok (.ireturn, 1) := by decide +kernel
theorem dX3_faultOf_136 : decode cX3_faultOf 136 = .ok (.aload_n 0, 1) := by decide +kernel
theorem dX3_faultOf_137 : decode cX3_faultOf 137 = .ok (.iload_n 3, 1) := by decide +kernel
theorem dX3_faultOf_138 : decode cX3_faultOf 138 = .ok (.invokevirtual 123, 3) := by decide +kernel
theorem dX3_faultOf_141 : decode cX3_faultOf 141 = .ok (.ireturn, 1) := by decide +kernel
theorem dX3_faultOf_142 : decode cX3_faultOf 142 = .ok (.aload_n 0, 1) := by decide +kernel
theorem dX3_faultOf_143 : decode cX3_faultOf 143 = .ok (.invokevirtual 126, 3) := by decide +kernel
theorem dX3_faultOf_146 : decode cX3_faultOf 146 = .ok (.ireturn, 1) := by decide +kernel
theorem dX3_faultOf_147 : decode cX3_faultOf 147 = .ok (.aload_n 0, 1) := by decide +kernel
theorem dX3_faultOf_148 : decode cX3_faultOf 148 = .ok (.iload_n 3, 1) := by decide +kernel
theorem dX3_faultOf_149 : decode cX3_faultOf 149 = .ok (.iload 4, 2) := by decide +kernel
theorem dX3_faultOf_151 : decode cX3_faultOf 151 = .ok (.invokevirtual 130, 3) := by decide +kernel
theorem dX3_faultOf_154 : decode cX3_faultOf 154 = .ok (.ireturn, 1) := by decide +kernel
theorem dX3_faultOf_155 : decode cX3_faultOf 155 = .ok (.aload_n 0, 1) := by decide +kernel
theorem dX3_faultOf_156 : decode cX3_faultOf 156 = .ok (.iload_n 3, 1) := by decide +kernel
theorem dX3_faultOf_157 : decode cX3_faultOf 157 = .ok (.iload 4, 2) := by decide +kernel
theorem dX3_faultOf_159 : decode cX3_faultOf 159 = .ok (.iload 5, 2) := by decide +kernel
theorem dX3_faultOf_161 : decode cX3_faultOf 161 = .ok (.invokevirtual 133, 3) := by decide +kernel
theorem dX3_faultOf_164 : decode cX3_faultOf 164 = .ok (.ireturn, 1) := by decide +kernel
theorem dX3_faultOf_165 : decode cX3_faultOf 165 = .ok (.aload_n 0, 1) := by decide +kernel
theorem dX3_faultOf_166 : decode cX3_faultOf 166 = .ok (.invokevirtual 136, 3) := by decide +kernel
theorem dX3_faultOf_169 : decode cX3_faultOf 169 = .ok (.ireturn, 1) := by decide +kernel
theorem dX3_faultOf_170 : decode cX3_faultOf 170 = .ok (.aload_n 0, 1) := by decide +kernel
theorem dX3_faultOf_171 : decode cX3_faultOf 171 = .ok (.iload_n 3, 1) := by decide +kernel
theorem dX3_faultOf_172 : decode cX3_faultOf 172 = .ok (.invokevirtual 139, 3) := by decide +kernel
theorem dX3_faultOf_175 : decode cX3_faultOf 175 = .ok (.ireturn, 1) := by decide +kernel
theorem dX3_carryOut_0 : decode cX3_carryOut 0 = .ok (.aload_n 1, 1) := by decide +kernel
theorem dX3_carryOut_1 : decode cX3_carryOut 1 = .ok (.iload_n 2, 1) := by decide +kernel
theorem dX3_carryOut_2 : decode cX3_carryOut 2 = .ok (.iconst 0, 1) := by decide +kernel
theorem dX3_carryOut_3 : decode cX3_carryOut 3 = .ok (.invokevirtual 94, 3) := by decide +kernel
theorem dX3_carryOut_6 : decode cX3_carryOut 6 = .ok (.istore_n 3, 1) := by decide +kernel
theorem dX3_carryOut_7 : decode cX3_carryOut 7 = .ok (.aload_n 1, 1) := by decide +kernel
theorem dX3_carryOut_8 : decode cX3_carryOut 8 = .ok (.iload_n 2, 1) := by decide +kernel
theorem dX3_carryOut_9 : decode cX3_carryOut 9 = .ok (.iconst 1, 1) := by decide +kernel
theorem dX3_carryOut_10 : decode cX3_carryOut 10 = .ok (.invokevirtual 94, 3) := by decide +kernel
theorem dX3_carryOut_13 : decode cX3_carryOut 13 = .ok (.istore 4, 2) := by decide +kernel
theorem dX3_carryOut_15 : decode cX3_carryOut 15 = .ok (.aload_n 1, 1) := by decide +kernel
theorem dX3_carryOut_16 : decode cX3_carryOut 16 = .ok (.iload_n 2, 1) := by decide +kernel
theorem dX3_carryOut_17 : decode cX3_carryOut 17 = .ok (.iconst 2, 1) := by decide +kernel
theorem dX3_carryOut_18 : decode cX3_carryOut 18 = .ok (.invokevirtual 94, 3) := by decide +kernel
theorem dX3_carryOut_21 : decode cX3_carryOut 21 = .ok (.istore 5, 2) := by decide +kernel
theorem dX3_carryOut_23 : decode cX3_carryOut 23 = .ok (.aload_n 1, 1) := by decide +kernel
theorem dX3_carryOut_24 : decode cX3_carryOut 24 = .ok (.getfield 100, 3) := by decide +kernel
theorem dX3_carryOut_27 : decode cX3_carryOut 27 = .ok (.iload_n 2, 1) := by decide +kernel
theorem dX3_carryOut_28 : decode cX3_carryOut 28 = .ok (.iaload, 1) := by decide +kernel
theorem dX3_carryOut_29 : decode cX3_carryOut 29 = .ok (.tableswitch 186 0 10 #[59, 68, 85, 100, 111, 124, 133, 142, 150, 162, 178], 59) := by decide +kernel
theorem dX3_carryOut_88 : decode cX3_carryOut 88 = .ok (.aload_n 0, 1) := by decide +kernel
theorem dX3_carryOut_89 : decode cX3_carryOut 89 = .ok (.iload_n 3, 1) := by decide +kernel
theorem dX3_carryOut_90 : decode cX3_carryOut 90 = .ok (.invokevirtual 142, 3) := by decide +kernel
theorem dX3_carryOut_93 : decode cX3_carryOut 93 = .ok (.pop, 1) := by decide +kernel
theorem dX3_carryOut_94 : decode cX3_carryOut 94 = .ok (.goto 127, 3) := by decide +kernel
theorem dX3_carryOut_97 : decode cX3_carryOut 97 = .ok (.aload_n 0, 1) := by decide +kernel
theorem dX3_carryOut_98 : decode cX3_carryOut 98 = .ok (.getfield 11, 3) := by decide +kernel
theorem dX3_carryOut_101 : decode cX3_carryOut 101 = .ok (.iload_n 3, 1) := by decide +kernel
theorem dX3_carryOut_102 : decode cX3_carryOut 102 = .ok (.aaload, 1) := by decide +kernel
theorem dX3_carryOut_103 : decode cX3_carryOut 103 = .ok (.iload 4, 2) := by decide +kernel
theorem dX3_carryOut_105 : decode cX3_carryOut 105 = .ok (.iload 5, 2) := by decide +kernel
theorem dX3_carryOut_107 : decode cX3_carryOut 107 = .ok (.invokevirtual 145, 3) := by decide +kernel
theorem dX3_carryOut_110 : decode cX3_carryOut 110 = .ok (.pop, 1) := by decide +kernel
theorem dX3_carryOut_111 : decode cX3_carryOut 111 = .ok (.goto 110, 3) := by decide +kernel
theorem dX3_carryOut_114 : decode cX3_carryOut 114 = .ok (.aload_n 0, 1) := by decide +kernel
theorem dX3_carryOut_115 : decode cX3_carryOut 115 = .ok (.getfield 11, 3) := by decide +kernel
theorem dX3_carryOut_118 : decode cX3_carryOut 118 = .ok (.iload_n 3, 1) := by decide +kernel
theorem dX3_carryOut_119 : decode cX3_carryOut 119 = .ok (.aaload, 1) := by decide +kernel
theorem dX3_carryOut_120 : decode cX3_carryOut 120 = .ok (.iload 4, 2) := by decide +kernel
theorem dX3_carryOut_122 : decode cX3_carryOut 122 = .ok (.invokevirtual 148, 3) := by decide +kernel
theorem dX3_carryOut_125 : decode cX3_carryOut 125 = .ok (.pop, 1) := by decide +kernel
theorem dX3_carryOut_126 : decode cX3_carryOut 126 = .ok (.goto 95, 3) := by decide +kernel
theorem dX3_carryOut_129 : decode cX3_carryOut 129 = .ok (.aload_n 0, 1) := by decide +kernel
theorem dX3_carryOut_130 : decode cX3_carryOut 130 = .ok (.iload_n 3, 1) := by decide +kernel
theorem dX3_carryOut_131 : decode cX3_carryOut 131 = .ok (.iload 4, 2) := by decide +kernel
theorem dX3_carryOut_133 : decode cX3_carryOut 133 = .ok (.invokevirtual 151, 3) := by decide +kernel
theorem dX3_carryOut_136 : decode cX3_carryOut 136 = .ok (.pop, 1) := by decide +kernel
theorem dX3_carryOut_137 : decode cX3_carryOut 137 = .ok (.goto 84, 3) := by decide +kernel
theorem dX3_carryOut_140 : decode cX3_carryOut 140 = .ok (.aload_n 0, 1) := by decide +kernel
theorem dX3_carryOut_141 : decode cX3_carryOut 141 = .ok (.iload_n 3, 1) := by decide +kernel
theorem dX3_carryOut_142 : decode cX3_carryOut 142 = .ok (.iload 4, 2) := by decide +kernel
theorem dX3_carryOut_144 : decode cX3_carryOut 144 = .ok (.iload 5, 2) := by decide +kernel
theorem dX3_carryOut_146 : decode cX3_carryOut 146 = .ok (.invokevirtual 154, 3) := by decide +kernel
theorem dX3_carryOut_149 : decode cX3_carryOut 149 = .ok (.pop, 1) := by decide +kernel
theorem dX3_carryOut_150 : decode cX3_carryOut 150 = .ok (.goto 71, 3) := by decide +kernel
theorem dX3_carryOut_153 : decode cX3_carryOut 153 = .ok (.aload_n 0, 1) := by decide +kernel
theorem dX3_carryOut_154 : decode cX3_carryOut 154 = .ok (.iload_n 3, 1) := by decide +kernel
theorem dX3_carryOut_155 : decode cX3_carryOut 155 = .ok (.invokevirtual 157, 3) := by decide +kernel
theorem dX3_carryOut_158 : decode cX3_carryOut 158 = .ok (.pop, 1) := by decide +kernel
theorem dX3_carryOut_159 : decode cX3_carryOut 159 = .ok (.goto 62, 3) := by decide +kernel
theorem dX3_carryOut_162 : decode cX3_carryOut 162 = .ok (.aload_n 0, 1) := by decide +kernel
theorem dX3_carryOut_163 : decode cX3_carryOut 163 = .ok (.iload_n 3, 1) := by decide +kernel
theorem dX3_carryOut_164 : decode cX3_carryOut 164 = .ok (.invokevirtual 160, 3) := by decide +kernel
theorem dX3_carryOut_167 : decode cX3_carryOut 167 = .ok (.pop, 1) := by decide +kernel
theorem dX3_carryOut_168 : decode cX3_carryOut 168 = .ok (.goto 53, 3) := by decide +kernel
theorem dX3_carryOut_171 : decode cX3_carryOut 171 = .ok (.aload_n 0, 1) := by decide +kernel
theorem dX3_carryOut_172 : decode cX3_carryOut 172 = .ok (.invokevirtual 163, 3) := by decide +kernel
theorem dX3_carryOut_175 : decode cX3_carryOut 175 = .ok (.pop, 1) := by decide +kernel
theorem dX3_carryOut_176 : decode cX3_carryOut 176 = .ok (.goto 45, 3) := by decide +kernel
theorem dX3_carryOut_179 : decode cX3_carryOut 179 = .ok (.aload_n 0, 1) := by decide +kernel
theorem dX3_carryOut_180 : decode cX3_carryOut 180 = .ok (.iload_n 3, 1) := by decide +kernel
theorem dX3_carryOut_181 : decode cX3_carryOut 181 = .ok (.iload 4, 2) := by decide +kernel
theorem dX3_carryOut_183 : decode cX3_carryOut 183 = .ok (.iconst 1, 1) := by decide +kernel
theorem dX3_carryOut_184 : decode cX3_carryOut 184 = .ok (.invokevirtual 166, 3) := by decide +kernel
theorem dX3_carryOut_187 : decode cX3_carryOut 187 = .ok (.pop, 1) := by decide +kernel
theorem dX3_carryOut_188 : decode cX3_carryOut 188 = .ok (.goto 33, 3) := by decide +kernel
theorem dX3_carryOut_191 : decode cX3_carryOut 191 = .ok (.aload_n 0, 1) := by decide +kernel
theorem dX3_carryOut_192 : decode cX3_carryOut 192 = .ok (.getfield 24, 3) := by decide +kernel
theorem dX3_carryOut_195 : decode cX3_carryOut 195 = .ok (.iload_n 3, 1) := by decide +kernel
theorem dX3_carryOut_196 : decode cX3_carryOut 196 = .ok (.iload 4, 2) := by decide +kernel
theorem dX3_carryOut_198 : decode cX3_carryOut 198 = .ok (.iload 5, 2) := by decide +kernel
theorem dX3_carryOut_200 : decode cX3_carryOut 200 = .ok (.invokevirtual 170, 3) := by decide +kernel
theorem dX3_carryOut_203 : decode cX3_carryOut 203 = .ok (.pop, 1) := by decide +kernel
theorem dX3_carryOut_204 : decode cX3_carryOut 204 = .ok (.goto 17, 3) := by decide +kernel
theorem dX3_carryOut_207 : decode cX3_carryOut 207 = .ok (.aload_n 0, 1) := by decide +kernel
theorem dX3_carryOut_208 : decode cX3_carryOut 208 = .ok (.invokevirtual 173, 3) := by decide +kernel
theorem dX3_carryOut_211 : decode cX3_carryOut 211 = .ok (.pop, 1) := by decide +kernel
theorem dX3_carryOut_212 : decode cX3_carryOut 212 = .ok (.goto 9, 3) := by decide +kernel
theorem dX3_carryOut_215 : decode cX3_carryOut 215 = .ok (.aload_n 0, 1) := by decide +kernel
theorem dX3_carryOut_216 : decode cX3_carryOut 216 = .ok (.iload_n 3, 1) := by decide +kernel
theorem dX3_carryOut_217 : decode cX3_carryOut 217 = .ok (.invokevirtual 176, 3) := by decide +kernel
theorem dX3_carryOut_220 : decode cX3_carryOut 220 = .ok (.pop, 1) := by decide +kernel
theorem dX3_carryOut_221 : decode cX3_carryOut 221 = .ok (.return_, 1) := by decide +kernel
theorem dX3_buildEngine_0 : decode cX3_buildEngine 0 = .ok (.aload_n 0, 1) := by decide +kernel
theorem dX3_buildEngine_1 : decode cX3_buildEngine 1 = .ok (.getfield 11, 3) := by decide +kernel
theorem dX3_buildEngine_4 : decode cX3_buildEngine 4 = .ok (.aload_n 0, 1) := by decide +kernel
theorem dX3_buildEngine_5 : decode cX3_buildEngine 5 = .ok (.getfield 43, 3) := by decide +kernel
theorem dX3_buildEngine_8 : decode cX3_buildEngine 8 = .ok (.aaload, 1) := by decide +kernel
theorem dX3_buildEngine_9 : decode cX3_buildEngine 9 = .ok (.iload_n 1, 1) := by decide +kernel
theorem dX3_buildEngine_10 : decode cX3_buildEngine 10 = .ok (.invokevirtual 179, 3) := by decide +kernel
theorem dX3_buildEngine_13 : decode cX3_buildEngine 13 = .ok (.aload_n 0, 1) := by decide +kernel
theorem dX3_buildEngine_14 : decode cX3_buildEngine 14 = .ok (.dup, 1) := by decide +kernel
theorem dX3_buildEngine_15 : decode cX3_buildEngine 15 = .ok (.getfield 39, 3) := by decide +kernel
theorem dX3_buildEngine_18 : decode cX3_buildEngine 18 = .ok (.iload_n 1, 1) := by decide +kernel
theorem dX3_buildEngine_19 : decode cX3_buildEngine 19 = .ok (.iconst 5, 1) := by decide +kernel
theorem dX3_buildEngine_20 : decode cX3_buildEngine 20 = .ok (.imul, 1) := by decide +kernel
theorem dX3_buildEngine_21 : decode cX3_buildEngine 21 = .ok (.iadd, 1) := by decide +kernel
theorem dX3_buildEngine_22 : decode cX3_buildEngine 22 = .ok (.putfield 39, 3) := by decide +kernel
theorem dX3_buildEngine_25 : decode cX3_buildEngine 25 = .ok (.aload_n 0, 1) := by decide +kernel
theorem dX3_buildEngine_26 : decode cX3_buildEngine 26 = .ok (.dup, 1) := by decide +kernel
theorem dX3_buildEngine_27 : decode cX3_buildEngine 27 = .ok (.getfield 43, 3) := by decide +kernel
theorem dX3_buildEngine_30 : decode cX3_buildEngine 30 = .ok (.iconst 1, 1) := by decide +kernel
theorem dX3_buildEngine_31 : decode cX3_buildEngine 31 = .ok (.iadd, 1) := by decide +kernel
theorem dX3_buildEngine_32 : decode cX3_buildEngine 32 = .ok (.putfield 43, 3) := by decide +kernel
theorem dX3_buildEngine_35 : decode cX3_buildEngine 35 = .ok (.aload_n 0, 1) := by decide +kernel
theorem dX3_buildEngine_36 : decode cX3_buildEngine 36 = .ok (.getfield 43, 3) := by decide +kernel
theorem dX3_buildEngine_39 : decode cX3_buildEngine 39 = .ok (.iconst 1, 1) := by decide +kernel
theorem dX3_buildEngine_40 : decode cX3_buildEngine 40 = .ok (.isub, 1) := by decide +kernel
theorem dX3_buildEngine_41 : decode cX3_buildEngine 41 = .ok (.ireturn, 1) := by decide +kernel
theorem dX3_runEngine_0 : decode cX3_runEngine 0 = .ok (.aload_n 0, 1) := by decide +kernel
theorem dX3_runEngine_1 : decode cX3_runEngine 1 = .ok (.getfield 11, 3) := by decide +kernel
theorem dX3_runEngine_4 : decode cX3_runEngine 4 = .ok (.iload_n 1, 1) := by decide +kernel
theorem dX3_runEngine_5 : decode cX3_runEngine 5 = .ok (.aaload, 1) := by decide +kernel
theorem dX3_runEngine_6 : decode cX3_runEngine 6 = .ok (.iload_n 2, 1) := by decide +kernel
theorem dX3_runEngine_7 : decode cX3_runEngine 7 = .ok (.invokevirtual 183, 3) := by decide +kernel
theorem dX3_runEngine_10 : decode cX3_runEngine 10 = .ok (.istore_n 3, 1) := by decide +kernel
theorem dX3_runEngine_11 : decode cX3_runEngine 11 = .ok (.aload_n 0, 1) := by decide +kernel
theorem dX3_runEngine_12 : decode cX3_runEngine 12 = .ok (.dup, 1) := by decide +kernel
theorem dX3_runEngine_13 : decode cX3_runEngine 13 = .ok (.getfield 68, 3) := by decide +kernel
theorem dX3_runEngine_16 : decode cX3_runEngine 16 = .ok (.iload_n 2, 1) := by decide +kernel
theorem dX3_runEngine_17 : decode cX3_runEngine 17 = .ok (.iload_n 3, 1) := by decide +kernel
theorem dX3_runEngine_18 : decode cX3_runEngine 18 = .ok (.isub, 1) := by decide +kernel
theorem dX3_runEngine_19 : decode cX3_runEngine 19 = .ok (.iadd, 1) := by decide +kernel
theorem dX3_runEngine_20 : decode cX3_runEngine 20 = .ok (.putfield 68, 3) := by decide +kernel
theorem dX3_runEngine_23 : decode cX3_runEngine 23 = .ok (.aload_n 0, 1) := by decide +kernel
theorem dX3_runEngine_24 : decode cX3_runEngine 24 = .ok (.getfield 31, 3) := by decide +kernel
theorem dX3_runEngine_27 : decode cX3_runEngine 27 = .ok (.aload_n 0, 1) := by decide +kernel
theorem dX3_runEngine_28 : decode cX3_runEngine 28 = .ok (.getfield 71, 3) := by decide +kernel
theorem dX3_runEngine_31 : decode cX3_runEngine 31 = .ok (.iload_n 3, 1) := by decide +kernel
theorem dX3_runEngine_32 : decode cX3_runEngine 32 = .ok (.invokevirtual 186, 3) := by decide +kernel
theorem dX3_runEngine_35 : decode cX3_runEngine 35 = .ok (.iload_n 3, 1) := by decide +kernel
theorem dX3_runEngine_36 : decode cX3_runEngine 36 = .ok (.ireturn, 1) := by decide +kernel
theorem dX3_giveOil_0 : decode cX3_giveOil 0 = .ok (.aload_n 0, 1) := by decide +kernel
theorem dX3_giveOil_1 : decode cX3_giveOil 1 = .ok (.dup, 1) := by decide +kernel
theorem dX3_giveOil_2 : decode cX3_giveOil 2 = .ok (.getfield 35, 3) := by decide +kernel
theorem dX3_giveOil_5 : decode cX3_giveOil 5 = .ok (.iload_n 3, 1) := by decide +kernel
theorem dX3_giveOil_6 : decode cX3_giveOil 6 = .ok (.isub, 1) := by decide +kernel
theorem dX3_giveOil_7 : decode cX3_giveOil 7 = .ok (.putfield 35, 3) := by decide +kernel
theorem dX3_giveOil_10 : decode cX3_giveOil 10 = .ok (.aload_n 0, 1) := by decide +kernel
theorem dX3_giveOil_11 : decode cX3_giveOil 11 = .ok (.getfield 11, 3) := by decide +kernel
theorem dX3_giveOil_14 : decode cX3_giveOil 14 = .ok (.iload_n 1, 1) := by decide +kernel
theorem dX3_giveOil_15 : decode cX3_giveOil 15 = .ok (.aaload, 1) := by decide +kernel
theorem dX3_giveOil_16 : decode cX3_giveOil 16 = .ok (.getfield 190, 3) := by decide +kernel
theorem dX3_giveOil_19 : decode cX3_giveOil 19 = .ok (.iload_n 2, 1) := by decide +kernel
theorem dX3_giveOil_20 : decode cX3_giveOil 20 = .ok (.dup2, 1) := by decide +kernel
theorem dX3_giveOil_21 : decode cX3_giveOil 21 = .ok (.iaload, 1) := by decide +kernel
theorem dX3_giveOil_22 : decode cX3_giveOil 22 = .ok (.iload_n 3, 1) := by decide +kernel
theorem dX3_giveOil_23 : decode cX3_giveOil 23 = .ok (.iadd, 1) := by decide +kernel
theorem dX3_giveOil_24 : decode cX3_giveOil 24 = .ok (.iastore, 1) := by decide +kernel
theorem dX3_giveOil_25 : decode cX3_giveOil 25 = .ok (.aload_n 0, 1) := by decide +kernel
theorem dX3_giveOil_26 : decode cX3_giveOil 26 = .ok (.getfield 11, 3) := by decide +kernel
theorem dX3_giveOil_29 : decode cX3_giveOil 29 = .ok (.iload_n 1, 1) := by decide +kernel
theorem dX3_giveOil_30 : decode cX3_giveOil 30 = .ok (.aaload, 1) := by decide +kernel
theorem dX3_giveOil_31 : decode cX3_giveOil 31 = .ok (.getfield 190, 3) := by decide +kernel
theorem dX3_giveOil_34 : decode cX3_giveOil 34 = .ok (.iload_n 2, 1) := by decide +kernel
theorem dX3_giveOil_35 : decode cX3_giveOil 35 = .ok (.iaload, 1) := by decide +kernel
theorem dX3_giveOil_36 : decode cX3_giveOil 36 = .ok (.ireturn, 1) := by decide +kernel
theorem dX3_fillFromStore_0 : decode cX3_fillFromStore 0 = .ok (.aload_n 0, 1) := by decide +kernel
theorem dX3_fillFromStore_1 : decode cX3_fillFromStore 1 = .ok (.dup, 1) := by decide +kernel
theorem dX3_fillFromStore_2 : decode cX3_fillFromStore 2 = .ok (.getfield 35, 3) := by decide +kernel
theorem dX3_fillFromStore_5 : decode cX3_fillFromStore 5 = .ok (.iload_n 1, 1) := by decide +kernel
theorem dX3_fillFromStore_6 : decode cX3_fillFromStore 6 = .ok (.isub, 1) := by decide +kernel
theorem dX3_fillFromStore_7 : decode cX3_fillFromStore 7 = .ok (.putfield 35, 3) := by decide +kernel
theorem dX3_fillFromStore_10 : decode cX3_fillFromStore 10 = .ok (.aload_n 0, 1) := by decide +kernel
theorem dX3_fillFromStore_11 : decode cX3_fillFromStore 11 = .ok (.iload_n 1, 1) := by decide +kernel
theorem dX3_fillFromStore_12 : decode cX3_fillFromStore 12 = .ok (.invokevirtual 193, 3) := by decide +kernel
theorem dX3_fillFromStore_15 : decode cX3_fillFromStore 15 = .ok (.aload_n 0, 1) := by decide +kernel
theorem dX3_fillFromStore_16 : decode cX3_fillFromStore 16 = .ok (.invokevirtual 196, 3) := by decide +kernel
theorem dX3_fillFromStore_19 : decode cX3_fillFromStore 19 = .ok (.ireturn, 1) := by decide +kernel
theorem dX3_giveToDriest_0 : decode cX3_giveToDriest 0 = .ok (.iconst 0, 1) := by decide +kernel
theorem dX3_giveToDriest_1 : decode cX3_giveToDriest 1 = .ok (.istore_n 2, 1) := by decide +kernel
theorem dX3_giveToDriest_2 : decode cX3_giveToDriest 2 = .ok (.iload_n 2, 1) := by decide +kernel
theorem dX3_giveToDriest_3 : decode cX3_giveToDriest 3 = .ok (.iload_n 1, 1) := by decide +kernel
theorem dX3_giveToDriest_4 : decode cX3_giveToDriest 4 = .ok (.if_icmp .ge 35, 3) := by decide +kernel
theorem dX3_giveToDriest_7 : decode cX3_giveToDriest 7 = .ok (.aload_n 0, 1) := by decide +kernel
theorem dX3_giveToDriest_8 : decode cX3_giveToDriest 8 = .ok (.invokevirtual 199, 3) := by decide +kernel
theorem dX3_giveToDriest_11 : decode cX3_giveToDriest 11 = .ok (.istore_n 3, 1) := by decide +kernel
theorem dX3_giveToDriest_12 : decode cX3_giveToDriest 12 = .ok (.aload_n 0, 1) := by decide +kernel
theorem dX3_giveToDriest_13 : decode cX3_giveToDriest 13 = .ok (.getfield 11, 3) := by decide +kernel
theorem dX3_giveToDriest_16 : decode cX3_giveToDriest 16 = .ok (.iload_n 3, 1) := by decide +kernel
theorem dX3_giveToDriest_17 : decode cX3_giveToDriest 17 = .ok (.bipush 8, 2) := by decide +kernel
theorem dX3_giveToDriest_19 : decode cX3_giveToDriest 19 = .ok (.idiv, 1) := by decide +kernel
theorem dX3_giveToDriest_20 : decode cX3_giveToDriest 20 = .ok (.aaload, 1) := by decide +kernel
theorem dX3_giveToDriest_21 : decode cX3_giveToDriest 21 = .ok (.getfield 190, 3) := by decide +kernel
theorem dX3_giveToDriest_24 : decode cX3_giveToDriest 24 = .ok (.iload_n 3, 1) := by decide +kernel
theorem dX3_giveToDriest_25 : decode cX3_giveToDriest 25 = .ok (.bipush 8, 2) := by decide +kernel
theorem dX3_giveToDriest_27 : decode cX3_giveToDriest 27 = .ok (.irem, 1) := by decide +kernel
theorem dX3_giveToDriest_28 : decode cX3_giveToDriest 28 = .ok (.dup2, 1) := by decide +kernel
theorem dX3_giveToDriest_29 : decode cX3_giveToDriest 29 = .ok (.iaload, 1) := by decide +kernel
theorem dX3_giveToDriest_30 : decode cX3_giveToDriest 30 = .ok (.iconst 1, 1) := by decide +kernel
theorem dX3_giveToDriest_31 : decode cX3_giveToDriest 31 = .ok (.iadd, 1) := by decide +kernel
theorem dX3_giveToDriest_32 : decode cX3_giveToDriest 32 = .ok (.iastore, 1) := by decide +kernel
theorem dX3_giveToDriest_33 : decode cX3_giveToDriest 33 = .ok (.iinc 2 1, 3) := by decide +kernel
theorem dX3_giveToDriest_36 : decode cX3_giveToDriest 36 = .ok (.goto (-34), 3) := by decide +kernel
theorem dX3_giveToDriest_39 : decode cX3_giveToDriest 39 = .ok (.return_, 1) := by decide +kernel
theorem dX3_driestSpot_0 : decode cX3_driestSpot 0 = .ok (.iconst 0, 1) := by decide +kernel
theorem dX3_driestSpot_1 : decode cX3_driestSpot 1 = .ok (.istore_n 1, 1) := by decide +kernel
theorem dX3_driestSpot_2 : decode cX3_driestSpot 2 = .ok (.iconst (-1), 1) := by decide +kernel
theorem dX3_driestSpot_3 : decode cX3_driestSpot 3 = .ok (.istore_n 2, 1) := by decide +kernel
theorem dX3_driestSpot_4 : decode cX3_driestSpot 4 = .ok (.iconst 0, 1) := by decide +kernel
theorem dX3_driestSpot_5 : decode cX3_driestSpot 5 = .ok (.istore_n 3, 1) := by decide +kernel
theorem dX3_driestSpot_6 : decode cX3_driestSpot 6 = .ok (.iload_n 3, 1) := by decide +kernel
theorem dX3_driestSpot_7 : decode cX3_driestSpot 7 = .ok (.aload_n 0, 1) := by decide +kernel
theorem dX3_driestSpot_8 : decode cX3_driestSpot 8 = .ok (.getfield 43, 3) := by decide +kernel
theorem dX3_driestSpot_11 : decode cX3_driestSpot 11 = .ok (.if_icmp .ge 71, 3) := by decide +kernel
theorem dX3_driestSpot_14 : decode cX3_driestSpot 14 = .ok (.aload_n 0, 1) := by decide +kernel
theorem dX3_driestSpot_15 : decode cX3_driestSpot 15 = .ok (.getfield 11, 3) := by decide +kernel
theorem dX3_driestSpot_18 : decode cX3_driestSpot 18 = .ok (.iload_n 3, 1) := by decide +kernel
theorem dX3_driestSpot_19 : decode cX3_driestSpot 19 = .ok (.aaload, 1) := by decide +kernel
theorem dX3_driestSpot_20 : decode cX3_driestSpot 20 = .ok (.getfield 190, 3) := by decide +kernel
theorem dX3_driestSpot_23 : decode cX3_driestSpot 23 = .ok (.astore 4, 2) := by decide +kernel
theorem dX3_driestSpot_25 : decode cX3_driestSpot 25 = .ok (.iconst 0, 1) := by decide +kernel
theorem dX3_driestSpot_26 : decode cX3_driestSpot 26 = .ok (.istore 5, 2) := by decide +kernel
theorem dX3_driestSpot_28 : decode cX3_driestSpot 28 = .ok (.iload 5, 2) := by decide +kernel
theorem dX3_driestSpot_30 : decode cX3_driestSpot 30 = .ok (.aload_n 0, 1) := by decide +kernel
theorem dX3_driestSpot_31 : decode cX3_driestSpot 31 = .ok (.getfield 11, 3) := by decide +kernel
theorem dX3_driestSpot_34 : decode cX3_driestSpot 34 = .ok (.iload_n 3, 1) := by decide +kernel
theorem dX3_driestSpot_35 : decode cX3_driestSpot 35 = .ok (.aaload, 1) := by decide +kernel
theorem dX3_driestSpot_36 : decode cX3_driestSpot 36 = .ok (.getfield 202, 3) := by decide +kernel
theorem dX3_driestSpot_39 : decode cX3_driestSpot 39 = .ok (.if_icmp .ge 37, 3) := by decide +kernel
theorem dX3_driestSpot_42 : decode cX3_driestSpot 42 = .ok (.iload_n 2, 1) := by decide +kernel
theorem dX3_driestSpot_43 : decode cX3_driestSpot 43 = .ok (.iconst (-1), 1) := by decide +kernel
theorem dX3_driestSpot_44 : decode cX3_driestSpot 44 = .ok (.if_icmp .eq 12, 3) := by decide +kernel
theorem dX3_driestSpot_47 : decode cX3_driestSpot 47 = .ok (.aload 4, 2) := by decide +kernel
theorem dX3_driestSpot_49 : decode cX3_driestSpot 49 = .ok (.iload 5, 2) := by decide +kernel
theorem dX3_driestSpot_51 : decode cX3_driestSpot 51 = .ok (.iaload, 1) := by decide +kernel
theorem dX3_driestSpot_52 : decode cX3_driestSpot 52 = .ok (.iload_n 2, 1) := by decide +kernel
theorem dX3_driestSpot_53 : decode cX3_driestSpot 53 = .ok (.if_icmp .ge 17, 3) := by decide +kernel
theorem dX3_driestSpot_56 : decode cX3_driestSpot 56 = .ok (.aload 4, 2) := by decide +kernel
theorem dX3_driestSpot_58 : decode cX3_driestSpot 58 = .ok (.iload 5, 2) := by decide +kernel
theorem dX3_driestSpot_60 : decode cX3_driestSpot 60 = .ok (.iaload, 1) := by decide +kernel
theorem dX3_driestSpot_61 : decode cX3_driestSpot 61 = .ok (.istore_n 2, 1) := by decide +kernel
theorem dX3_driestSpot_62 : decode cX3_driestSpot 62 = .ok (.iload_n 3, 1) := by decide +kernel
theorem dX3_driestSpot_63 : decode cX3_driestSpot 63 = .ok (.bipush 8, 2) := by decide +kernel
theorem dX3_driestSpot_65 : decode cX3_driestSpot 65 = .ok (.imul, 1) := by decide +kernel
theorem dX3_driestSpot_66 : decode cX3_driestSpot 66 = .ok (.iload 5, 2) := by decide +kernel
theorem dX3_driestSpot_68 : decode cX3_driestSpot 68 = .ok (.iadd, 1) := by decide +kernel
theorem dX3_driestSpot_69 : decode cX3_driestSpot 69 = .ok (.istore_n 1, 1) := by decide +kernel
theorem dX3_driestSpot_70 : decode cX3_driestSpot 70 = .ok (.iinc 5 1, 3) := by decide +kernel
theorem dX3_driestSpot_73 : decode cX3_driestSpot 73 = .ok (.goto (-45), 3) := by decide +kernel
theorem dX3_driestSpot_76 : decode cX3_driestSpot 76 = .ok (.iinc 3 1, 3) := by decide +kernel
theorem dX3_driestSpot_79 : decode cX3_driestSpot 79 = .ok (.goto (-73), 3) := by decide +kernel
theorem dX3_driestSpot_82 : decode cX3_driestSpot 82 = .ok (.iload_n 1, 1) := by decide +kernel
theorem dX3_driestSpot_83 : decode cX3_driestSpot 83 = .ok (.ireturn, 1) := by decide +kernel
theorem dX3_buyUnits_0 : decode cX3_buyUnits 0 = .ok (.aload_n 0, 1) := by decide +kernel
theorem dX3_buyUnits_1 : decode cX3_buyUnits 1 = .ok (.dup, 1) := by decide +kernel
theorem dX3_buyUnits_2 : decode cX3_buyUnits 2 = .ok (.getfield 35, 3) := by decide +kernel
theorem dX3_buyUnits_5 : decode cX3_buyUnits 5 = .ok (.iload_n 1, 1) := by decide +kernel
theorem dX3_buyUnits_6 : decode cX3_buyUnits 6 = .ok (.iadd, 1) := by decide +kernel
theorem dX3_buyUnits_7 : decode cX3_buyUnits 7 = .ok (.putfield 35, 3) := by decide +kernel
theorem dX3_buyUnits_10 : decode cX3_buyUnits 10 = .ok (.aload_n 0, 1) := by decide +kernel
theorem dX3_buyUnits_11 : decode cX3_buyUnits 11 = .ok (.dup, 1) := by decide +kernel
theorem dX3_buyUnits_12 : decode cX3_buyUnits 12 = .ok (.getfield 65, 3) := by decide +kernel
theorem dX3_buyUnits_15 : decode cX3_buyUnits 15 = .ok (.iload_n 1, 1) := by decide +kernel
theorem dX3_buyUnits_16 : decode cX3_buyUnits 16 = .ok (.iadd, 1) := by decide +kernel
theorem dX3_buyUnits_17 : decode cX3_buyUnits 17 = .ok (.putfield 65, 3) := by decide +kernel
theorem dX3_buyUnits_20 : decode cX3_buyUnits 20 = .ok (.aload_n 0, 1) := by decide +kernel
theorem dX3_buyUnits_21 : decode cX3_buyUnits 21 = .ok (.getfield 35, 3) := by decide +kernel
theorem dX3_buyUnits_24 : decode cX3_buyUnits 24 = .ok (.ireturn, 1) := by decide +kernel
theorem dX3_receiveMonk_0 : decode cX3_receiveMonk 0 = .ok (.aload_n 0, 1) := by decide +kernel
theorem dX3_receiveMonk_1 : decode cX3_receiveMonk 1 = .ok (.getfield 17, 3) := by decide +kernel
theorem dX3_receiveMonk_4 : decode cX3_receiveMonk 4 = .ok (.aload_n 0, 1) := by decide +kernel
theorem dX3_receiveMonk_5 : decode cX3_receiveMonk 5 = .ok (.getfield 62, 3) := by decide +kernel
theorem dX3_receiveMonk_8 : decode cX3_receiveMonk 8 = .ok (.iconst 0, 1) := by decide +kernel
theorem dX3_receiveMonk_9 : decode cX3_receiveMonk 9 = .ok (.iastore, 1) := by decide +kernel
theorem dX3_receiveMonk_10 : decode cX3_receiveMonk 10 = .ok (.aload_n 0, 1) := by decide +kernel
theorem dX3_receiveMonk_11 : decode cX3_receiveMonk 11 = .ok (.dup, 1) := by decide +kernel
theorem dX3_receiveMonk_12 : decode cX3_receiveMonk 12 = .ok (.getfield 62, 3) := by decide +kernel
theorem dX3_receiveMonk_15 : decode cX3_receiveMonk 15 = .ok (.iconst 1, 1) := by decide +kernel
theorem dX3_receiveMonk_16 : decode cX3_receiveMonk 16 = .ok (.iadd, 1) := by decide +kernel
theorem dX3_receiveMonk_17 : decode cX3_receiveMonk 17 = .ok (.putfield 62, 3) := by decide +kernel
theorem dX3_receiveMonk_20 : decode cX3_receiveMonk 20 = .ok (.aload_n 0, 1) := by decide +kernel
theorem dX3_receiveMonk_21 : decode cX3_receiveMonk 21 = .ok (.getfield 62, 3) := by decide +kernel
theorem dX3_receiveMonk_24 : decode cX3_receiveMonk 24 = .ok (.iconst 1, 1) := by decide +kernel
theorem dX3_receiveMonk_25 : decode cX3_receiveMonk 25 = .ok (.isub, 1) := by decide +kernel
theorem dX3_receiveMonk_26 : decode cX3_receiveMonk 26 = .ok (.ireturn, 1) := by decide +kernel
theorem dX3_changeAble_0 : decode cX3_changeAble 0 = .ok (.iconst 1, 1) := by decide +kernel
theorem dX3_changeAble_1 : decode cX3_changeAble 1 = .ok (.iload_n 2, 1) := by decide +kernel
theorem dX3_changeAble_2 : decode cX3_changeAble 2 = .ok (.ishl, 1) := by decide +kernel
theorem dX3_changeAble_3 : decode cX3_changeAble 3 = .ok (.istore 4, 2) := by decide +kernel
theorem dX3_changeAble_5 : decode cX3_changeAble 5 = .ok (.aload_n 0, 1) := by decide +kernel
theorem dX3_changeAble_6 : decode cX3_changeAble 6 = .ok (.getfield 17, 3) := by decide +kernel
theorem dX3_changeAble_9 : decode cX3_changeAble 9 = .ok (.iload_n 1, 1) := by decide +kernel
theorem dX3_changeAble_10 : decode cX3_changeAble 10 = .ok (.iaload, 1) := by decide +kernel
theorem dX3_changeAble_11 : decode cX3_changeAble 11 = .ok (.iload 4, 2) := by decide +kernel
theorem dX3_changeAble_13 : decode cX3_changeAble 13 = .ok (.iand, 1) := by decide +kernel
theorem dX3_changeAble_14 : decode cX3_changeAble 14 = .ok (.ifCond .eq 7, 3) := by decide +kernel
theorem dX3_changeAble_17 : decode cX3_changeAble 17 = .ok (.iconst 1, 1) := by decide +kernel
theorem dX3_changeAble_18 : decode cX3_changeAble 18 = .ok (.goto 4, 3) := by decide +kernel
theorem dX3_changeAble_21 : decode cX3_changeAble 21 = .ok (.iconst 0, 1) := by decide +kernel
theorem dX3_changeAble_22 : decode cX3_changeAble 22 = .ok (.istore 5, 2) := by decide +kernel
theorem dX3_changeAble_24 : decode cX3_changeAble 24 = .ok (.aload_n 0, 1) := by decide +kernel
theorem dX3_changeAble_25 : decode cX3_changeAble 25 = .ok (.getfield 17, 3) := by decide +kernel
theorem dX3_changeAble_28 : decode cX3_changeAble 28 = .ok (.iload_n 1, 1) := by decide +kernel
theorem dX3_changeAble_29 : decode cX3_changeAble 29 = .ok (.iload_n 3, 1) := by decide +kernel
theorem dX3_changeAble_30 : decode cX3_changeAble 30 = .ok (.ifCond .eq 15, 3) := by decide +kernel
theorem dX3_changeAble_33 : decode cX3_changeAble 33 = .ok (.aload_n 0, 1) := by decide +kernel
theorem dX3_changeAble_34 : decode cX3_changeAble 34 = .ok (.getfield 17, 3) := by decide +kernel
theorem dX3_changeAble_37 : decode cX3_changeAble 37 = .ok (.iload_n 1, 1) := by decide +kernel
theorem dX3_changeAble_38 : decode cX3_changeAble 38 = .ok (.iaload, 1) := by decide +kernel
theorem dX3_changeAble_39 : decode cX3_changeAble 39 = .ok (.iload 4, 2) := by decide +kernel
theorem dX3_changeAble_41 : decode cX3_changeAble 41 = .ok (.ior, 1) := by decide +kernel
theorem dX3_changeAble_42 : decode cX3_changeAble 42 = .ok (.goto 14, 3) := by decide +kernel
theorem dX3_changeAble_45 : decode cX3_changeAble 45 = .ok (.aload_n 0, 1) := by decide +kernel
theorem dX3_changeAble_46 : decode cX3_changeAble 46 = .ok (.getfield 17, 3) := by decide +kernel
theorem dX3_changeAble_49 : decode cX3_changeAble 49 = .ok (.iload_n 1, 1) := by decide +kernel
theorem dX3_changeAble_50 : decode cX3_changeAble 50 = .ok (.iaload, 1) := by decide +kernel
theorem dX3_changeAble_51 : decode cX3_changeAble 51 = .ok (.iload 4, 2) := by decide +kernel
theorem dX3_changeAble_53 : decode cX3_changeAble 53 = .ok (.iconst (-1), 1) := by decide +kernel
theorem dX3_changeAble_54 : decode cX3_changeAble 54 = .ok (.ixor, 1) := by decide +kernel
theorem dX3_changeAble_55 : decode cX3_changeAble 55 = .ok (.iand, 1) := by decide +kernel
theorem dX3_changeAble_56 : decode cX3_changeAble 56 = .ok (.iastore, 1) := by decide +kernel
theorem dX3_changeAble_57 : decode cX3_changeAble 57 = .ok (.iload 5, 2) := by decide +kernel
theorem dX3_changeAble_59 : decode cX3_changeAble 59 = .ok (.ireturn, 1) := by decide +kernel
theorem dX3_doFirstRepair_0 : decode cX3_doFirstRepair 0 = .ok (.aload_n 0, 1) := by decide +kernel
theorem dX3_doFirstRepair_1 : decode cX3_doFirstRepair 1 = .ok (.getfield 24, 3) := by decide +kernel
theorem dX3_doFirstRepair_4 : decode cX3_doFirstRepair 4 = .ok (.invokevirtual 205, 3) := by decide +kernel
theorem dX3_doFirstRepair_7 : decode cX3_doFirstRepair 7 = .ok (.istore_n 1, 1) := by decide +kernel
theorem dX3_doFirstRepair_8 : decode cX3_doFirstRepair 8 = .ok (.aload_n 0, 1) := by decide +kernel
theorem dX3_doFirstRepair_9 : decode cX3_doFirstRepair 9 = .ok (.getfield 24, 3) := by decide +kernel
theorem dX3_doFirstRepair_12 : decode cX3_doFirstRepair 12 = .ok (.getfield 208, 3) := by decide +kernel
theorem dX3_doFirstRepair_15 : decode cX3_doFirstRepair 15 = .ok (.iload_n 1, 1) := by decide +kernel
theorem dX3_doFirstRepair_16 : decode cX3_doFirstRepair 16 = .ok (.iaload, 1) := by decide +kernel
theorem dX3_doFirstRepair_17 : decode cX3_doFirstRepair 17 = .ok (.istore_n 2, 1) := by decide +kernel
theorem dX3_doFirstRepair_18 : decode cX3_doFirstRepair 18 = .ok (.aload_n 0, 1) := by decide +kernel
theorem dX3_doFirstRepair_19 : decode cX3_doFirstRepair 19 = .ok (.getfield 24, 3) := by decide +kernel
theorem dX3_doFirstRepair_22 : decode cX3_doFirstRepair 22 = .ok (.getfield 210, 3) := by decide +kernel
theorem dX3_doFirstRepair_25 : decode cX3_doFirstRepair 25 = .ok (.iload_n 1, 1) := by decide +kernel
theorem dX3_doFirstRepair_26 : decode cX3_doFirstRepair 26 = .ok (.iaload, 1) := by decide +kernel
theorem dX3_doFirstRepair_27 : decode cX3_doFirstRepair 27 = .ok (.istore_n 3, 1) := by decide +kernel
theorem dX3_doFirstRepair_28 : decode cX3_doFirstRepair 28 = .ok (.aload_n 0, 1) := by decide +kernel
theorem dX3_doFirstRepair_29 : decode cX3_doFirstRepair 29 = .ok (.dup, 1) := by decide +kernel
theorem dX3_doFirstRepair_30 : decode cX3_doFirstRepair 30 = .ok (.getfield 74, 3) := by decide +kernel
theorem dX3_doFirstRepair_33 : decode cX3_doFirstRepair 33 = .ok (.iload_n 3, 1) := by decide +kernel
theorem dX3_doFirstRepair_34 : decode cX3_doFirstRepair 34 = .ok (.aload_n 0, 1) := by decide +kernel
theorem dX3_doFirstRepair_35 : decode cX3_doFirstRepair 35 = .ok (.getfield 24, 3) := by decide +kernel
theorem dX3_doFirstRepair_38 : decode cX3_doFirstRepair 38 = .ok (.invokevirtual 213, 3) := by decide +kernel
theorem dX3_doFirstRepair_41 : decode cX3_doFirstRepair 41 = .ok (.imul, 1) := by decide +kernel
theorem dX3_doFirstRepair_42 : decode cX3_doFirstRepair 42 = .ok (.iadd, 1) := by decide +kernel
theorem dX3_doFirstRepair_43 : decode cX3_doFirstRepair 43 = .ok (.putfield 74, 3) := by decide +kernel
theorem dX3_doFirstRepair_46 : decode cX3_doFirstRepair 46 = .ok (.aload_n 0, 1) := by decide +kernel
theorem dX3_doFirstRepair_47 : decode cX3_doFirstRepair 47 = .ok (.iload_n 3, 1) := by decide +kernel
theorem dX3_doFirstRepair_48 : decode cX3_doFirstRepair 48 = .ok (.invokevirtual 176, 3) := by decide +kernel
theorem dX3_doFirstRepair_51 : decode cX3_doFirstRepair 51 = .ok (.pop, 1) := by decide +kernel
theorem dX3_doFirstRepair_52 : decode cX3_doFirstRepair 52 = .ok (.aload_n 0, 1) := by decide +kernel
theorem dX3_doFirstRepair_53 : decode cX3_doFirstRepair 53 = .ok (.getfield 11, 3) := by decide +kernel
theorem dX3_doFirstRepair_56 : decode cX3_doFirstRepair 56 = .ok (.iload_n 2, 1) := by decide +kernel
theorem dX3_doFirstRepair_57 : decode cX3_doFirstRepair 57 = .ok (.aaload, 1) := by decide +kernel
theorem dX3_doFirstRepair_58 : decode cX3_doFirstRepair 58 = .ok (.invokevirtual 216, 3) := by decide +kernel
theorem dX3_doFirstRepair_61 : decode cX3_doFirstRepair 61 = .ok (.aload_n 0, 1) := by decide +kernel
theorem dX3_doFirstRepair_62 : decode cX3_doFirstRepair 62 = .ok (.getfield 24, 3) := by decide +kernel
theorem dX3_doFirstRepair_65 : decode cX3_doFirstRepair 65 = .ok (.iload_n 1, 1) := by decide +kernel
theorem dX3_doFirstRepair_66 : decode cX3_doFirstRepair 66 = .ok (.invokevirtual 219, 3) := by decide +kernel
theorem dX3_doFirstRepair_69 : decode cX3_doFirstRepair 69 = .ok (.pop, 1) := by decide +kernel
theorem dX3_doFirstRepair_70 : decode cX3_doFirstRepair 70 = .ok (.iload_n 2, 1) := by decide +kernel
theorem dX3_doFirstRepair_71 : decode cX3_doFirstRepair 71 = .ok (.ireturn, 1) := by decide +kernel
theorem dX3_passHours_0 : decode cX3_passHours 0 = .ok (.iconst 0, 1) := by decide +kernel
theorem dX3_passHours_1 : decode cX3_passHours 1 = .ok (.istore_n 2, 1) := by decide +kernel
theorem dX3_passHours_2 : decode cX3_passHours 2 = .ok (.iconst 0, 1) := by decide +kernel
theorem dX3_passHours_3 : decode cX3_passHours 3 = .ok (.istore_n 3, 1) := by decide +kernel
theorem dX3_passHours_4 : decode cX3_passHours 4 = .ok (.iload_n 3, 1) := by decide +kernel
theorem dX3_passHours_5 : decode cX3_passHours 5 = .ok (.iload_n 1, 1) := by decide +kernel
theorem dX3_passHours_6 : decode cX3_passHours 6 = .ok (.if_icmp .ge 56, 3) := by decide +kernel
theorem dX3_passHours_9 : decode cX3_passHours 9 = .ok (.aload_n 0, 1) := by decide +kernel
theorem dX3_passHours_10 : decode cX3_passHours 10 = .ok (.dup, 1) := by decide +kernel
theorem dX3_passHours_11 : decode cX3_passHours 11 = .ok (.getfield 71, 3) := by decide +kernel
theorem dX3_passHours_14 : decode cX3_passHours 14 = .ok (.iconst 1, 1) := by decide +kernel
theorem dX3_passHours_15 : decode cX3_passHours 15 = .ok (.iadd, 1) := by decide +kernel
theorem dX3_passHours_16 : decode cX3_passHours 16 = .ok (.putfield 71, 3) := by decide +kernel
theorem dX3_passHours_19 : decode cX3_passHours 19 = .ok (.iconst 0, 1) := by decide +kernel
theorem dX3_passHours_20 : decode cX3_passHours 20 = .ok (.istore 4, 2) := by decide +kernel
theorem dX3_passHours_22 : decode cX3_passHours 22 = .ok (.iload 4, 2) := by decide +kernel
theorem dX3_passHours_24 : decode cX3_passHours 24 = .ok (.aload_n 0, 1) := by decide +kernel
theorem dX3_passHours_25 : decode cX3_passHours 25 = .ok (.getfield 43, 3) := by decide +kernel
theorem dX3_passHours_28 : decode cX3_passHours 28 = .ok (.if_icmp .ge 28, 3) := by decide +kernel
theorem dX3_passHours_31 : decode cX3_passHours 31 = .ok (.iload_n 2, 1) := by decide +kernel
theorem dX3_passHours_32 : decode cX3_passHours 32 = .ok (.aload_n 0, 1) := by decide +kernel
theorem dX3_passHours_33 : decode cX3_passHours 33 = .ok (.iload 4, 2) := by decide +kernel
theorem dX3_passHours_35 : decode cX3_passHours 35 = .ok (.aload_n 0, 1) := by decide +kernel
theorem dX3_passHours_36 : decode cX3_passHours 36 = .ok (.getfield 11, 3) := by decide +kernel
theorem dX3_passHours_39 : decode cX3_passHours 39 = .ok (.iload 4, 2) := by decide +kernel
theorem dX3_passHours_41 : decode cX3_passHours 41 = .ok (.aaload, 1) := by decide +kernel
theorem dX3_passHours_42 : decode cX3_passHours 42 = .ok (.getfield 222, 3) := by decide +kernel
theorem dX3_passHours_45 : decode cX3_passHours 45 = .ok (.invokevirtual 151, 3) := by decide +kernel
theorem dX3_passHours_48 : decode cX3_passHours 48 = .ok (.iadd, 1) := by decide +kernel
theorem dX3_passHours_49 : decode cX3_passHours 49 = .ok (.istore_n 2, 1) := by decide +kernel
theorem dX3_passHours_50 : decode cX3_passHours 50 = .ok (.iinc 4 1, 3) := by decide +kernel
theorem dX3_passHours_53 : decode cX3_passHours 53 = .ok (.goto (-31), 3) := by decide +kernel
theorem dX3_passHours_56 : decode cX3_passHours 56 = .ok (.iinc 3 1, 3) := by decide +kernel
theorem dX3_passHours_59 : decode cX3_passHours 59 = .ok (.goto (-55), 3) := by decide +kernel
theorem dX3_passHours_62 : decode cX3_passHours 62 = .ok (.iload_n 2, 1) := by decide +kernel
theorem dX3_passHours_63 : decode cX3_passHours 63 = .ok (.ireturn, 1) := by decide +kernel
theorem dX3_allCylinders_0 : decode cX3_allCylinders 0 = .ok (.iconst 0, 1) := by decide +kernel
theorem dX3_allCylinders_1 : decode cX3_allCylinders 1 = .ok (.istore_n 1, 1) := by decide +kernel
theorem dX3_allCylinders_2 : decode cX3_allCylinders 2 = .ok (.iconst 0, 1) := by decide +kernel
theorem dX3_allCylinders_3 : decode cX3_allCylinders 3 = .ok (.istore_n 2, 1) := by decide +kernel
theorem dX3_allCylinders_4 : decode cX3_allCylinders 4 = .ok (.iload_n 2, 1) := by decide +kernel
theorem dX3_allCylinders_5 : decode cX3_allCylinders 5 = .ok (.aload_n 0, 1) := by decide +kernel
theorem dX3_allCylinders_6 : decode cX3_allCylinders 6 = .ok (.getfield 43, 3) := by decide +kernel
theorem dX3_allCylinders_9 : decode cX3_allCylinders 9 = .ok (.if_icmp .ge 21, 3) := by decide +kernel
theorem dX3_allCylinders_12 : decode cX3_allCylinders 12 = .ok (.iload_n 1, 1) := by decide +kernel
theorem dX3_allCylinders_13 : decode cX3_allCylinders 13 = .ok (.aload_n 0, 1) := by decide +kernel
theorem dX3_allCylinders_14 : decode cX3_allCylinders 14 = .ok (.getfield 11, 3) := by decide +kernel
theorem dX3_allCylinders_17 : decode cX3_allCylinders 17 = .ok (.iload_n 2, 1) := by decide +kernel
theorem dX3_allCylinders_18 : decode cX3_allCylinders 18 = .ok (.aaload, 1) := by decide +kernel
theorem dX3_allCylinders_19 : decode cX3_allCylinders 19 = .ok (.getfield 202, 3) := by decide +kernel
theorem dX3_allCylinders_22 : decode cX3_allCylinders 22 = .ok (.iadd, 1) := by decide +kernel
theorem dX3_allCylinders_23 : decode cX3_allCylinders 23 = .ok (.istore_n 1, 1) := by decide +kernel
theorem dX3_allCylinders_24 : decode cX3_allCylinders 24 = .ok (.iinc 2 1, 3) := by decide +kernel
theorem dX3_allCylinders_27 : decode cX3_allCylinders 27 = .ok (.goto (-23), 3) := by decide +kernel
theorem dX3_allCylinders_30 : decode cX3_allCylinders 30 = .ok (.iload_n 1, 1) := by decide +kernel
theorem dX3_allCylinders_31 : decode cX3_allCylinders 31 = .ok (.ireturn, 1) := by decide +kernel
theorem dX3_oilInCylinders_0 : decode cX3_oilInCylinders 0 = .ok (.iconst 0, 1) := by decide +kernel
theorem dX3_oilInCylinders_1 : decode cX3_oilInCylinders 1 = .ok (.istore_n 1, 1) := by decide +kernel
theorem dX3_oilInCylinders_2 : decode cX3_oilInCylinders 2 = .ok (.iconst 0, 1) := by decide +kernel
theorem dX3_oilInCylinders_3 : decode cX3_oilInCylinders 3 = .ok (.istore_n 2, 1) := by decide +kernel
theorem dX3_oilInCylinders_4 : decode cX3_oilInCylinders 4 = .ok (.iload_n 2, 1) := by decide +kernel
theorem dX3_oilInCylinders_5 : decode cX3_oilInCylinders 5 = .ok (.aload_n 0, 1) := by decide +kernel
theorem dX3_oilInCylinders_6 : decode cX3_oilInCylinders 6 = .ok (.getfield 43, 3) := by decide +kernel
theorem dX3_oilInCylinders_9 : decode cX3_oilInCylinders 9 = .ok (.if_icmp .ge 30, 3) := by decide +kernel
theorem dX3_oilInCylinders_12 : decode cX3_oilInCylinders 12 = .ok (.iload_n 1, 1) := by decide +kernel
theorem dX3_oilInCylinders_13 : decode cX3_oilInCylinders 13 = .ok (.aload_n 0, 1) := by decide +kernel
theorem dX3_oilInCylinders_14 : decode cX3_oilInCylinders 14 = .ok (.getfield 11, 3) := by decide +kernel
theorem dX3_oilInCylinders_17 : decode cX3_oilInCylinders 17 = .ok (.iload_n 2, 1) := by decide +kernel
theorem dX3_oilInCylinders_18 : decode cX3_oilInCylinders 18 = .ok (.aaload, 1) := by decide +kernel
theorem dX3_oilInCylinders_19 : decode cX3_oilInCylinders 19 = .ok (.aload_n 0, 1) := by decide +kernel
theorem dX3_oilInCylinders_20 : decode cX3_oilInCylinders 20 = .ok (.getfield 11, 3) := by decide +kernel
theorem dX3_oilInCylinders_23 : decode cX3_oilInCylinders 23 = .ok (.iload_n 2, 1) := by decide +kernel
theorem dX3_oilInCylinders_24 : decode cX3_oilInCylinders 24 = .ok (.aaload, 1) := by decide +kernel
theorem dX3_oilInCylinders_25 : decode cX3_oilInCylinders 25 = .ok (.getfield 190, 3) := by decide +kernel
theorem dX3_oilInCylinders_28 : decode cX3_oilInCylinders 28 = .ok (.invokevirtual 225, 3) := by decide +kernel
theorem dX3_oilInCylinders_31 : decode cX3_oilInCylinders 31 = .ok (.iadd, 1) := by decide +kernel
theorem dX3_oilInCylinders_32 : decode cX3_oilInCylinders 32 = .ok (.istore_n 1, 1) := by decide +kernel
theorem dX3_oilInCylinders_33 : decode cX3_oilInCylinders 33 = .ok (.iinc 2 1, 3) := by decide +kernel
theorem dX3_oilInCylinders_36 : decode cX3_oilInCylinders 36 = .ok (.goto (-32), 3) := by decide +kernel
theorem dX3_oilInCylinders_39 : decode cX3_oilInCylinders 39 = .ok (.iload_n 1, 1) := by decide +kernel
theorem dX3_oilInCylinders_40 : decode cX3_oilInCylinders 40 = .ok (.ireturn, 1) := by decide +kernel
theorem dX3_leastOil_0 : decode cX3_leastOil 0 = .ok (.aload_n 0, 1) := by decide +kernel
theorem dX3_leastOil_1 : decode cX3_leastOil 1 = .ok (.invokevirtual 199, 3) := by decide +kernel
theorem dX3_leastOil_4 : decode cX3_leastOil 4 = .ok (.istore_n 1, 1) := by decide +kernel
theorem dX3_leastOil_5 : decode cX3_leastOil 5 = .ok (.aload_n 0, 1) := by decide +kernel
theorem dX3_leastOil_6 : decode cX3_leastOil 6 = .ok (.getfield 11, 3) := by decide +kernel
theorem dX3_leastOil_9 : decode cX3_leastOil 9 = .ok (.iload_n 1, 1) := by decide +kernel
theorem dX3_leastOil_10 : decode cX3_leastOil 10 = .ok (.bipush 8, 2) := by decide +kernel
theorem dX3_leastOil_12 : decode cX3_leastOil 12 = .ok (.idiv, 1) := by decide +kernel
theorem dX3_leastOil_13 : decode cX3_leastOil 13 = .ok (.aaload, 1) := by decide +kernel
theorem dX3_leastOil_14 : decode cX3_leastOil 14 = .ok (.getfield 190, 3) := by decide +kernel
theorem dX3_leastOil_17 : decode cX3_leastOil 17 = .ok (.iload_n 1, 1) := by decide +kernel
theorem dX3_leastOil_18 : decode cX3_leastOil 18 = .ok (.bipush 8, 2) := by decide +kernel
theorem dX3_leastOil_20 : decode cX3_leastOil 20 = .ok (.irem, 1) := by decide +kernel
theorem dX3_leastOil_21 : decode cX3_leastOil 21 = .ok (.iaload, 1) := by decide +kernel
theorem dX3_leastOil_22 : decode cX3_leastOil 22 = .ok (.ireturn, 1) := by decide +kernel
theorem dX3_levelByFilling_0 : decode cX3_levelByFilling 0 = .ok (.aload_n 0, 1) := by decide +kernel
theorem dX3_levelByFilling_1 : decode cX3_levelByFilling 1 = .ok (.invokevirtual 196, 3) := by decide +kernel
theorem dX3_levelByFilling_4 : decode cX3_levelByFilling 4 = .ok (.istore_n 2, 1) := by decide +kernel
theorem dX3_levelByFilling_5 : decode cX3_levelByFilling 5 = .ok (.iload_n 1, 1) := by decide +kernel
theorem dX3_levelByFilling_6 : decode cX3_levelByFilling 6 = .ok (.istore_n 3, 1) := by decide +kernel
theorem dX3_levelByFilling_7 : decode cX3_levelByFilling 7 = .ok (.iconst 0, 1) := by decide +kernel
theorem dX3_levelByFilling_8 : decode cX3_levelByFilling 8 = .ok (.istore 4, 2) := by decide +kernel
theorem dX3_levelByFilling_10 : decode cX3_levelByFilling 10 = .ok (.iload 4, 2) := by decide +kernel
theorem dX3_levelByFilling_12 : decode cX3_levelByFilling 12 = .ok (.bipush 32, 2) := by decide +kernel
theorem dX3_levelByFilling_14 : decode cX3_levelByFilling 14 = .ok (.if_icmp .ge 67, 3) := by decide +kernel
theorem dX3_levelByFilling_17 : decode cX3_levelByFilling 17 = .ok (.aload_n 0, 1) := by decide +kernel
theorem dX3_levelByFilling_18 : decode cX3_levelByFilling 18 = .ok (.iload_n 2, 1) := by decide +kernel
theorem dX3_levelByFilling_19 : decode cX3_levelByFilling 19 = .ok (.invokevirtual 229, 3) := by decide +kernel
theorem dX3_levelByFilling_22 : decode cX3_levelByFilling 22 = .ok (.istore 5, 2) := by decide +kernel
theorem dX3_levelByFilling_24 : decode cX3_levelByFilling 24 = .ok (.aload_n 0, 1) := by decide +kernel
theorem dX3_levelByFilling_25 : decode cX3_levelByFilling 25 = .ok (.iload_n 2, 1) := by decide +kernel
theorem dX3_levelByFilling_26 : decode cX3_levelByFilling 26 = .ok (.invokevirtual 232, 3) := by decide +kernel
theorem dX3_levelByFilling_29 : decode cX3_levelByFilling 29 = .ok (.istore 6, 2) := by decide +kernel
theorem dX3_levelByFilling_31 : decode cX3_levelByFilling 31 = .ok (.iload 5, 2) := by decide +kernel
theorem dX3_levelByFilling_33 : decode cX3_levelByFilling 33 = .ok (.ifCond .ne 5, 3) := by decide +kernel
theorem dX3_levelByFilling_36 : decode cX3_levelByFilling 36 = .ok (.iload_n 2, 1) := by decide +kernel
theorem dX3_levelByFilling_37 : decode cX3_levelByFilling 37 = .ok (.ireturn, 1) := by decide +kernel
theorem dX3_levelByFilling_38 : decode cX3_levelByFilling 38 = .ok (.iload 6, 2) := by decide +kernel
theorem dX3_levelByFilling_40 : decode cX3_levelByFilling 40 = .ok (.iconst (-1), 1) := by decide +kernel
theorem dX3_levelByFilling_41 : decode cX3_levelByFilling 41 = .ok (.if_icmp .eq 14, 3) := by decide +kernel
theorem dX3_levelByFilling_44 : decode cX3_levelByFilling 44 = .ok (.iload_n 3, 1) := by decide +kernel
theorem dX3_levelByFilling_45 : decode cX3_levelByFilling 45 = .ok (.iload 6, 2) := by decide +kernel
theorem dX3_levelByFilling_47 : decode cX3_levelByFilling 47 = .ok (.iload_n 2, 1) := by decide +kernel
theorem dX3_levelByFilling_48 : decode cX3_levelByFilling 48 = .ok (.isub, 1) := by decide +kernel
theorem dX3_levelByFilling_49 : decode cX3_levelByFilling 49 = .ok (.iload 5, 2) := by decide +kernel
theorem dX3_levelByFilling_51 : decode cX3_levelByFilling 51 = .ok (.imul, 1) := by decide +kernel
theorem dX3_levelByFilling_52 : decode cX3_levelByFilling 52 = .ok (.if_icmp .ge 10, 3) := by decide +kernel
theorem dX3_levelByFilling_55 : decode cX3_levelByFilling 55 = .ok (.iload_n 2, 1) := by decide +kernel
theorem dX3_levelByFilling_56 : decode cX3_levelByFilling 56 = .ok (.iload_n 3, 1) := by decide +kernel
theorem dX3_levelByFilling_57 : decode cX3_levelByFilling 57 = .ok (.iload 5, 2) := by decide +kernel
theorem dX3_levelByFilling_59 : decode cX3_levelByFilling 59 = .ok (.idiv, 1) := by decide +kernel
theorem dX3_levelByFilling_60 : decode cX3_levelByFilling 60 = .ok (.iadd, 1) := by decide +kernel
theorem dX3_levelByFilling_61 : decode cX3_levelByFilling 61 = .ok (.ireturn, 1) := by decide +kernel
theorem dX3_levelByFilling_62 : decode cX3_levelByFilling 62 = .ok (.iload_n 3, 1) := by decide +kernel
theorem dX3_levelByFilling_63 : decode cX3_levelByFilling 63 = .ok (.iload 6, 2) := by decide +kernel
theorem dX3_levelByFilling_65 : decode cX3_levelByFilling 65 = .ok (.iload_n 2, 1) := by decide +kernel
theorem dX3_levelByFilling_66 : decode cX3_levelByFilling 66 = .ok (.isub, 1) := by decide +kernel
theorem dX3_levelByFilling_67 : decode cX3_levelByFilling 67 = .ok (.iload 5, 2) := by decide +kernel
theorem dX3_levelByFilling_69 : decode cX3_levelByFilling 69 = .ok (.imul, 1) := by decide +kernel
theorem dX3_levelByFilling_70 : decode cX3_levelByFilling 70 = .ok (.isub, 1) := by decide +kernel
theorem dX3_levelByFilling_71 : decode cX3_levelByFilling 71 = .ok (.istore_n 3, 1) := by decide +kernel
theorem dX3_levelByFilling_72 : decode cX3_levelByFilling 72 = .ok (.iload 6, 2) := by decide +kernel
theorem dX3_levelByFilling_74 : decode cX3_levelByFilling 74 = .ok (.istore_n 2, 1) := by decide +kernel
theorem dX3_levelByFilling_75 : decode cX3_levelByFilling 75 = .ok (.iinc 4 1, 3) := by decide +kernel
theorem dX3_levelByFilling_78 : decode cX3_levelByFilling 78 = .ok (.goto (-68), 3) := by decide +kernel
theorem dX3_levelByFilling_81 : decode cX3_levelByFilling 81 = .ok (.iload_n 2, 1) := by decide +kernel
theorem dX3_levelByFilling_82 : decode cX3_levelByFilling 82 = .ok (.ireturn, 1) := by decide +kernel
theorem dX3_cylindersUpTo_0 : decode cX3_cylindersUpTo 0 = .ok (.iconst 0, 1) := by decide +kernel
theorem dX3_cylindersUpTo_1 : decode cX3_cylindersUpTo 1 = .ok (.istore_n 2, 1) := by decide +kernel
theorem dX3_cylindersUpTo_2 : decode cX3_cylindersUpTo 2 = .ok (.iconst 0, 1) := by decide +kernel
theorem dX3_cylindersUpTo_3 : decode cX3_cylindersUpTo 3 = .ok (.istore_n 3, 1) := by decide +kernel
theorem dX3_cylindersUpTo_4 : decode cX3_cylindersUpTo 4 = .ok (.iload_n 3, 1) := by decide +kernel
theorem dX3_cylindersUpTo_5 : decode cX3_cylindersUpTo 5 = .ok (.aload_n 0, 1) := by decide +kernel
theorem dX3_cylindersUpTo_6 : decode cX3_cylindersUpTo 6 = .ok (.getfield 43, 3) := by decide +kernel
theorem dX3_cylindersUpTo_9 : decode cX3_cylindersUpTo 9 = .ok (.if_icmp .ge 51, 3) := by decide +kernel
theorem dX3_cylindersUpTo_12 : decode cX3_cylindersUpTo 12 = .ok (.iconst 0, 1) := by decide +kernel
theorem dX3_cylindersUpTo_13 : decode cX3_cylindersUpTo 13 = .ok (.istore 4, 2) := by decide +kernel
theorem dX3_cylindersUpTo_15 : decode cX3_cylindersUpTo 15 = .ok (.iload 4, 2) := by decide +kernel
theorem dX3_cylindersUpTo_17 : decode cX3_cylindersUpTo 17 = .ok (.aload_n 0, 1) := by decide +kernel
theorem dX3_cylindersUpTo_18 : decode cX3_cylindersUpTo 18 = .ok (.getfield 11, 3) := by decide +kernel
theorem dX3_cylindersUpTo_21 : decode cX3_cylindersUpTo 21 = .ok (.iload_n 3, 1) := by decide +kernel
theorem dX3_cylindersUpTo_22 : decode cX3_cylindersUpTo 22 = .ok (.aaload, 1) := by decide +kernel
theorem dX3_cylindersUpTo_23 : decode cX3_cylindersUpTo 23 = .ok (.getfield 202, 3) := by decide +kernel
theorem dX3_cylindersUpTo_26 : decode cX3_cylindersUpTo 26 = .ok (.if_icmp .ge 28, 3) := by decide +kernel
theorem dX3_cylindersUpTo_29 : decode cX3_cylindersUpTo 29 = .ok (.aload_n 0, 1) := by decide +kernel
theorem dX3_cylindersUpTo_30 : decode cX3_cylindersUpTo 30 = .ok (.getfield 11, 3) := by decide +kernel
theorem dX3_cylindersUpTo_33 : decode cX3_cylindersUpTo 33 = .ok (.iload_n 3, 1) := by decide +kernel
theorem dX3_cylindersUpTo_34 : decode cX3_cylindersUpTo 34 = .ok (.aaload, 1) := by decide +kernel
theorem dX3_cylindersUpTo_35 : decode cX3_cylindersUpTo 35 = .ok (.getfield 190, 3) := by decide +kernel
theorem dX3_cylindersUpTo_38 : decode cX3_cylindersUpTo 38 = .ok (.iload 4, 2) := by decide +kernel
theorem dX3_cylindersUpTo_40 : decode cX3_cylindersUpTo 40 = .ok (.iaload, 1) := by decide +kernel
theorem dX3_cylindersUpTo_41 : decode cX3_cylindersUpTo 41 = .ok (.iload_n 1, 1) := by decide +kernel
theorem dX3_cylindersUpTo_42 : decode cX3_cylindersUpTo 42 = .ok (.if_icmp .gt 6, 3) := by decide +kernel
theorem dX3_cylindersUpTo_45 : decode cX3_cylindersUpTo 45 = .ok (.iinc 2 1, 3) := by decide +kernel
theorem dX3_cylindersUpTo_48 : decode cX3_cylindersUpTo 48 = .ok (.iinc 4 1, 3) := by decide +kernel
theorem dX3_cylindersUpTo_51 : decode cX3_cylindersUpTo 51 = .ok (.goto (-36), 3) := by decide +kernel
theorem dX3_cylindersUpTo_54 : decode cX3_cylindersUpTo 54 = .ok (.iinc 3 1, 3) := by decide +kernel
theorem dX3_cylindersUpTo_57 : decode cX3_cylindersUpTo 57 = .ok (.goto (-53), 3) := by decide +kernel
theorem dX3_cylindersUpTo_60 : decode cX3_cylindersUpTo 60 = .ok (.iload_n 2, 1) := by decide +kernel
theorem dX3_cylindersUpTo_61 : decode cX3_cylindersUpTo 61 = .ok (.ireturn, 1) := by decide +kernel
theorem dX3_leastOilAbove_0 : decode cX3_leastOilAbove 0 = .ok (.iconst (-1), 1) := by decide +kernel
theorem dX3_leastOilAbove_1 : decode cX3_leastOilAbove 1 = .ok (.istore_n 2, 1) := by decide +kernel
theorem dX3_leastOilAbove_2 : decode cX3_leastOilAbove 2 = .ok (.iconst 0, 1) := by decide +kernel
theorem dX3_leastOilAbove_3 : decode cX3_leastOilAbove 3 = .ok (.istore_n 3, 1) := by decide +kernel
theorem dX3_leastOilAbove_4 : decode cX3_leastOilAbove 4 = .ok (.iload_n 3, 1) := by decide +kernel
theorem dX3_leastOilAbove_5 : decode cX3_leastOilAbove 5 = .ok (.aload_n 0, 1) := by decide +kernel
theorem dX3_leastOilAbove_6 : decode cX3_leastOilAbove 6 = .ok (.getfield 43, 3) := by decide +kernel
theorem dX3_leastOilAbove_9 : decode cX3_leastOilAbove 9 = .ok (.if_icmp .ge 66, 3) := by decide +kernel
theorem dX3_leastOilAbove_12 : decode cX3_leastOilAbove 12 = .ok (.iconst 0, 1) := by decide +kernel
theorem dX3_leastOilAbove_13 : decode cX3_leastOilAbove 13 = .ok (.istore 4, 2) := by decide +kernel
theorem dX3_leastOilAbove_15 : decode cX3_leastOilAbove 15 = .ok (.iload 4, 2) := by decide +kernel
theorem dX3_leastOilAbove_17 : decode cX3_leastOilAbove 17 = .ok (.aload_n 0, 1) := by decide +kernel
theorem dX3_leastOilAbove_18 : decode cX3_leastOilAbove 18 = .ok (.getfield 11, 3) := by decide +kernel
theorem dX3_leastOilAbove_21 : decode cX3_leastOilAbove 21 = .ok (.iload_n 3, 1) := by decide +kernel
theorem dX3_leastOilAbove_22 : decode cX3_leastOilAbove 22 = .ok (.aaload, 1) := by decide +kernel
theorem dX3_leastOilAbove_23 : decode cX3_leastOilAbove 23 = .ok (.getfield 202, 3) := by decide +kernel
theorem dX3_leastOilAbove_26 : decode cX3_leastOilAbove 26 = .ok (.if_icmp .ge 43, 3) := by decide +kernel
theorem dX3_leastOilAbove_29 : decode cX3_leastOilAbove 29 = .ok (.aload_n 0, 1) := by decide +kernel
theorem dX3_leastOilAbove_30 : decode cX3_leastOilAbove 30 = .ok (.getfield 11, 3) := by decide +kernel
theorem dX3_leastOilAbove_33 : decode cX3_leastOilAbove 33 = .ok (.iload_n 3, 1) := by decide +kernel
theorem dX3_leastOilAbove_34 : decode cX3_leastOilAbove 34 = .ok (.aaload, 1) := by decide +kernel
theorem dX3_leastOilAbove_35 : decode cX3_leastOilAbove 35 = .ok (.getfield 190, 3) := by decide +kernel
theorem dX3_leastOilAbove_38 : decode cX3_leastOilAbove 38 = .ok (.iload 4, 2) := by decide +kernel
theorem dX3_leastOilAbove_40 : decode cX3_leastOilAbove 40 = .ok (.iaload, 1) := by decide +kernel
theorem dX3_leastOilAbove_41 : decode cX3_leastOilAbove 41 = .ok (.istore 5, 2) := by decide +kernel
theorem dX3_leastOilAbove_43 : decode cX3_leastOilAbove 43 = .ok (.iload 5, 2) := by decide +kernel
theorem dX3_leastOilAbove_45 : decode cX3_leastOilAbove 45 = .ok (.iload_n 1, 1) := by decide +kernel
theorem dX3_leastOilAbove_46 : decode cX3_leastOilAbove 46 = .ok (.if_icmp .le 17, 3) := by decide +kernel
theorem dX3_leastOilAbove_49 : decode cX3_leastOilAbove 49 = .ok (.iload_n 2, 1) := by decide +kernel
theorem dX3_leastOilAbove_50 : decode cX3_leastOilAbove 50 = .ok (.iconst (-1), 1) := by decide +kernel
theorem dX3_leastOilAbove_51 : decode cX3_leastOilAbove 51 = .ok (.if_icmp .eq 9, 3) := by decide +kernel
theorem dX3_leastOilAbove_54 : decode cX3_leastOilAbove 54 = .ok (.iload 5, 2) := by decide +kernel
theorem dX3_leastOilAbove_56 : decode cX3_leastOilAbove 56 = .ok (.iload_n 2, 1) := by decide +kernel
theorem dX3_leastOilAbove_57 : decode cX3_leastOilAbove 57 = .ok (.if_icmp .ge 6, 3) := by decide +kernel
theorem dX3_leastOilAbove_60 : decode cX3_leastOilAbove 60 = .ok (.iload 5, 2) := by decide +kernel
theorem dX3_leastOilAbove_62 : decode cX3_leastOilAbove 62 = .ok (.istore_n 2, 1) := by decide +kernel
theorem dX3_leastOilAbove_63 : decode cX3_leastOilAbove 63 = .ok (.iinc 4 1, 3) := by decide +kernel
theorem dX3_leastOilAbove_66 : decode cX3_leastOilAbove 66 = .ok (.goto (-51), 3) := by decide +kernel
theorem dX3_leastOilAbove_69 : decode cX3_leastOilAbove 69 = .ok (.iinc 3 1, 3) := by decide +kernel
theorem dX3_leastOilAbove_72 : decode cX3_leastOilAbove 72 = .ok (.goto (-68), 3) := by decide +kernel
theorem dX3_leastOilAbove_75 : decode cX3_leastOilAbove 75 = .ok (.iload_n 2, 1) := by decide +kernel
theorem dX3_leastOilAbove_76 : decode cX3_leastOilAbove 76 = .ok (.ireturn, 1) := by decide +kernel
theorem dX3_engineOfRank_0 : decode cX3_engineOfRank 0 = .ok (.iconst 0, 1) := by decide +kernel
theorem dX3_engineOfRank_1 : decode cX3_engineOfRank 1 = .ok (.istore_n 2, 1) := by decide +kernel
theorem dX3_engineOfRank_2 : decode cX3_engineOfRank 2 = .ok (.iload_n 2, 1) := by decide +kernel
theorem dX3_engineOfRank_3 : decode cX3_engineOfRank 3 = .ok (.aload_n 0, 1) := by decide +kernel
theorem dX3_engineOfRank_4 : decode cX3_engineOfRank 4 = .ok (.getfield 43, 3) := by decide +kernel
theorem dX3_engineOfRank_7 : decode cX3_engineOfRank 7 = .ok (.if_icmp .ge 20, 3) := by decide +kernel
theorem dX3_engineOfRank_10 : decode cX3_engineOfRank 10 = .ok (.aload_n 0, 1) := by decide +kernel
theorem dX3_engineOfRank_11 : decode cX3_engineOfRank 11 = .ok (.iload_n 2, 1) := by decide +kernel
theorem dX3_engineOfRank_12 : decode cX3_engineOfRank 12 = .ok (.invokevirtual 235, 3) := by decide +kernel
theorem dX3_engineOfRank_15 : decode cX3_engineOfRank 15 = .ok (.iload_n 1, 1) := by decide +kernel
theorem dX3_engineOfRank_16 : decode cX3_engineOfRank 16 = .ok (.if_icmp .ne 5, 3) := by decide +kernel
theorem dX3_engineOfRank_19 : decode cX3_engineOfRank 19 = .ok (.iload_n 2, 1) := by decide +kernel
theorem dX3_engineOfRank_20 : decode cX3_engineOfRank 20 = .ok (.ireturn, 1) := by decide +kernel
theorem dX3_engineOfRank_21 : decode cX3_engineOfRank 21 = .ok (.iinc 2 1, 3) := by decide +kernel
theorem dX3_engineOfRank_24 : decode cX3_engineOfRank 24 = .ok (.goto (-22), 3) := by decide +kernel
theorem dX3_engineOfRank_27 : decode cX3_engineOfRank 27 = .ok (.iconst (-1), 1) := by decide +kernel
theorem dX3_engineOfRank_28 : decode cX3_engineOfRank 28 = .ok (.ireturn, 1) := by decide +kernel
theorem dX3_enginesBefore_0 : decode cX3_enginesBefore 0 = .ok (.aload_n 0, 1) := by decide +kernel
theorem dX3_enginesBefore_1 : decode cX3_enginesBefore 1 = .ok (.getfield 11, 3) := by decide +kernel
theorem dX3_enginesBefore_4 : decode cX3_enginesBefore 4 = .ok (.iload_n 1, 1) := by decide +kernel
theorem dX3_enginesBefore_5 : decode cX3_enginesBefore 5 = .ok (.aaload, 1) := by decide +kernel
theorem dX3_enginesBefore_6 : decode cX3_enginesBefore 6 = .ok (.aload_n 0, 1) := by decide +kernel
theorem dX3_enginesBefore_7 : decode cX3_enginesBefore 7 = .ok (.getfield 11, 3) := by decide +kernel
theorem dX3_enginesBefore_10 : decode cX3_enginesBefore 10 = .ok (.iload_n 1, 1) := by decide +kernel
theorem dX3_enginesBefore_11 : decode cX3_enginesBefore 11 = .ok (.aaload, 1) := by decide +kernel
theorem dX3_enginesBefore_12 : decode cX3_enginesBefore 12 = .ok (.getfield 238, 3) := by decide +kernel
theorem dX3_enginesBefore_15 : decode cX3_enginesBefore 15 = .ok (.invokevirtual 225, 3) := by decide +kernel
theorem dX3_enginesBefore_18 : decode cX3_enginesBefore 18 = .ok (.istore_n 2, 1) := by decide +kernel
theorem dX3_enginesBefore_19 : decode cX3_enginesBefore 19 = .ok (.iconst 0, 1) := by decide +kernel
theorem dX3_enginesBefore_20 : decode cX3_enginesBefore 20 = .ok (.istore_n 3, 1) := by decide +kernel
theorem dX3_enginesBefore_21 : decode cX3_enginesBefore 21 = .ok (.iconst 0, 1) := by decide +kernel
theorem dX3_enginesBefore_22 : decode cX3_enginesBefore 22 = .ok (.istore 4, 2) := by decide +kernel
theorem dX3_enginesBefore_24 : decode cX3_enginesBefore 24 = .ok (.iload 4, 2) := by decide +kernel
theorem dX3_enginesBefore_26 : decode cX3_enginesBefore 26 = .ok (.aload_n 0, 1) := by decide +kernel
theorem dX3_enginesBefore_27 : decode cX3_enginesBefore 27 = .ok (.getfield 43, 3) := by decide +kernel
theorem dX3_enginesBefore_30 : decode cX3_enginesBefore 30 = .ok (.if_icmp .ge 52, 3) := by decide +kernel
theorem dX3_enginesBefore_33 : decode cX3_enginesBefore 33 = .ok (.aload_n 0, 1) := by decide +kernel
theorem dX3_enginesBefore_34 : decode cX3_enginesBefore 34 = .ok (.getfield 11, 3) := by decide +kernel
theorem dX3_enginesBefore_37 : decode cX3_enginesBefore 37 = .ok (.iload 4, 2) := by decide +kernel
theorem dX3_enginesBefore_39 : decode cX3_enginesBefore 39 = .ok (.aaload, 1) := by decide +kernel
theorem dX3_enginesBefore_40 : decode cX3_enginesBefore 40 = .ok (.aload_n 0, 1) := by decide +kernel
theorem dX3_enginesBefore_41 : decode cX3_enginesBefore 41 = .ok (.getfield 11, 3) := by decide +kernel
theorem dX3_enginesBefore_44 : decode cX3_enginesBefore 44 = .ok (.iload 4, 2) := by decide +kernel
theorem dX3_enginesBefore_46 : decode cX3_enginesBefore 46 = .ok (.aaload, 1) := by decide +kernel
theorem dX3_enginesBefore_47 : decode cX3_enginesBefore 47 = .ok (.getfield 238, 3) := by decide +kernel
theorem dX3_enginesBefore_50 : decode cX3_enginesBefore 50 = .ok (.invokevirtual 225, 3) := by decide +kernel
theorem dX3_enginesBefore_53 : decode cX3_enginesBefore 53 = .ok (.istore 5, 2) := by decide +kernel
theorem dX3_enginesBefore_55 : decode cX3_enginesBefore 55 = .ok (.iload 5, 2) := by decide +kernel
theorem dX3_enginesBefore_57 : decode cX3_enginesBefore 57 = .ok (.iload_n 2, 1) := by decide +kernel
theorem dX3_enginesBefore_58 : decode cX3_enginesBefore 58 = .ok (.if_icmp .gt 15, 3) := by decide +kernel
theorem dX3_enginesBefore_61 : decode cX3_enginesBefore 61 = .ok (.iload 5, 2) := by decide +kernel
theorem dX3_enginesBefore_63 : decode cX3_enginesBefore 63 = .ok (.iload_n 2, 1) := by decide +kernel
theorem dX3_enginesBefore_64 : decode cX3_enginesBefore 64 = .ok (.if_icmp .ne 12, 3) := by decide +kernel
theorem dX3_enginesBefore_67 : decode cX3_enginesBefore 67 = .ok (.iload 4, 2) := by decide +kernel
theorem dX3_enginesBefore_69 : decode cX3_enginesBefore 69 = .ok (.iload_n 1, 1) := by decide +kernel
theorem dX3_enginesBefore_70 : decode cX3_enginesBefore 70 = .ok (.if_icmp .ge 6, 3) := by decide +kernel
theorem dX3_enginesBefore_73 : decode cX3_enginesBefore 73 = .ok (.iinc 3 1, 3) := by decide +kernel
theorem dX3_enginesBefore_76 : decode cX3_enginesBefore 76 = .ok (.iinc 4 1, 3) := by decide +kernel
theorem dX3_enginesBefore_79 : decode cX3_enginesBefore 79 = .ok (.goto (-55), 3) := by decide +kernel
theorem dX3_enginesBefore_82 : decode cX3_enginesBefore 82 = .ok (.iload_n 3, 1) := by decide +kernel
theorem dX3_enginesBefore_83 : decode cX3_enginesBefore 83 = .ok (.ireturn, 1) := by decide +kernel
theorem dX4_init_0 : decode cX4_init 0 = .ok (.aload_n 0, 1) := by decide +kernel
theorem dX4_init_1 : decode cX4_init 1 = .ok (.invokespecial 3, 3) := by decide +kernel
theorem dX4_init_4 : decode cX4_init 4 = .ok (.aload_n 0, 1) := by decide +kernel
theorem dX4_init_5 : decode cX4_init 5 = .ok (.bipush 12, 2) := by decide +kernel
theorem dX4_init_7 : decode cX4_init 7 = .ok (.newarray .int, 2) := by decide +kernel
theorem dX4_init_9 : decode cX4_init 9 = .ok (.putfield 9, 3) := by decide +kernel
theorem dX4_init_12 : decode cX4_init 12 = .ok (.aload_n 0, 1) := by decide +kernel
theorem dX4_init_13 : decode cX4_init 13 = .ok (.bipush 12, 2) := by decide +kernel
theorem dX4_init_15 : decode cX4_init 15 = .ok (.newarray .int, 2) := by decide +kernel
theorem dX4_init_17 : decode cX4_init 17 = .ok (.putfield 15, 3) := by decide +kernel
theorem dX4_init_20 : decode cX4_init 20 = .ok (.return_, 1) := by decide +kernel
theorem dX4_become_0 : decode cX4_become 0 = .ok (.aload_n 1, 1) := by decide +kernel
theorem dX4_become_1 : decode cX4_become 1 = .ok (.getfield 9, 3) := by decide +kernel
theorem dX4_become_4 : decode cX4_become 4 = .ok (.iconst 0, 1) := by decide +kernel
theorem dX4_become_5 : decode cX4_become 5 = .ok (.aload_n 0, 1) := by decide +kernel
theorem dX4_become_6 : decode cX4_become 6 = .ok (.getfield 9, 3) := by decide +kernel
theorem dX4_become_9 : decode cX4_become 9 = .ok (.iconst 0, 1) := by decide +kernel
theorem dX4_become_10 : decode cX4_become 10 = .ok (.bipush 12, 2) := by decide +kernel
theorem dX4_become_12 : decode cX4_become 12 = .ok (.invokestatic 18, 3) := by decide +kernel
theorem dX4_become_15 : decode cX4_become 15 = .ok (.aload_n 1, 1) := by decide +kernel
theorem dX4_become_16 : decode cX4_become 16 = .ok (.getfield 15, 3) := by decide +kernel
theorem dX4_become_19 : decode cX4_become 19 = .ok (.iconst 0, 1) := by decide +kernel
theorem dX4_become_20 : decode cX4_become 20 = .ok (.aload_n 0, 1) := by decide +kernel
theorem dX4_become_21 : decode cX4_become 21 = .ok (.getfield 15, 3) := by decide +kernel
theorem dX4_become_24 : decode cX4_become 24 = .ok (.iconst 0, 1) := by decide +kernel
theorem dX4_become_25 : decode cX4_become 25 = .ok (.bipush 12, 2) := by decide +kernel
theorem dX4_become_27 : decode cX4_become 27 = .ok (.invokestatic 18, 3) := by decide +kernel
theorem dX4_become_30 : decode cX4_become 30 = .ok (.aload_n 0, 1) := by decide +kernel
theorem dX4_become_31 : decode cX4_become 31 = .ok (.aload_n 1, 1) := by decide +kernel
theorem dX4_become_32 : decode cX4_become 32 = .ok (.getfield 24, 3) := by decide +kernel
theorem dX4_become_35 : decode cX4_become 35 = .ok (.putfield 24, 3) := by decide +kernel
theorem dX4_become_38 : decode cX4_become 38 = .ok (.return_, 1) := by decide +kernel
theorem dX4_note_0 : decode cX4_note 0 = .ok (.iload_n 2, 1) := by decide +kernel
theorem dX4_note_1 : decode cX4_note 1 = .ok (.ifCond .ne 4, 3) := by decide +kernel
theorem dX4_note_4 : decode cX4_note 4 = .ok (.return_, 1) := by decide +kernel
theorem dX4_note_5 : decode cX4_note 5 = .ok (.aload_n 0, 1) := by decide +kernel
theorem dX4_note_6 : decode cX4_note 6 = .ok (.getfield 24, 3) := by decide +kernel
theorem dX4_note_9 : decode cX4_note 9 = .ok (.ifCond .eq 18, 3) := by decide +kernel
theorem dX4_note_12 : decode cX4_note 12 = .ok (.aload_n 0, 1) := by decide +kernel
theorem dX4_note_13 : decode cX4_note 13 = .ok (.getfield 9, 3) := by decide +kernel
theorem dX4_note_16 : decode cX4_note 16 = .ok (.aload_n 0, 1) := by decide +kernel
theorem dX4_note_17 : decode cX4_note 17 = .ok (.getfield 24, 3) := by decide +kernel
theorem dX4_note_20 : decode cX4_note 20 = .ok (.iconst 1, 1) := by decide +kernel
theorem dX4_note_21 : decode cX4_note 21 = .ok (.isub, 1) := by decide +kernel
theorem dX4_note_22 : decode cX4_note 22 = .ok (.iaload, 1) := by decide +kernel
theorem dX4_note_23 : decode cX4_note 23 = .ok (.iload_n 1, 1) := by decide +kernel
theorem dX4_note_24 : decode cX4_note 24 = .ok (.if_icmp .eq 8, 3) := by decide +kernel
theorem dX4_note_27 : decode cX4_note 27 = .ok (.aload_n 0, 1) := by decide +kernel
theorem dX4_note_28 : decode cX4_note 28 = .ok (.iload_n 1, 1) := by decide +kernel
theorem dX4_note_29 : decode cX4_note 29 = .ok (.invokevirtual 28, 3) := by decide +kernel
theorem dX4_note_32 : decode cX4_note 32 = .ok (.aload_n 0, 1) := by decide +kernel
theorem dX4_note_33 : decode cX4_note 33 = .ok (.getfield 15, 3) := by decide +kernel
theorem dX4_note_36 : decode cX4_note 36 = .ok (.aload_n 0, 1) := by decide +kernel
theorem dX4_note_37 : decode cX4_note 37 = .ok (.getfield 24, 3) := by decide +kernel
theorem dX4_note_40 : decode cX4_note 40 = .ok (.iconst 1, 1) := by decide +kernel
theorem dX4_note_41 : decode cX4_note 41 = .ok (.isub, 1) := by decide +kernel
theorem dX4_note_42 : decode cX4_note 42 = .ok (.dup2, 1) := by decide +kernel
theorem dX4_note_43 : decode cX4_note 43 = .ok (.iaload, 1) := by decide +kernel
theorem dX4_note_44 : decode cX4_note 44 = .ok (.iload_n 2, 1) := by decide +kernel
theorem dX4_note_45 : decode cX4_note 45 = .ok (.iadd, 1) := by decide +kernel
theorem dX4_note_46 : decode cX4_note 46 = .ok (.iastore, 1) := by decide +kernel
theorem dX4_note_47 : decode cX4_note 47 = .ok (.return_, 1) := by decide +kernel
theorem dX4_openHour_0 : decode cX4_openHour 0 = .ok (.aload_n 0, 1) := by decide +kernel
theorem dX4_openHour_1 : decode cX4_openHour 1 = .ok (.getfield 24, 3) := by decide +kernel
theorem dX4_openHour_4 : decode cX4_openHour 4 = .ok (.bipush 12, 2) := by decide +kernel
theorem dX4_openHour_6 : decode cX4_openHour 6 = .ok (.if_icmp .ne 43, 3) := by decide +kernel
theorem dX4_openHour_9 : decode cX4_openHour 9 = .ok (.aload_n 0, 1) := by decide +kernel
theorem dX4_openHour_10 : decode cX4_openHour 10 = .ok (.getfield 9, 3) := by decide +kernel
theorem dX4_openHour_13 : decode cX4_openHour 13 = .ok (.iconst 1, 1) := by decide +kernel
theorem dX4_openHour_14 : decode cX4_openHour 14 = .ok (.aload_n 0, 1) := by decide +kernel
theorem dX4_openHour_15 : decode cX4_openHour 15 = .ok (.getfield 9, 3) := by decide +kernel
theorem dX4_openHour_18 : decode cX4_openHour 18 = .ok (.iconst 0, 1) := by decide +kernel
theorem dX4_openHour_19 : decode cX4_openHour 19 = .ok (.bipush 11, 2) := by decide +kernel
theorem dX4_openHour_21 : decode cX4_openHour 21 = .ok (.invokestatic 18, 3) := by decide +kernel
theorem dX4_openHour_24 : decode cX4_openHour 24 = .ok (.aload_n 0, 1) := by decide +kernel
theorem dX4_openHour_25 : decode cX4_openHour 25 = .ok (.getfield 15, 3) := by decide +kernel
theorem dX4_openHour_28 : decode cX4_openHour 28 = .ok (.iconst 1, 1) := by decide +kernel
theorem dX4_openHour_29 : decode cX4_openHour 29 = .ok (.aload_n 0, 1) := by decide +kernel
theorem dX4_openHour_30 : decode cX4_openHour 30 = .ok (.getfield 15, 3) := by decide +kernel
theorem dX4_openHour_33 : decode cX4_openHour 33 = .ok (.iconst 0, 1) := by decide +kernel
theorem dX4_openHour_34 : decode cX4_openHour 34 = .ok (.bipush 11, 2) := by decide +kernel
theorem dX4_openHour_36 : decode cX4_openHour 36 = .ok (.invokestatic 18, 3) := by decide +kernel
theorem dX4_openHour_39 : decode cX4_openHour 39 = .ok (.aload_n 0, 1) := by decide +kernel
theorem dX4_openHour_40 : decode cX4_openHour 40 = .ok (.dup, 1) := by decide +kernel
theorem dX4_openHour_41 : decode cX4_openHour 41 = .ok (.getfield 24, 3) := by decide +kernel
theorem dX4_openHour_44 : decode cX4_openHour 44 = .ok (.iconst 1, 1) := by decide +kernel
theorem dX4_openHour_45 : decode cX4_openHour 45 = .ok (.isub, 1) := by decide +kernel
theorem dX4_openHour_46 : decode cX4_openHour 46 = .ok (.putfield 24, 3) := by decide +kernel
theorem dX4_openHour_49 : decode cX4_openHour 49 = .ok (.aload_n 0, 1) := by decide +kernel
theorem dX4_openHour_50 : decode cX4_openHour 50 = .ok (.getfield 9, 3) := by decide +kernel
theorem dX4_openHour_53 : decode cX4_openHour 53 = .ok (.aload_n 0, 1) := by decide +kernel
theorem dX4_openHour_54 : decode cX4_openHour 54 = .ok (.getfield 24, 3) := by decide +kernel
theorem dX4_openHour_57 : decode cX4_openHour 57 = .ok (.iload_n 1, 1) := by decide +kernel
theorem dX4_openHour_58 : decode cX4_openHour 58 = .ok (.iastore, 1) := by decide +kernel
theorem dX4_openHour_59 : decode cX4_openHour 59 = .ok (.aload_n 0, 1) := by decide +kernel
theorem dX4_openHour_60 : decode cX4_openHour 60 = .ok (.getfield 15, 3) := by decide +kernel
theorem dX4_openHour_63 : decode cX4_openHour 63 = .ok (.aload_n 0, 1) := by decide +kernel
theorem dX4_openHour_64 : decode cX4_openHour 64 = .ok (.getfield 24, 3) := by decide +kernel
theorem dX4_openHour_67 : decode cX4_openHour 67 = .ok (.iconst 0, 1) := by decide +kernel
theorem dX4_openHour_68 : decode cX4_openHour 68 = .ok (.iastore, 1) := by decide +kernel
theorem dX4_openHour_69 : decode cX4_openHour 69 = .ok (.aload_n 0, 1) := by decide +kernel
theorem dX4_openHour_70 : decode cX4_openHour 70 = .ok (.dup, 1) := by decide +kernel
theorem dX4_openHour_71 : decode cX4_openHour 71 = .ok (.getfield 24, 3) := by decide +kernel
theorem dX4_openHour_74 : decode cX4_openHour 74 = .ok (.iconst 1, 1) := by decide +kernel
theorem dX4_openHour_75 : decode cX4_openHour 75 = .ok (.iadd, 1) := by decide +kernel
theorem dX4_openHour_76 : decode cX4_openHour 76 = .ok (.putfield 24, 3) := by decide +kernel
theorem dX4_openHour_79 : decode cX4_openHour 79 = .ok (.return_, 1) := by decide +kernel
theorem dX4_placeFrom_0 : decode cX4_placeFrom 0 = .ok (.iconst 0, 1) := by decide +kernel
theorem dX4_placeFrom_1 : decode cX4_placeFrom 1 = .ok (.istore_n 2, 1) := by decide +kernel
theorem dX4_placeFrom_2 : decode cX4_placeFrom 2 = .ok (.iload_n 2, 1) := by decide +kernel
theorem dX4_placeFrom_3 : decode cX4_placeFrom 3 = .ok (.aload_n 0, 1) := by decide +kernel
theorem dX4_placeFrom_4 : decode cX4_placeFrom 4 = .ok (.getfield 24, 3) := by decide +kernel
theorem dX4_placeFrom_7 : decode cX4_placeFrom 7 = .ok (.if_icmp .ge 19, 3) := by decide +kernel
theorem dX4_placeFrom_10 : decode cX4_placeFrom 10 = .ok (.aload_n 0, 1) := by decide +kernel
theorem dX4_placeFrom_11 : decode cX4_placeFrom 11 = .ok (.getfield 9, 3) := by decide +kernel
theorem dX4_placeFrom_14 : decode cX4_placeFrom 14 = .ok (.iload_n 2, 1) := by decide +kernel
theorem dX4_placeFrom_15 : decode cX4_placeFrom 15 = .ok (.iaload, 1) := by decide +kernel
theorem dX4_placeFrom_16 : decode cX4_placeFrom 16 = .ok (.iload_n 1, 1) := by decide +kernel
theorem dX4_placeFrom_17 : decode cX4_placeFrom 17 = .ok (.if_icmp .ge 9, 3) := by decide +kernel
theorem dX4_placeFrom_20 : decode cX4_placeFrom 20 = .ok (.iinc 2 1, 3) := by decide +kernel
theorem dX4_placeFrom_23 : decode cX4_placeFrom 23 = .ok (.goto (-21), 3) := by decide +kernel
theorem dX4_placeFrom_26 : decode cX4_placeFrom 26 = .ok (.iload_n 2, 1) := by decide +kernel
theorem dX4_placeFrom_27 : decode cX4_placeFrom 27 = .ok (.ireturn, 1) := by decide +kernel
theorem dX5_init_0 : decode cX5_init 0 = .ok (.aload_n 0, 1) := by decide +kernel
theorem dX5_init_1 : decode cX5_init 1 = .ok (.invokespecial 3, 3) := by decide +kernel
theorem dX5_init_4 : decode cX5_init 4 = .ok (.aload_n 0, 1) := by decide +kernel
theorem dX5_init_5 : decode cX5_init 5 = .ok (.bipush 19, 2) := by decide +kernel
theorem dX5_init_7 : decode cX5_init 7 = .ok (.newarray .char, 2) := by decide +kernel
theorem dX5_init_9 : decode cX5_init 9 = .ok (.putfield 9, 3) := by decide +kernel
theorem dX5_init_12 : decode cX5_init 12 = .ok (.return_, 1) := by decide +kernel
theorem dX5_empty_0 : decode cX5_empty 0 = .ok (.aload_n 0, 1) := by decide +kernel
theorem dX5_empty_1 : decode cX5_empty 1 = .ok (.iconst 0, 1) := by decide +kernel
theorem dX5_empty_2 : decode cX5_empty 2 = .ok (.putfield 15, 3) := by decide +kernel
theorem dX5_empty_5 : decode cX5_empty 5 = .ok (.return_, 1) := by decide +kernel
theorem dX5_write_0 : decode cX5_write 0 = .ok (.aload_n 0, 1) := by decide +kernel
theorem dX5_write_1 : decode cX5_write 1 = .ok (.getfield 15, 3) := by decide +kernel
theorem dX5_write_4 : decode cX5_write 4 = .ok (.aload_n 0, 1) := by decide +kernel
theorem dX5_write_5 : decode cX5_write 5 = .ok (.getfield 9, 3) := by decide +kernel
theorem dX5_write_8 : decode cX5_write 8 = .ok (.arraylength, 1) := by decide +kernel
theorem dX5_write_9 : decode cX5_write 9 = .ok (.if_icmp .ge 23, 3) := by decide +kernel
theorem dX5_write_12 : decode cX5_write 12 = .ok (.aload_n 0, 1) := by decide +kernel
theorem dX5_write_13 : decode cX5_write 13 = .ok (.getfield 9, 3) := by decide +kernel
theorem dX5_write_16 : decode cX5_write 16 = .ok (.aload_n 0, 1) := by decide +kernel
theorem dX5_write_17 : decode cX5_write 17 = .ok (.getfield 15, 3) := by decide +kernel
theorem dX5_write_20 : decode cX5_write 20 = .ok (.iload_n 1, 1) := by decide +kernel
theorem dX5_write_21 : decode cX5_write 21 = .ok (.castore, 1) := by decide +kernel
theorem dX5_write_22 : decode cX5_write 22 = .ok (.aload_n 0, 1) := by decide +kernel
theorem dX5_write_23 : decode cX5_write 23 = .ok (.dup, 1) := by decide +kernel
theorem dX5_write_24 : decode cX5_write 24 = .ok (.getfield 15, 3) := by decide +kernel
theorem dX5_write_27 : decode cX5_write 27 = .ok (.iconst 1, 1) := by decide +kernel
theorem dX5_write_28 : decode cX5_write 28 = .ok (.iadd, 1) := by decide +kernel
theorem dX5_write_29 : decode cX5_write 29 = .ok (.putfield 15, 3) := by decide +kernel
theorem dX5_write_32 : decode cX5_write 32 = .ok (.return_, 1) := by decide +kernel
theorem dX5_writeDigit_0 : decode cX5_writeDigit 0 = .ok (.aload_n 0, 1) := by decide +kernel
theorem dX5_writeDigit_1 : decode cX5_writeDigit 1 = .ok (.bipush 48, 2) := by decide +kernel
theorem dX5_writeDigit_3 : decode cX5_writeDigit 3 = .ok (.iload_n 1, 1) := by decide +kernel
theorem dX5_writeDigit_4 : decode cX5_writeDigit 4 = .ok (.iadd, 1) := by decide +kernel
theorem dX5_writeDigit_5 : decode cX5_writeDigit 5 = .ok (.i2c, 1) := by decide +kernel
theorem dX5_writeDigit_6 : decode cX5_writeDigit 6 = .ok (.invokevirtual 19, 3) := by decide +kernel
theorem dX5_writeDigit_9 : decode cX5_writeDigit 9 = .ok (.return_, 1) := by decide +kernel
theorem dX6_init_0 : decode cX6_init 0 = .ok (.aload_n 0, 1) := by decide +kernel
theorem dX6_init_1 : decode cX6_init 1 = .ok (.invokespecial 3, 3) := by decide +kernel
theorem dX6_init_4 : decode cX6_init 4 = .ok (.aload_n 0, 1) := by decide +kernel
theorem dX6_init_5 : decode cX6_init 5 = .ok (.bipush 8, 2) := by decide +kernel
theorem dX6_init_7 : decode cX6_init 7 = .ok (.anewarray 9, 3) := by decide +kernel
theorem dX6_init_10 : decode cX6_init 10 = .ok (.putfield 11, 3) := by decide +kernel
theorem dX6_init_13 : decode cX6_init 13 = .ok (.iconst 0, 1) := by decide +kernel
theorem dX6_init_14 : decode cX6_init 14 = .ok (.istore_n 1, 1) := by decide +kernel
theorem dX6_init_15 : decode cX6_init 15 = .ok (.iload_n 1, 1) := by decide +kernel
theorem dX6_init_16 : decode cX6_init 16 = .ok (.bipush 8, 2) := by decide +kernel
theorem dX6_init_18 : decode cX6_init 18 = .ok (.if_icmp .ge 22, 3) := by decide +kernel
theorem dX6_init_21 : decode cX6_init 21 = .ok (.aload_n 0, 1) := by decide +kernel
theorem dX6_init_22 : decode cX6_init 22 = .ok (.getfield 11, 3) := by decide +kernel
theorem dX6_init_25 : decode cX6_init 25 = .ok (.iload_n 1, 1) := by decide +kernel
theorem dX6_init_26 : decode cX6_init 26 = .ok (.new 9, 3) := by decide +kernel
theorem dX6_init_29 : decode cX6_init 29 = .ok (.dup, 1) := by decide +kernel
theorem dX6_init_30 : decode cX6_init 30 = .ok (.invokespecial 17, 3) := by decide +kernel
theorem dX6_init_33 : decode cX6_init 33 = .ok (.aastore, 1) := by decide +kernel
theorem dX6_init_34 : decode cX6_init 34 = .ok (.iinc 1 1, 3) := by decide +kernel
theorem dX6_init_37 : decode cX6_init 37 = .ok (.goto (-22), 3) := by decide +kernel
theorem dX6_init_40 : decode cX6_init 40 = .ok (.return_, 1) := by decide +kernel
theorem dX6_keep_0 : decode cX6_keep 0 = .ok (.aload_n 0, 1) := by decide +kernel
theorem dX6_keep_1 : decode cX6_keep 1 = .ok (.getfield 11, 3) := by decide +kernel
theorem dX6_keep_4 : decode cX6_keep 4 = .ok (.aload_n 0, 1) := by decide +kernel
theorem dX6_keep_5 : decode cX6_keep 5 = .ok (.getfield 18, 3) := by decide +kernel
theorem dX6_keep_8 : decode cX6_keep 8 = .ok (.aaload, 1) := by decide +kernel
theorem dX6_keep_9 : decode cX6_keep 9 = .ok (.aload_n 1, 1) := by decide +kernel
theorem dX6_keep_10 : decode cX6_keep 10 = .ok (.invokevirtual 22, 3) := by decide +kernel
theorem dX6_keep_13 : decode cX6_keep 13 = .ok (.aload_n 0, 1) := by decide +kernel
theorem dX6_keep_14 : decode cX6_keep 14 = .ok (.aload_n 0, 1) := by decide +kernel
theorem dX6_keep_15 : decode cX6_keep 15 = .ok (.getfield 18, 3) := by decide +kernel
theorem dX6_keep_18 : decode cX6_keep 18 = .ok (.iconst 1, 1) := by decide +kernel
theorem dX6_keep_19 : decode cX6_keep 19 = .ok (.iadd, 1) := by decide +kernel
theorem dX6_keep_20 : decode cX6_keep 20 = .ok (.bipush 8, 2) := by decide +kernel
theorem dX6_keep_22 : decode cX6_keep 22 = .ok (.irem, 1) := by decide +kernel
theorem dX6_keep_23 : decode cX6_keep 23 = .ok (.putfield 18, 3) := by decide +kernel
theorem dX6_keep_26 : decode cX6_keep 26 = .ok (.aload_n 0, 1) := by decide +kernel
theorem dX6_keep_27 : decode cX6_keep 27 = .ok (.aload_n 0, 1) := by decide +kernel
theorem dX6_keep_28 : decode cX6_keep 28 = .ok (.getfield 26, 3) := by decide +kernel
theorem dX6_keep_31 : decode cX6_keep 31 = .ok (.iconst 1, 1) := by decide +kernel
theorem dX6_keep_32 : decode cX6_keep 32 = .ok (.iadd, 1) := by decide +kernel
theorem dX6_keep_33 : decode cX6_keep 33 = .ok (.bipush 8, 2) := by decide +kernel
theorem dX6_keep_35 : decode cX6_keep 35 = .ok (.invokestatic 29, 3) := by decide +kernel
theorem dX6_keep_38 : decode cX6_keep 38 = .ok (.putfield 26, 3) := by decide +kernel
theorem dX6_keep_41 : decode cX6_keep 41 = .ok (.return_, 1) := by decide +kernel
theorem dX6_takeBack_0 : decode cX6_takeBack 0 = .ok (.aload_n 0, 1) := by decide +kernel
theorem dX6_takeBack_1 : decode cX6_takeBack 1 = .ok (.aload_n 0, 1) := by decide +kernel
theorem dX6_takeBack_2 : decode cX6_takeBack 2 = .ok (.getfield 18, 3) := by decide +kernel
theorem dX6_takeBack_5 : decode cX6_takeBack 5 = .ok (.bipush 8, 2) := by decide +kernel
theorem dX6_takeBack_7 : decode cX6_takeBack 7 = .ok (.iadd, 1) := by decide +kernel
theorem dX6_takeBack_8 : decode cX6_takeBack 8 = .ok (.iconst 1, 1) := by decide +kernel
theorem dX6_takeBack_9 : decode cX6_takeBack 9 = .ok (.isub, 1) := by decide +kernel
theorem dX6_takeBack_10 : decode cX6_takeBack 10 = .ok (.bipush 8, 2) := by decide +kernel
theorem dX6_takeBack_12 : decode cX6_takeBack 12 = .ok (.irem, 1) := by decide +kernel
theorem dX6_takeBack_13 : decode cX6_takeBack 13 = .ok (.putfield 18, 3) := by decide +kernel
theorem dX6_takeBack_16 : decode cX6_takeBack 16 = .ok (.aload_n 1, 1) := by decide +kernel
theorem dX6_takeBack_17 : decode cX6_takeBack 17 = .ok (.aload_n 0, 1) := by decide +kernel
theorem dX6_takeBack_18 : decode cX6_takeBack 18 = .ok (.getfield 11, 3) := by decide +kernel
theorem dX6_takeBack_21 : decode cX6_takeBack 21 = .ok (.aload_n 0, 1) := by decide +kernel
theorem dX6_takeBack_22 : decode cX6_takeBack 22 = .ok (.getfield 18, 3) := by decide +kernel
theorem dX6_takeBack_25 : decode cX6_takeBack 25 = .ok (.aaload, 1) := by decide +kernel
theorem dX6_takeBack_26 : decode cX6_takeBack 26 = .ok (.invokevirtual 22, 3) := by decide +kernel
theorem dX6_takeBack_29 : decode cX6_takeBack 29 = .ok (.aload_n 0, 1) := by decide +kernel
theorem dX6_takeBack_30 : decode cX6_takeBack 30 = .ok (.dup, 1) := by decide +kernel
theorem dX6_takeBack_31 : decode cX6_takeBack 31 = .ok (.getfield 26, 3) := by decide +kernel
theorem dX6_takeBack_34 : decode cX6_takeBack 34 = .ok (.iconst 1, 1) := by decide +kernel
theorem dX6_takeBack_35 : decode cX6_takeBack 35 = .ok (.isub, 1) := by decide +kernel
theorem dX6_takeBack_36 : decode cX6_takeBack 36 = .ok (.putfield 26, 3) := by decide +kernel
theorem dX6_takeBack_39 : decode cX6_takeBack 39 = .ok (.aload_n 0, 1) := by decide +kernel
theorem dX6_takeBack_40 : decode cX6_takeBack 40 = .ok (.getfield 26, 3) := by decide +kernel
theorem dX6_takeBack_43 : decode cX6_takeBack 43 = .ok (.ireturn, 1) := by decide +kernel
theorem dX6_forget_0 : decode cX6_forget 0 = .ok (.aload_n 0, 1) := by decide +kernel
theorem dX6_forget_1 : decode cX6_forget 1 = .ok (.iconst 0, 1) := by decide +kernel
theorem dX6_forget_2 : decode cX6_forget 2 = .ok (.putfield 26, 3) := by decide +kernel
theorem dX6_forget_5 : decode cX6_forget 5 = .ok (.return_, 1) := by decide +kernel
theorem dX7_init_0 : decode cX7_init 0 = .ok (.aload_n 0, 1) := by decide +kernel
theorem dX7_init_1 : decode cX7_init 1 = .ok (.invokespecial 3, 3) := by decide +kernel
theorem dX7_init_4 : decode cX7_init 4 = .ok (.aload_n 0, 1) := by decide +kernel
theorem dX7_init_5 : decode cX7_init 5 = .ok (.bipush 8, 2) := by decide +kernel
theorem dX7_init_7 : decode cX7_init 7 = .ok (.newarray .int, 2) := by decide +kernel
theorem dX7_init_9 : decode cX7_init 9 = .ok (.putfield 9, 3) := by decide +kernel
theorem dX7_init_12 : decode cX7_init 12 = .ok (.aload_n 0, 1) := by decide +kernel
theorem dX7_init_13 : decode cX7_init 13 = .ok (.sipush 256, 3) := by decide +kernel
theorem dX7_init_16 : decode cX7_init 16 = .ok (.newarray .int, 2) := by decide +kernel
theorem dX7_init_18 : decode cX7_init 18 = .ok (.putfield 15, 3) := by decide +kernel
theorem dX7_init_21 : decode cX7_init 21 = .ok (.return_, 1) := by decide +kernel
theorem dX7_leastByQueue_0 : decode cX7_leastByQueue 0 = .ok (.iconst 0, 1) := by decide +kernel
theorem dX7_leastByQueue_1 : decode cX7_leastByQueue 1 = .ok (.istore_n 2, 1) := by decide +kernel
theorem dX7_leastByQueue_2 : decode cX7_leastByQueue 2 = .ok (.iload_n 2, 1) := by decide +kernel
theorem dX7_leastByQueue_3 : decode cX7_leastByQueue 3 = .ok (.aload_n 1, 1) := by decide +kernel
theorem dX7_leastByQueue_4 : decode cX7_leastByQueue 4 = .ok (.getfield 18, 3) := by decide +kernel
theorem dX7_leastByQueue_7 : decode cX7_leastByQueue 7 = .ok (.if_icmp .ge 15, 3) := by decide +kernel
theorem dX7_leastByQueue_10 : decode cX7_leastByQueue 10 = .ok (.aload_n 0, 1) := by decide +kernel
theorem dX7_leastByQueue_11 : decode cX7_leastByQueue 11 = .ok (.aload_n 1, 1) := by decide +kernel
theorem dX7_leastByQueue_12 : decode cX7_leastByQueue 12 = .ok (.iload_n 2, 1) := by decide +kernel
theorem dX7_leastByQueue_13 : decode cX7_leastByQueue 13 = .ok (.invokevirtual 24, 3) := by decide +kernel
theorem dX7_leastByQueue_16 : decode cX7_leastByQueue 16 = .ok (.iinc 2 1, 3) := by decide +kernel
theorem dX7_leastByQueue_19 : decode cX7_leastByQueue 19 = .ok (.goto (-17), 3) := by decide +kernel
theorem dX7_leastByQueue_22 : decode cX7_leastByQueue 22 = .ok (.iconst 0, 1) := by decide +kernel
theorem dX7_leastByQueue_23 : decode cX7_leastByQueue 23 = .ok (.istore_n 2, 1) := by decide +kernel
theorem dX7_leastByQueue_24 : decode cX7_leastByQueue 24 = .ok (.iconst 0, 1) := by decide +kernel
theorem dX7_leastByQueue_25 : decode cX7_leastByQueue 25 = .ok (.istore_n 3, 1) := by decide +kernel
theorem dX7_leastByQueue_26 : decode cX7_leastByQueue 26 = .ok (.iconst 0, 1) := by decide +kernel
theorem dX7_leastByQueue_27 : decode cX7_leastByQueue 27 = .ok (.istore 4, 2) := by decide +kernel
theorem dX7_leastByQueue_29 : decode cX7_leastByQueue 29 = .ok (.iload 4, 2) := by decide +kernel
theorem dX7_leastByQueue_31 : decode cX7_leastByQueue 31 = .ok (.aload_n 1, 1) := by decide +kernel
theorem dX7_leastByQueue_32 : decode cX7_leastByQueue 32 = .ok (.getfield 18, 3) := by decide +kernel
theorem dX7_leastByQueue_35 : decode cX7_leastByQueue 35 = .ok (.if_icmp .ge 41, 3) := by decide +kernel
theorem dX7_leastByQueue_38 : decode cX7_leastByQueue 38 = .ok (.iload_n 2, 1) := by decide +kernel
theorem dX7_leastByQueue_39 : decode cX7_leastByQueue 39 = .ok (.aload_n 1, 1) := by decide +kernel
theorem dX7_leastByQueue_40 : decode cX7_leastByQueue 40 = .ok (.getfield 28, 3) := by decide +kernel
theorem dX7_leastByQueue_43 : decode cX7_leastByQueue 43 = .ok (.aload_n 0, 1) := by decide +kernel
theorem dX7_leastByQueue_44 : decode cX7_leastByQueue 44 = .ok (.getfield 9, 3) := by decide +kernel
theorem dX7_leastByQueue_47 : decode cX7_leastByQueue 47 = .ok (.iload 4, 2) := by decide +kernel
theorem dX7_leastByQueue_49 : decode cX7_leastByQueue 49 = .ok (.iaload, 1) := by decide +kernel
theorem dX7_leastByQueue_50 : decode cX7_leastByQueue 50 = .ok (.iaload, 1) := by decide +kernel
theorem dX7_leastByQueue_51 : decode cX7_leastByQueue 51 = .ok (.iadd, 1) := by decide +kernel
theorem dX7_leastByQueue_52 : decode cX7_leastByQueue 52 = .ok (.istore_n 2, 1) := by decide +kernel
theorem dX7_leastByQueue_53 : decode cX7_leastByQueue 53 = .ok (.iload_n 3, 1) := by decide +kernel
theorem dX7_leastByQueue_54 : decode cX7_leastByQueue 54 = .ok (.aload_n 1, 1) := by decide +kernel
theorem dX7_leastByQueue_55 : decode cX7_leastByQueue 55 = .ok (.getfield 31, 3) := by decide +kernel
theorem dX7_leastByQueue_58 : decode cX7_leastByQueue 58 = .ok (.aload_n 0, 1) := by decide +kernel
theorem dX7_leastByQueue_59 : decode cX7_leastByQueue 59 = .ok (.getfield 9, 3) := by decide +kernel
theorem dX7_leastByQueue_62 : decode cX7_leastByQueue 62 = .ok (.iload 4, 2) := by decide +kernel
theorem dX7_leastByQueue_64 : decode cX7_leastByQueue 64 = .ok (.iaload, 1) := by decide +kernel
theorem dX7_leastByQueue_65 : decode cX7_leastByQueue 65 = .ok (.iaload, 1) := by decide +kernel
theorem dX7_leastByQueue_66 : decode cX7_leastByQueue 66 = .ok (.iload_n 2, 1) := by decide +kernel
theorem dX7_leastByQueue_67 : decode cX7_leastByQueue 67 = .ok (.imul, 1) := by decide +kernel
theorem dX7_leastByQueue_68 : decode cX7_leastByQueue 68 = .ok (.iadd, 1) := by decide +kernel
theorem dX7_leastByQueue_69 : decode cX7_leastByQueue 69 = .ok (.istore_n 3, 1) := by decide +kernel
theorem dX7_leastByQueue_70 : decode cX7_leastByQueue 70 = .ok (.iinc 4 1, 3) := by decide +kernel
theorem dX7_leastByQueue_73 : decode cX7_leastByQueue 73 = .ok (.goto (-44), 3) := by decide +kernel
theorem dX7_leastByQueue_76 : decode cX7_leastByQueue 76 = .ok (.iload_n 3, 1) := by decide +kernel
theorem dX7_leastByQueue_77 : decode cX7_leastByQueue 77 = .ok (.ireturn, 1) := by decide +kernel
theorem dX7_queueUp_0 : decode cX7_queueUp 0 = .ok (.iload_n 2, 1) := by decide +kernel
theorem dX7_queueUp_1 : decode cX7_queueUp 1 = .ok (.istore_n 3, 1) := by decide +kernel
theorem dX7_queueUp_2 : decode cX7_queueUp 2 = .ok (.iload_n 3, 1) := by decide +kernel
theorem dX7_queueUp_3 : decode cX7_queueUp 3 = .ok (.ifCond .le 39, 3) := by decide +kernel
theorem dX7_queueUp_6 : decode cX7_queueUp 6 = .ok (.aload_n 1, 1) := by decide +kernel
theorem dX7_queueUp_7 : decode cX7_queueUp 7 = .ok (.iload_n 2, 1) := by decide +kernel
theorem dX7_queueUp_8 : decode cX7_queueUp 8 = .ok (.aload_n 0, 1) := by decide +kernel
theorem dX7_queueUp_9 : decode cX7_queueUp 9 = .ok (.getfield 9, 3) := by decide +kernel
theorem dX7_queueUp_12 : decode cX7_queueUp 12 = .ok (.iload_n 3, 1) := by decide +kernel
theorem dX7_queueUp_13 : decode cX7_queueUp 13 = .ok (.iconst 1, 1) := by decide +kernel
theorem dX7_queueUp_14 : decode cX7_queueUp 14 = .ok (.isub, 1) := by decide +kernel
theorem dX7_queueUp_15 : decode cX7_queueUp 15 = .ok (.iaload, 1) := by decide +kernel
theorem dX7_queueUp_16 : decode cX7_queueUp 16 = .ok (.invokevirtual 34, 3) := by decide +kernel
theorem dX7_queueUp_19 : decode cX7_queueUp 19 = .ok (.ifCond .eq 23, 3) := by decide +kernel
theorem dX7_queueUp_22 : decode cX7_queueUp 22 = .ok (.aload_n 0, 1) := by decide +kernel
theorem dX7_queueUp_23 : decode cX7_queueUp 23 = .ok (.getfield 9, 3) := by decide +kernel
theorem dX7_queueUp_26 : decode cX7_queueUp 26 = .ok (.iload_n 3, 1) := by decide +kernel
theorem dX7_queueUp_27 : decode cX7_queueUp 27 = .ok (.aload_n 0, 1) := by decide +kernel
theorem dX7_queueUp_28 : decode cX7_queueUp 28 = .ok (.getfield 9, 3) := by decide +kernel
theorem dX7_queueUp_31 : decode cX7_queueUp 31 = .ok (.iload_n 3, 1) := by decide +kernel
theorem dX7_queueUp_32 : decode cX7_queueUp 32 = .ok (.iconst 1, 1) := by decide +kernel
theorem dX7_queueUp_33 : decode cX7_queueUp 33 = .ok (.isub, 1) := by decide +kernel
theorem dX7_queueUp_34 : decode cX7_queueUp 34 = .ok (.iaload, 1) := by decide +kernel
theorem dX7_queueUp_35 : decode cX7_queueUp 35 = .ok (.iastore, 1) := by decide +kernel
theorem dX7_queueUp_36 : decode cX7_queueUp 36 = .ok (.iinc 3 (-1), 3) := by decide +kernel
theorem dX7_queueUp_39 : decode cX7_queueUp 39 = .ok (.goto (-37), 3) := by decide +kernel
theorem dX7_queueUp_42 : decode cX7_queueUp 42 = .ok (.aload_n 0, 1) := by decide +kernel
theorem dX7_queueUp_43 : decode cX7_queueUp 43 = .ok (.getfield 9, 3) := by decide +kernel
theorem dX7_queueUp_46 : decode cX7_queueUp 46 = .ok (.iload_n 3, 1) := by decide +kernel
theorem dX7_queueUp_47 : decode cX7_queueUp 47 = .ok (.iload_n 2, 1) := by decide +kernel
theorem dX7_queueUp_48 : decode cX7_queueUp 48 = .ok (.iastore, 1) := by decide +kernel
theorem dX7_queueUp_49 : decode cX7_queueUp 49 = .ok (.return_, 1) := by decide +kernel
theorem dX7_leastBySets_0 : decode cX7_leastBySets 0 = .ok (.iconst 1, 1) := by decide +kernel
theorem dX7_leastBySets_1 : decode cX7_leastBySets 1 = .ok (.aload_n 1, 1) := by decide +kernel
theorem dX7_leastBySets_2 : decode cX7_leastBySets 2 = .ok (.getfield 18, 3) := by decide +kernel
theorem dX7_leastBySets_5 : decode cX7_leastBySets 5 = .ok (.ishl, 1) := by decide +kernel
theorem dX7_leastBySets_6 : decode cX7_leastBySets 6 = .ok (.istore_n 2, 1) := by decide +kernel
theorem dX7_leastBySets_7 : decode cX7_leastBySets 7 = .ok (.aload_n 0, 1) := by decide +kernel
theorem dX7_leastBySets_8 : decode cX7_leastBySets 8 = .ok (.getfield 15, 3) := by decide +kernel
theorem dX7_leastBySets_11 : decode cX7_leastBySets 11 = .ok (.iconst 0, 1) := by decide +kernel
theorem dX7_leastBySets_12 : decode cX7_leastBySets 12 = .ok (.iconst 0, 1) := by decide +kernel
theorem dX7_leastBySets_13 : decode cX7_leastBySets 13 = .ok (.iastore, 1) := by decide +kernel
theorem dX7_leastBySets_14 : decode cX7_leastBySets 14 = .ok (.iconst 1, 1) := by decide +kernel
theorem dX7_leastBySets_15 : decode cX7_leastBySets 15 = .ok (.istore_n 3, 1) := by decide +kernel
theorem dX7_leastBySets_16 : decode cX7_leastBySets 16 = .ok (.iload_n 3, 1) := by decide +kernel
theorem dX7_leastBySets_17 : decode cX7_leastBySets 17 = .ok (.iload_n 2, 1) := by decide +kernel
theorem dX7_leastBySets_18 : decode cX7_leastBySets 18 = .ok (.if_icmp .ge 21, 3) := by decide +kernel
theorem dX7_leastBySets_21 : decode cX7_leastBySets 21 = .ok (.aload_n 0, 1) := by decide +kernel
theorem dX7_leastBySets_22 : decode cX7_leastBySets 22 = .ok (.getfield 15, 3) := by decide +kernel
theorem dX7_leastBySets_25 : decode cX7_leastBySets 25 = .ok (.iload_n 3, 1) := by decide +kernel
theorem dX7_leastBySets_26 : decode cX7_leastBySets 26 = .ok (.aload_n 0, 1) := by decide +kernel
theorem dX7_leastBySets_27 : decode cX7_leastBySets 27 = .ok (.aload_n 1, 1) := by decide +kernel
theorem dX7_leastBySets_28 : decode cX7_leastBySets 28 = .ok (.iload_n 3, 1) := by decide +kernel
theorem dX7_leastBySets_29 : decode cX7_leastBySets 29 = .ok (.invokevirtual 38, 3) := by decide +kernel
theorem dX7_leastBySets_32 : decode cX7_leastBySets 32 = .ok (.iastore, 1) := by decide +kernel
theorem dX7_leastBySets_33 : decode cX7_leastBySets 33 = .ok (.iinc 3 1, 3) := by decide +kernel
theorem dX7_leastBySets_36 : decode cX7_leastBySets 36 = .ok (.goto (-20), 3) := by decide +kernel
theorem dX7_leastBySets_39 : decode cX7_leastBySets 39 = .ok (.aload_n 0, 1) := by decide +kernel
theorem dX7_leastBySets_40 : decode cX7_leastBySets 40 = .ok (.getfield 15, 3) := by decide +kernel
theorem dX7_leastBySets_43 : decode cX7_leastBySets 43 = .ok (.iload_n 2, 1) := by decide +kernel
theorem dX7_leastBySets_44 : decode cX7_leastBySets 44 = .ok (.iconst 1, 1) := by decide +kernel
theorem dX7_leastBySets_45 : decode cX7_leastBySets 45 = .ok (.isub, 1) := by decide +kernel
theorem dX7_leastBySets_46 : decode cX7_leastBySets 46 = .ok (.iaload, 1) := by decide +kernel
theorem dX7_leastBySets_47 : decode cX7_leastBySets 47 = .ok (.ireturn, 1) := by decide +kernel
theorem dX7_leastOfSet_0 : decode cX7_leastOfSet 0 = .ok (.aload_n 1, 1) := by decide +kernel
theorem dX7_leastOfSet_1 : decode cX7_leastOfSet 1 = .ok (.iload_n 2, 1) := by decide +kernel
theorem dX7_leastOfSet_2 : decode cX7_leastOfSet 2 = .ok (.invokestatic 42, 3) := by decide +kernel
theorem dX7_leastOfSet_5 : decode cX7_leastOfSet 5 = .ok (.istore_n 3, 1) := by decide +kernel
theorem dX7_leastOfSet_6 : decode cX7_leastOfSet 6 = .ok (.iconst (-1), 1) := by decide +kernel
theorem dX7_leastOfSet_7 : decode cX7_leastOfSet 7 = .ok (.istore 4, 2) := by decide +kernel
theorem dX7_leastOfSet_9 : decode cX7_leastOfSet 9 = .ok (.iconst 0, 1) := by decide +kernel
theorem dX7_leastOfSet_10 : decode cX7_leastOfSet 10 = .ok (.istore 5, 2) := by decide +kernel
theorem dX7_leastOfSet_12 : decode cX7_leastOfSet 12 = .ok (.iload 5, 2) := by decide +kernel
theorem dX7_leastOfSet_14 : decode cX7_leastOfSet 14 = .ok (.aload_n 1, 1) := by decide +kernel
theorem dX7_leastOfSet_15 : decode cX7_leastOfSet 15 = .ok (.getfield 18, 3) := by decide +kernel
theorem dX7_leastOfSet_18 : decode cX7_leastOfSet 18 = .ok (.if_icmp .ge 63, 3) := by decide +kernel
theorem dX7_leastOfSet_21 : decode cX7_leastOfSet 21 = .ok (.iconst 1, 1) := by decide +kernel
theorem dX7_leastOfSet_22 : decode cX7_leastOfSet 22 = .ok (.iload 5, 2) := by decide +kernel
theorem dX7_leastOfSet_24 : decode cX7_leastOfSet 24 = .ok (.ishl, 1) := by decide +kernel
theorem dX7_leastOfSet_25 : decode cX7_leastOfSet 25 = .ok (.istore 6, 2) := by decide +kernel
theorem dX7_leastOfSet_27 : decode cX7_leastOfSet 27 = .ok (.iload_n 2, 1) := by decide +kernel
theorem dX7_leastOfSet_28 : decode cX7_leastOfSet 28 = .ok (.iload 6, 2) := by decide +kernel
theorem dX7_leastOfSet_30 : decode cX7_leastOfSet 30 = .ok (.iand, 1) := by decide +kernel
theorem dX7_leastOfSet_31 : decode cX7_leastOfSet 31 = .ok (.ifCond .eq 44, 3) := by decide +kernel
theorem dX7_leastOfSet_34 : decode cX7_leastOfSet 34 = .ok (.aload_n 0, 1) := by decide +kernel
theorem dX7_leastOfSet_35 : decode cX7_leastOfSet 35 = .ok (.getfield 15, 3) := by decide +kernel
theorem dX7_leastOfSet_38 : decode cX7_leastOfSet 38 = .ok (.iload_n 2, 1) := by decide +kernel
theorem dX7_leastOfSet_39 : decode cX7_leastOfSet 39 = .ok (.iload 6, 2) := by decide +kernel
theorem dX7_leastOfSet_41 : decode cX7_leastOfSet 41 = .ok (.isub, 1) := by decide +kernel
theorem dX7_leastOfSet_42 : decode cX7_leastOfSet 42 = .ok (.iaload, 1) := by decide +kernel
theorem dX7_leastOfSet_43 : decode cX7_leastOfSet 43 = .ok (.aload_n 1, 1) := by decide +kernel
theorem dX7_leastOfSet_44 : decode cX7_leastOfSet 44 = .ok (.getfield 31, 3) := by decide +kernel
theorem dX7_leastOfSet_47 : decode cX7_leastOfSet 47 = .ok (.iload 5, 2) := by decide +kernel
theorem dX7_leastOfSet_49 : decode cX7_leastOfSet 49 = .ok (.iaload, 1) := by decide +kernel
theorem dX7_leastOfSet_50 : decode cX7_leastOfSet 50 = .ok (.iload_n 3, 1) := by decide +kernel
theorem dX7_leastOfSet_51 : decode cX7_leastOfSet 51 = .ok (.imul, 1) := by decide +kernel
theorem dX7_leastOfSet_52 : decode cX7_leastOfSet 52 = .ok (.iadd, 1) := by decide +kernel
theorem dX7_leastOfSet_53 : decode cX7_leastOfSet 53 = .ok (.istore 7, 2) := by decide +kernel
theorem dX7_leastOfSet_55 : decode cX7_leastOfSet 55 = .ok (.iload 4, 2) := by decide +kernel
theorem dX7_leastOfSet_57 : decode cX7_leastOfSet 57 = .ok (.iconst (-1), 1) := by decide +kernel
theorem dX7_leastOfSet_58 : decode cX7_leastOfSet 58 = .ok (.if_icmp .ne 8, 3) := by decide +kernel
theorem dX7_leastOfSet_61 : decode cX7_leastOfSet 61 = .ok (.iload 7, 2) := by decide +kernel
theorem dX7_leastOfSet_63 : decode cX7_leastOfSet 63 = .ok (.goto 10, 3) := by decide +kernel
theorem dX7_leastOfSet_66 : decode cX7_leastOfSet 66 = .ok (.iload 4, 2) := by decide +kernel
theorem dX7_leastOfSet_68 : decode cX7_leastOfSet 68 = .ok (.iload 7, 2) := by decide +kernel
theorem dX7_leastOfSet_70 : decode cX7_leastOfSet 70 = .ok (.invokestatic 45, 3) := by decide +kernel
theorem dX7_leastOfSet_73 : decode cX7_leastOfSet 73 = .ok (.istore 4, 2) := by decide +kernel
theorem dX7_leastOfSet_75 : decode cX7_leastOfSet 75 = .ok (.iinc 5 1, 3) := by decide +kernel
theorem dX7_leastOfSet_78 : decode cX7_leastOfSet 78 = .ok (.goto (-66), 3) := by decide +kernel
theorem dX7_leastOfSet_81 : decode cX7_leastOfSet 81 = .ok (.iload 4, 2) := by decide +kernel
theorem dX7_leastOfSet_83 : decode cX7_leastOfSet 83 = .ok (.ireturn, 1) := by decide +kernel
theorem dX7_hoursOf_0 : decode cX7_hoursOf 0 = .ok (.iconst 0, 1) := by decide +kernel
theorem dX7_hoursOf_1 : decode cX7_hoursOf 1 = .ok (.istore_n 2, 1) := by decide +kernel
theorem dX7_hoursOf_2 : decode cX7_hoursOf 2 = .ok (.iconst 0, 1) := by decide +kernel
theorem dX7_hoursOf_3 : decode cX7_hoursOf 3 = .ok (.istore_n 3, 1) := by decide +kernel
theorem dX7_hoursOf_4 : decode cX7_hoursOf 4 = .ok (.iload_n 3, 1) := by decide +kernel
theorem dX7_hoursOf_5 : decode cX7_hoursOf 5 = .ok (.aload_n 0, 1) := by decide +kernel
theorem dX7_hoursOf_6 : decode cX7_hoursOf 6 = .ok (.getfield 18, 3) := by decide +kernel
theorem dX7_hoursOf_9 : decode cX7_hoursOf 9 = .ok (.if_icmp .ge 26, 3) := by decide +kernel
theorem dX7_hoursOf_12 : decode cX7_hoursOf 12 = .ok (.iload_n 1, 1) := by decide +kernel
theorem dX7_hoursOf_13 : decode cX7_hoursOf 13 = .ok (.iconst 1, 1) := by decide +kernel
theorem dX7_hoursOf_14 : decode cX7_hoursOf 14 = .ok (.iload_n 3, 1) := by decide +kernel
theorem dX7_hoursOf_15 : decode cX7_hoursOf 15 = .ok (.ishl, 1) := by decide +kernel
theorem dX7_hoursOf_16 : decode cX7_hoursOf 16 = .ok (.iand, 1) := by decide +kernel
theorem dX7_hoursOf_17 : decode cX7_hoursOf 17 = .ok (.ifCond .eq 12, 3) := by decide +kernel
theorem dX7_hoursOf_20 : decode cX7_hoursOf 20 = .ok (.iload_n 2, 1) := by decide +kernel
theorem dX7_hoursOf_21 : decode cX7_hoursOf 21 = .ok (.aload_n 0, 1) := by decide +kernel
theorem dX7_hoursOf_22 : decode cX7_hoursOf 22 = .ok (.getfield 28, 3) := by decide +kernel
theorem dX7_hoursOf_25 : decode cX7_hoursOf 25 = .ok (.iload_n 3, 1) := by decide +kernel
theorem dX7_hoursOf_26 : decode cX7_hoursOf 26 = .ok (.iaload, 1) := by decide +kernel
theorem dX7_hoursOf_27 : decode cX7_hoursOf 27 = .ok (.iadd, 1) := by decide +kernel
theorem dX7_hoursOf_28 : decode cX7_hoursOf 28 = .ok (.istore_n 2, 1) := by decide +kernel
theorem dX7_hoursOf_29 : decode cX7_hoursOf 29 = .ok (.iinc 3 1, 3) := by decide +kernel
theorem dX7_hoursOf_32 : decode cX7_hoursOf 32 = .ok (.goto (-28), 3) := by decide +kernel
theorem dX7_hoursOf_35 : decode cX7_hoursOf 35 = .ok (.iload_n 2, 1) := by decide +kernel
theorem dX7_hoursOf_36 : decode cX7_hoursOf 36 = .ok (.ireturn, 1) := by decide +kernel
theorem dX8_init_0 : decode cX8_init 0 = .ok (.aload_n 0, 1) := by decide +kernel
theorem dX8_init_1 : decode cX8_init 1 = .ok (.invokespecial 3, 3) := by decide +kernel
theorem dX8_init_4 : decode cX8_init 4 = .ok (.aload_n 0, 1) := by decide +kernel
theorem dX8_init_5 : decode cX8_init 5 = .ok (.bipush 8, 2) := by decide +kernel
theorem dX8_init_7 : decode cX8_init 7 = .ok (.newarray .int, 2) := by decide +kernel
theorem dX8_init_9 : decode cX8_init 9 = .ok (.putfield 9, 3) := by decide +kernel
theorem dX8_init_12 : decode cX8_init 12 = .ok (.aload_n 0, 1) := by decide +kernel
theorem dX8_init_13 : decode cX8_init 13 = .ok (.bipush 8, 2) := by decide +kernel
theorem dX8_init_15 : decode cX8_init 15 = .ok (.newarray .int, 2) := by decide +kernel
theorem dX8_init_17 : decode cX8_init 17 = .ok (.putfield 15, 3) := by decide +kernel
theorem dX8_init_20 : decode cX8_init 20 = .ok (.aload_n 0, 1) := by decide +kernel
theorem dX8_init_21 : decode cX8_init 21 = .ok (.bipush 8, 2) := by decide +kernel
theorem dX8_init_23 : decode cX8_init 23 = .ok (.newarray .int, 2) := by decide +kernel
theorem dX8_init_25 : decode cX8_init 25 = .ok (.putfield 18, 3) := by decide +kernel
theorem dX8_init_28 : decode cX8_init 28 = .ok (.return_, 1) := by decide +kernel
theorem dX8_become_0 : decode cX8_become 0 = .ok (.aload_n 1, 1) := by decide +kernel
theorem dX8_become_1 : decode cX8_become 1 = .ok (.getfield 9, 3) := by decide +kernel
theorem dX8_become_4 : decode cX8_become 4 = .ok (.iconst 0, 1) := by decide +kernel
theorem dX8_become_5 : decode cX8_become 5 = .ok (.aload_n 0, 1) := by decide +kernel
theorem dX8_become_6 : decode cX8_become 6 = .ok (.getfield 9, 3) := by decide +kernel
theorem dX8_become_9 : decode cX8_become 9 = .ok (.iconst 0, 1) := by decide +kernel
theorem dX8_become_10 : decode cX8_become 10 = .ok (.bipush 8, 2) := by decide +kernel
theorem dX8_become_12 : decode cX8_become 12 = .ok (.invokestatic 21, 3) := by decide +kernel
theorem dX8_become_15 : decode cX8_become 15 = .ok (.aload_n 1, 1) := by decide +kernel
theorem dX8_become_16 : decode cX8_become 16 = .ok (.getfield 15, 3) := by decide +kernel
theorem dX8_become_19 : decode cX8_become 19 = .ok (.iconst 0, 1) := by decide +kernel
theorem dX8_become_20 : decode cX8_become 20 = .ok (.aload_n 0, 1) := by decide +kernel
theorem dX8_become_21 : decode cX8_become 21 = .ok (.getfield 15, 3) := by decide +kernel
theorem dX8_become_24 : decode cX8_become 24 = .ok (.iconst 0, 1) := by decide +kernel
theorem dX8_become_25 : decode cX8_become 25 = .ok (.bipush 8, 2) := by decide +kernel
theorem dX8_become_27 : decode cX8_become 27 = .ok (.invokestatic 21, 3) := by decide +kernel
theorem dX8_become_30 : decode cX8_become 30 = .ok (.aload_n 1, 1) := by decide +kernel
theorem dX8_become_31 : decode cX8_become 31 = .ok (.getfield 18, 3) := by decide +kernel
theorem dX8_become_34 : decode cX8_become 34 = .ok (.iconst 0, 1) := by decide +kernel
theorem dX8_become_35 : decode cX8_become 35 = .ok (.aload_n 0, 1) := by decide +kernel
theorem dX8_become_36 : decode cX8_become 36 = .ok (.getfield 18, 3) := by decide +kernel
theorem dX8_become_39 : decode cX8_become 39 = .ok (.iconst 0, 1) := by decide +kernel
theorem dX8_become_40 : decode cX8_become 40 = .ok (.bipush 8, 2) := by decide +kernel
theorem dX8_become_42 : decode cX8_become 42 = .ok (.invokestatic 21, 3) := by decide +kernel
theorem dX8_become_45 : decode cX8_become 45 = .ok (.aload_n 0, 1) := by decide +kernel
theorem dX8_become_46 : decode cX8_become 46 = .ok (.aload_n 1, 1) := by decide +kernel
theorem dX8_become_47 : decode cX8_become 47 = .ok (.getfield 27, 3) := by decide +kernel
theorem dX8_become_50 : decode cX8_become 50 = .ok (.putfield 27, 3) := by decide +kernel
theorem dX8_become_53 : decode cX8_become 53 = .ok (.return_, 1) := by decide +kernel
theorem dX8_ask_0 : decode cX8_ask 0 = .ok (.aload_n 0, 1) := by decide +kernel
theorem dX8_ask_1 : decode cX8_ask 1 = .ok (.getfield 9, 3) := by decide +kernel
theorem dX8_ask_4 : decode cX8_ask 4 = .ok (.aload_n 0, 1) := by decide +kernel
theorem dX8_ask_5 : decode cX8_ask 5 = .ok (.getfield 27, 3) := by decide +kernel
theorem dX8_ask_8 : decode cX8_ask 8 = .ok (.iload_n 1, 1) := by decide +kernel
theorem dX8_ask_9 : decode cX8_ask 9 = .ok (.iastore, 1) := by decide +kernel
theorem dX8_ask_10 : decode cX8_ask 10 = .ok (.aload_n 0, 1) := by decide +kernel
theorem dX8_ask_11 : decode cX8_ask 11 = .ok (.getfield 15, 3) := by decide +kernel
theorem dX8_ask_14 : decode cX8_ask 14 = .ok (.aload_n 0, 1) := by decide +kernel
theorem dX8_ask_15 : decode cX8_ask 15 = .ok (.getfield 27, 3) := by decide +kernel
theorem dX8_ask_18 : decode cX8_ask 18 = .ok (.iload_n 2, 1) := by decide +kernel
theorem dX8_ask_19 : decode cX8_ask 19 = .ok (.iastore, 1) := by decide +kernel
theorem dX8_ask_20 : decode cX8_ask 20 = .ok (.aload_n 0, 1) := by decide +kernel
theorem dX8_ask_21 : decode cX8_ask 21 = .ok (.getfield 18, 3) := by decide +kernel
theorem dX8_ask_24 : decode cX8_ask 24 = .ok (.aload_n 0, 1) := by decide +kernel
theorem dX8_ask_25 : decode cX8_ask 25 = .ok (.getfield 27, 3) := by decide +kernel
theorem dX8_ask_28 : decode cX8_ask 28 = .ok (.iload_n 3, 1) := by decide +kernel
theorem dX8_ask_29 : decode cX8_ask 29 = .ok (.iastore, 1) := by decide +kernel
theorem dX8_ask_30 : decode cX8_ask 30 = .ok (.aload_n 0, 1) := by decide +kernel
theorem dX8_ask_31 : decode cX8_ask 31 = .ok (.dup, 1) := by decide +kernel
theorem dX8_ask_32 : decode cX8_ask 32 = .ok (.getfield 27, 3) := by decide +kernel
theorem dX8_ask_35 : decode cX8_ask 35 = .ok (.iconst 1, 1) := by decide +kernel
theorem dX8_ask_36 : decode cX8_ask 36 = .ok (.iadd, 1) := by decide +kernel
theorem dX8_ask_37 : decode cX8_ask 37 = .ok (.putfield 27, 3) := by decide +kernel
theorem dX8_ask_40 : decode cX8_ask 40 = .ok (.aload_n 0, 1) := by decide +kernel
theorem dX8_ask_41 : decode cX8_ask 41 = .ok (.getfield 27, 3) := by decide +kernel
theorem dX8_ask_44 : decode cX8_ask 44 = .ok (.iconst 1, 1) := by decide +kernel
theorem dX8_ask_45 : decode cX8_ask 45 = .ok (.isub, 1) := by decide +kernel
theorem dX8_ask_46 : decode cX8_ask 46 = .ok (.ireturn, 1) := by decide +kernel
theorem dX8_withdraw_0 : decode cX8_withdraw 0 = .ok (.iload_n 1, 1) := by decide +kernel
theorem dX8_withdraw_1 : decode cX8_withdraw 1 = .ok (.istore_n 2, 1) := by decide +kernel
theorem dX8_withdraw_2 : decode cX8_withdraw 2 = .ok (.iload_n 2, 1) := by decide +kernel
theorem dX8_withdraw_3 : decode cX8_withdraw 3 = .ok (.iconst 1, 1) := by decide +kernel
theorem dX8_withdraw_4 : decode cX8_withdraw 4 = .ok (.iadd, 1) := by decide +kernel
theorem dX8_withdraw_5 : decode cX8_withdraw 5 = .ok (.aload_n 0, 1) := by decide +kernel
theorem dX8_withdraw_6 : decode cX8_withdraw 6 = .ok (.getfield 27, 3) := by decide +kernel
theorem dX8_withdraw_9 : decode cX8_withdraw 9 = .ok (.if_icmp .ge 51, 3) := by decide +kernel
theorem dX8_withdraw_12 : decode cX8_withdraw 12 = .ok (.aload_n 0, 1) := by decide +kernel
theorem dX8_withdraw_13 : decode cX8_withdraw 13 = .ok (.getfield 9, 3) := by decide +kernel
theorem dX8_withdraw_16 : decode cX8_withdraw 16 = .ok (.iload_n 2, 1) := by decide +kernel
theorem dX8_withdraw_17 : decode cX8_withdraw 17 = .ok (.aload_n 0, 1) := by decide +kernel
theorem dX8_withdraw_18 : decode cX8_withdraw 18 = .ok (.getfield 9, 3) := by decide +kernel
theorem dX8_withdraw_21 : decode cX8_withdraw 21 = .ok (.iload_n 2, 1) := by decide +kernel
theorem dX8_withdraw_22 : decode cX8_withdraw 22 = .ok (.iconst 1, 1) := by decide +kernel
theorem dX8_withdraw_23 : decode cX8_withdraw 23 = .ok (.iadd, 1) := by decide +kernel
theorem dX8_withdraw_24 : decode cX8_withdraw 24 = .ok (.iaload, 1) := by decide +kernel
theorem dX8_withdraw_25 : decode cX8_withdraw 25 = .ok (.iastore, 1) := by decide +kernel
theorem dX8_withdraw_26 : decode cX8_withdraw 26 = .ok (.aload_n 0, 1) := by decide +kernel
theorem dX8_withdraw_27 : decode cX8_withdraw 27 = .ok (.getfield 15, 3) := by decide +kernel
theorem dX8_withdraw_30 : decode cX8_withdraw 30 = .ok (.iload_n 2, 1) := by decide +kernel
theorem dX8_withdraw_31 : decode cX8_withdraw 31 = .ok (.aload_n 0, 1) := by decide +kernel
theorem dX8_withdraw_32 : decode cX8_withdraw 32 = .ok (.getfield 15, 3) := by decide +kernel
theorem dX8_withdraw_35 : decode cX8_withdraw 35 = .ok (.iload_n 2, 1) := by decide +kernel
theorem dX8_withdraw_36 : decode cX8_withdraw 36 = .ok (.iconst 1, 1) := by decide +kernel
theorem dX8_withdraw_37 : decode cX8_withdraw 37 = .ok (.iadd, 1) := by decide +kernel
theorem dX8_withdraw_38 : decode cX8_withdraw 38 = .ok (.iaload, 1) := by decide +kernel
theorem dX8_withdraw_39 : decode cX8_withdraw 39 = .ok (.iastore, 1) := by decide +kernel
theorem dX8_withdraw_40 : decode cX8_withdraw 40 = .ok (.aload_n 0, 1) := by decide +kernel
theorem dX8_withdraw_41 : decode cX8_withdraw 41 = .ok (.getfield 18, 3) := by decide +kernel
theorem dX8_withdraw_44 : decode cX8_withdraw 44 = .ok (.iload_n 2, 1) := by decide +kernel
theorem dX8_withdraw_45 : decode cX8_withdraw 45 = .ok (.aload_n 0, 1) := by decide +kernel
theorem dX8_withdraw_46 : decode cX8_withdraw 46 = .ok (.getfield 18, 3) := by decide +kernel
theorem dX8_withdraw_49 : decode cX8_withdraw 49 = .ok (.iload_n 2, 1) := by decide +kernel
theorem dX8_withdraw_50 : decode cX8_withdraw 50 = .ok (.iconst 1, 1) := by decide +kernel
theorem dX8_withdraw_51 : decode cX8_withdraw 51 = .ok (.iadd, 1) := by decide +kernel
theorem dX8_withdraw_52 : decode cX8_withdraw 52 = .ok (.iaload, 1) := by decide +kernel
theorem dX8_withdraw_53 : decode cX8_withdraw 53 = .ok (.iastore, 1) := by decide +kernel
theorem dX8_withdraw_54 : decode cX8_withdraw 54 = .ok (.iinc 2 1, 3) := by decide +kernel
theorem dX8_withdraw_57 : decode cX8_withdraw 57 = .ok (.goto (-55), 3) := by decide +kernel
theorem dX8_withdraw_60 : decode cX8_withdraw 60 = .ok (.aload_n 0, 1) := by decide +kernel
theorem dX8_withdraw_61 : decode cX8_withdraw 61 = .ok (.dup, 1) := by decide +kernel
theorem dX8_withdraw_62 : decode cX8_withdraw 62 = .ok (.getfield 27, 3) := by decide +kernel
theorem dX8_withdraw_65 : decode cX8_withdraw 65 = .ok (.iconst 1, 1) := by decide +kernel
theorem dX8_withdraw_66 : decode cX8_withdraw 66 = .ok (.isub, 1) := by decide +kernel
theorem dX8_withdraw_67 : decode cX8_withdraw 67 = .ok (.putfield 27, 3) := by decide +kernel
theorem dX8_withdraw_70 : decode cX8_withdraw 70 = .ok (.aload_n 0, 1) := by decide +kernel
theorem dX8_withdraw_71 : decode cX8_withdraw 71 = .ok (.getfield 27, 3) := by decide +kernel
theorem dX8_withdraw_74 : decode cX8_withdraw 74 = .ok (.ireturn, 1) := by decide +kernel
theorem dX8_isBefore_0 : decode cX8_isBefore 0 = .ok (.aload_n 0, 1) := by decide +kernel
theorem dX8_isBefore_1 : decode cX8_isBefore 1 = .ok (.getfield 15, 3) := by decide +kernel
theorem dX8_isBefore_4 : decode cX8_isBefore 4 = .ok (.iload_n 1, 1) := by decide +kernel
theorem dX8_isBefore_5 : decode cX8_isBefore 5 = .ok (.iaload, 1) := by decide +kernel
theorem dX8_isBefore_6 : decode cX8_isBefore 6 = .ok (.aload_n 0, 1) := by decide +kernel
theorem dX8_isBefore_7 : decode cX8_isBefore 7 = .ok (.getfield 18, 3) := by decide +kernel
theorem dX8_isBefore_10 : decode cX8_isBefore 10 = .ok (.iload_n 2, 1) := by decide +kernel
theorem dX8_isBefore_11 : decode cX8_isBefore 11 = .ok (.iaload, 1) := by decide +kernel
theorem dX8_isBefore_12 : decode cX8_isBefore 12 = .ok (.imul, 1) := by decide +kernel
theorem dX8_isBefore_13 : decode cX8_isBefore 13 = .ok (.istore_n 3, 1) := by decide +kernel
theorem dX8_isBefore_14 : decode cX8_isBefore 14 = .ok (.aload_n 0, 1) := by decide +kernel
theorem dX8_isBefore_15 : decode cX8_isBefore 15 = .ok (.getfield 15, 3) := by decide +kernel
theorem dX8_isBefore_18 : decode cX8_isBefore 18 = .ok (.iload_n 2, 1) := by decide +kernel
theorem dX8_isBefore_19 : decode cX8_isBefore 19 = .ok (.iaload, 1) := by decide +kernel
theorem dX8_isBefore_20 : decode cX8_isBefore 20 = .ok (.aload_n 0, 1) := by decide +kernel
theorem dX8_isBefore_21 : decode cX8_isBefore 21 = .ok (.getfield 18, 3) := by decide +kernel
theorem dX8_isBefore_24 : decode cX8_isBefore 24 = .ok (.iload_n 1, 1) := by decide +kernel
theorem dX8_isBefore_25 : decode cX8_isBefore 25 = .ok (.iaload, 1) := by decide +kernel
theorem dX8_isBefore_26 : decode cX8_isBefore 26 = .ok (.imul, 1) := by decide +kernel
theorem dX8_isBefore_27 : decode cX8_isBefore 27 = .ok (.istore 4, 2) := by decide +kernel
theorem dX8_isBefore_29 : decode cX8_isBefore 29 = .ok (.iload_n 3, 1) := by decide +kernel
theorem dX8_isBefore_30 : decode cX8_isBefore 30 = .ok (.iload 4, 2) := by decide +kernel
theorem dX8_isBefore_32 : decode cX8_isBefore 32 = .ok (.if_icmp .lt 14, 3) := by decide +kernel
theorem dX8_isBefore_35 : decode cX8_isBefore 35 = .ok (.iload_n 3, 1) := by decide +kernel
theorem dX8_isBefore_36 : decode cX8_isBefore 36 = .ok (.iload 4, 2) := by decide +kernel
theorem dX8_isBefore_38 : decode cX8_isBefore 38 = .ok (.if_icmp .ne 12, 3) := by decide +kernel
theorem dX8_isBefore_41 : decode cX8_isBefore 41 = .ok (.iload_n 1, 1) := by decide +kernel
theorem dX8_isBefore_42 : decode cX8_isBefore 42 = .ok (.iload_n 2, 1) := by decide +kernel
theorem dX8_isBefore_43 : decode cX8_isBefore 43 = .ok (.if_icmp .ge 7, 3) := by decide +kernel
theorem dX8_isBefore_46 : decode cX8_isBefore 46 = .ok (.iconst 1, 1) := by decide +kernel
theorem dX8_isBefore_47 : decode cX8_isBefore 47 = .ok (.goto 4, 3) := by decide +kernel
theorem dX8_isBefore_50 : decode cX8_isBefore 50 = .ok (.iconst 0, 1) := by decide +kernel
theorem dX8_isBefore_51 : decode cX8_isBefore 51 = .ok (.ireturn, 1) := by decide +kernel
theorem dX8_firstOfBest_0 : decode cX8_firstOfBest 0 = .ok (.iconst 0, 1) := by decide +kernel
theorem dX8_firstOfBest_1 : decode cX8_firstOfBest 1 = .ok (.istore_n 1, 1) := by decide +kernel
theorem dX8_firstOfBest_2 : decode cX8_firstOfBest 2 = .ok (.iconst 1, 1) := by decide +kernel
theorem dX8_firstOfBest_3 : decode cX8_firstOfBest 3 = .ok (.istore_n 2, 1) := by decide +kernel
theorem dX8_firstOfBest_4 : decode cX8_firstOfBest 4 = .ok (.iload_n 2, 1) := by decide +kernel
theorem dX8_firstOfBest_5 : decode cX8_firstOfBest 5 = .ok (.aload_n 0, 1) := by decide +kernel
theorem dX8_firstOfBest_6 : decode cX8_firstOfBest 6 = .ok (.getfield 27, 3) := by decide +kernel
theorem dX8_firstOfBest_9 : decode cX8_firstOfBest 9 = .ok (.if_icmp .ge 20, 3) := by decide +kernel
theorem dX8_firstOfBest_12 : decode cX8_firstOfBest 12 = .ok (.aload_n 0, 1) := by decide +kernel
theorem dX8_firstOfBest_13 : decode cX8_firstOfBest 13 = .ok (.iload_n 2, 1) := by decide +kernel
theorem dX8_firstOfBest_14 : decode cX8_firstOfBest 14 = .ok (.iload_n 1, 1) := by decide +kernel
theorem dX8_firstOfBest_15 : decode cX8_firstOfBest 15 = .ok (.invokevirtual 31, 3) := by decide +kernel
theorem dX8_firstOfBest_18 : decode cX8_firstOfBest 18 = .ok (.ifCond .eq 5, 3) := by decide +kernel
theorem dX8_firstOfBest_21 : decode cX8_firstOfBest 21 = .ok (.iload_n 2, 1) := by decide +kernel
theorem dX8_firstOfBest_22 : decode cX8_firstOfBest 22 = .ok (.istore_n 1, 1) := by decide +kernel
theorem dX8_firstOfBest_23 : decode cX8_firstOfBest 23 = .ok (.iinc 2 1, 3) := by decide +kernel
theorem dX8_firstOfBest_26 : decode cX8_firstOfBest 26 = .ok (.goto (-22), 3) := by decide +kernel
theorem dX8_firstOfBest_29 : decode cX8_firstOfBest 29 = .ok (.iload_n 1, 1) := by decide +kernel
theorem dX8_firstOfBest_30 : decode cX8_firstOfBest 30 = .ok (.ireturn, 1) := by decide +kernel
theorem dX8_penanceOfAnHour_0 : decode cX8_penanceOfAnHour 0 = .ok (.iconst 0, 1) := by decide +kernel
theorem dX8_penanceOfAnHour_1 : decode cX8_penanceOfAnHour 1 = .ok (.istore_n 1, 1) := by decide +kernel
theorem dX8_penanceOfAnHour_2 : decode cX8_penanceOfAnHour 2 = .ok (.iconst 0, 1) := by decide +kernel
theorem dX8_penanceOfAnHour_3 : decode cX8_penanceOfAnHour 3 = .ok (.istore_n 2, 1) := by decide +kernel
theorem dX8_penanceOfAnHour_4 : decode cX8_penanceOfAnHour 4 = .ok (.iload_n 2, 1) := by decide +kernel
theorem dX8_penanceOfAnHour_5 : decode cX8_penanceOfAnHour 5 = .ok (.aload_n 0, 1) := by decide +kernel
theorem dX8_penanceOfAnHour_6 : decode cX8_penanceOfAnHour 6 = .ok (.getfield 27, 3) := by decide +kernel
theorem dX8_penanceOfAnHour_9 : decode cX8_penanceOfAnHour 9 = .ok (.if_icmp .ge 18, 3) := by decide +kernel
theorem dX8_penanceOfAnHour_12 : decode cX8_penanceOfAnHour 12 = .ok (.iload_n 1, 1) := by decide +kernel
theorem dX8_penanceOfAnHour_13 : decode cX8_penanceOfAnHour 13 = .ok (.aload_n 0, 1) := by decide +kernel
theorem dX8_penanceOfAnHour_14 : decode cX8_penanceOfAnHour 14 = .ok (.getfield 18, 3) := by decide +kernel
theorem dX8_penanceOfAnHour_17 : decode cX8_penanceOfAnHour 17 = .ok (.iload_n 2, 1) := by decide +kernel
theorem dX8_penanceOfAnHour_18 : decode cX8_penanceOfAnHour 18 = .ok (.iaload, 1) := by decide +kernel
theorem dX8_penanceOfAnHour_19 : decode cX8_penanceOfAnHour 19 = .ok (.iadd, 1) := by decide +kernel
theorem dX8_penanceOfAnHour_20 : decode cX8_penanceOfAnHour 20 = .ok (.istore_n 1, 1) := by decide +kernel
theorem dX8_penanceOfAnHour_21 : decode cX8_penanceOfAnHour 21 = .ok (.iinc 2 1, 3) := by decide +kernel
theorem dX8_penanceOfAnHour_24 : decode cX8_penanceOfAnHour 24 = .ok (.goto (-20), 3) := by decide +kernel
theorem dX8_penanceOfAnHour_27 : decode cX8_penanceOfAnHour 27 = .ok (.iload_n 1, 1) := by decide +kernel
theorem dX8_penanceOfAnHour_28 : decode cX8_penanceOfAnHour 28 = .ok (.ireturn, 1) := by decide +kernel
theorem dX9_init_0 : decode cX9_init 0 = .ok (.aload_n 0, 1) := by decide +kernel
theorem dX9_init_1 : decode cX9_init 1 = .ok (.invokespecial 3, 3) := by decide +kernel
theorem dX9_init_4 : decode cX9_init 4 = .ok (.aload_n 0, 1) := by decide +kernel
theorem dX9_init_5 : decode cX9_init 5 = .ok (.sipush 576, 3) := by decide +kernel
theorem dX9_init_8 : decode cX9_init 8 = .ok (.newarray .int, 2) := by decide +kernel
theorem dX9_init_10 : decode cX9_init 10 = .ok (.putfield 11, 3) := by decide +kernel
theorem dX9_init_13 : decode cX9_init 13 = .ok (.aload_n 0, 1) := by decide +kernel
theorem dX9_init_14 : decode cX9_init 14 = .ok (.bipush 6, 2) := by decide +kernel
theorem dX9_init_16 : decode cX9_init 16 = .ok (.newarray .int, 2) := by decide +kernel
theorem dX9_init_18 : decode cX9_init 18 = .ok (.putfield 15, 3) := by decide +kernel
theorem dX9_init_21 : decode cX9_init 21 = .ok (.aload_n 0, 1) := by decide +kernel
theorem dX9_init_22 : decode cX9_init 22 = .ok (.bipush 6, 2) := by decide +kernel
theorem dX9_init_24 : decode cX9_init 24 = .ok (.newarray .int, 2) := by decide +kernel
theorem dX9_init_26 : decode cX9_init 26 = .ok (.putfield 18, 3) := by decide +kernel
theorem dX9_init_29 : decode cX9_init 29 = .ok (.aload_n 0, 1) := by decide +kernel
theorem dX9_init_30 : decode cX9_init 30 = .ok (.bipush 8, 2) := by decide +kernel
theorem dX9_init_32 : decode cX9_init 32 = .ok (.newarray .int, 2) := by decide +kernel
theorem dX9_init_34 : decode cX9_init 34 = .ok (.putfield 21, 3) := by decide +kernel
theorem dX9_init_37 : decode cX9_init 37 = .ok (.return_, 1) := by decide +kernel
theorem dX9_mostByChains_0 : decode cX9_mostByChains 0 = .ok (.iconst 0, 1) := by decide +kernel
theorem dX9_mostByChains_1 : decode cX9_mostByChains 1 = .ok (.istore_n 2, 1) := by decide +kernel
theorem dX9_mostByChains_2 : decode cX9_mostByChains 2 = .ok (.iload_n 2, 1) := by decide +kernel
theorem dX9_mostByChains_3 : decode cX9_mostByChains 3 = .ok (.bipush 6, 2) := by decide +kernel
theorem dX9_mostByChains_5 : decode cX9_mostByChains 5 = .ok (.if_icmp .ge 16, 3) := by decide +kernel
theorem dX9_mostByChains_8 : decode cX9_mostByChains 8 = .ok (.aload_n 0, 1) := by decide +kernel
theorem dX9_mostByChains_9 : decode cX9_mostByChains 9 = .ok (.getfield 15, 3) := by decide +kernel
theorem dX9_mostByChains_12 : decode cX9_mostByChains 12 = .ok (.iload_n 2, 1) := by decide +kernel
theorem dX9_mostByChains_13 : decode cX9_mostByChains 13 = .ok (.iconst (-1), 1) := by decide +kernel
theorem dX9_mostByChains_14 : decode cX9_mostByChains 14 = .ok (.iastore, 1) := by decide +kernel
theorem dX9_mostByChains_15 : decode cX9_mostByChains 15 = .ok (.iinc 2 1, 3) := by decide +kernel
theorem dX9_mostByChains_18 : decode cX9_mostByChains 18 = .ok (.goto (-16), 3) := by decide +kernel
theorem dX9_mostByChains_21 : decode cX9_mostByChains 21 = .ok (.iconst 0, 1) := by decide +kernel
theorem dX9_mostByChains_22 : decode cX9_mostByChains 22 = .ok (.istore_n 2, 1) := by decide +kernel
theorem dX9_mostByChains_23 : decode cX9_mostByChains 23 = .ok (.iconst 0, 1) := by decide +kernel
theorem dX9_mostByChains_24 : decode cX9_mostByChains 24 = .ok (.istore_n 3, 1) := by decide +kernel
theorem dX9_mostByChains_25 : decode cX9_mostByChains 25 = .ok (.iload_n 3, 1) := by decide +kernel
theorem dX9_mostByChains_26 : decode cX9_mostByChains 26 = .ok (.bipush 8, 2) := by decide +kernel
theorem dX9_mostByChains_28 : decode cX9_mostByChains 28 = .ok (.if_icmp .ge 53, 3) := by decide +kernel
theorem dX9_mostByChains_31 : decode cX9_mostByChains 31 = .ok (.iconst 0, 1) := by decide +kernel
theorem dX9_mostByChains_32 : decode cX9_mostByChains 32 = .ok (.istore 4, 2) := by decide +kernel
theorem dX9_mostByChains_34 : decode cX9_mostByChains 34 = .ok (.iload 4, 2) := by decide +kernel
theorem dX9_mostByChains_36 : decode cX9_mostByChains 36 = .ok (.bipush 6, 2) := by decide +kernel
theorem dX9_mostByChains_38 : decode cX9_mostByChains 38 = .ok (.if_icmp .ge 17, 3) := by decide +kernel
theorem dX9_mostByChains_41 : decode cX9_mostByChains 41 = .ok (.aload_n 0, 1) := by decide +kernel
theorem dX9_mostByChains_42 : decode cX9_mostByChains 42 = .ok (.getfield 18, 3) := by decide +kernel
theorem dX9_mostByChains_45 : decode cX9_mostByChains 45 = .ok (.iload 4, 2) := by decide +kernel
theorem dX9_mostByChains_47 : decode cX9_mostByChains 47 = .ok (.iconst 0, 1) := by decide +kernel
theorem dX9_mostByChains_48 : decode cX9_mostByChains 48 = .ok (.iastore, 1) := by decide +kernel
theorem dX9_mostByChains_49 : decode cX9_mostByChains 49 = .ok (.iinc 4 1, 3) := by decide +kernel
theorem dX9_mostByChains_52 : decode cX9_mostByChains 52 = .ok (.goto (-18), 3) := by decide +kernel
theorem dX9_mostByChains_55 : decode cX9_mostByChains 55 = .ok (.iload_n 3, 1) := by decide +kernel
theorem dX9_mostByChains_56 : decode cX9_mostByChains 56 = .ok (.aload_n 1, 1) := by decide +kernel
theorem dX9_mostByChains_57 : decode cX9_mostByChains 57 = .ok (.aload_n 0, 1) := by decide +kernel
theorem dX9_mostByChains_58 : decode cX9_mostByChains 58 = .ok (.getfield 15, 3) := by decide +kernel
theorem dX9_mostByChains_61 : decode cX9_mostByChains 61 = .ok (.aload_n 0, 1) := by decide +kernel
theorem dX9_mostByChains_62 : decode cX9_mostByChains 62 = .ok (.getfield 18, 3) := by decide +kernel
theorem dX9_mostByChains_65 : decode cX9_mostByChains 65 = .ok (.iconst 0, 1) := by decide +kernel
theorem dX9_mostByChains_66 : decode cX9_mostByChains 66 = .ok (.invokestatic 24, 3) := by decide +kernel
theorem dX9_mostByChains_69 : decode cX9_mostByChains 69 = .ok (.ifCond .eq 6, 3) := by decide +kernel
theorem dX9_mostByChains_72 : decode cX9_mostByChains 72 = .ok (.iinc 2 1, 3) := by decide +kernel
theorem dX9_mostByChains_75 : decode cX9_mostByChains 75 = .ok (.iinc 3 1, 3) := by decide +kernel
theorem dX9_mostByChains_78 : decode cX9_mostByChains 78 = .ok (.goto (-53), 3) := by decide +kernel
theorem dX9_mostByChains_81 : decode cX9_mostByChains 81 = .ok (.iload_n 2, 1) := by decide +kernel
theorem dX9_mostByChains_82 : decode cX9_mostByChains 82 = .ok (.ireturn, 1) := by decide +kernel
theorem dX9_findKeeper_0 : decode cX9_findKeeper 0 = .ok (.iload 4, 2) := by decide +kernel
theorem dX9_findKeeper_2 : decode cX9_findKeeper 2 = .ok (.bipush 6, 2) := by decide +kernel
theorem dX9_findKeeper_4 : decode cX9_findKeeper 4 = .ok (.if_icmp .le 5, 3) := by decide +kernel
theorem dX9_findKeeper_7 : decode cX9_findKeeper 7 = .ok (.iconst 0, 1) := by decide +kernel
theorem dX9_findKeeper_8 : decode cX9_findKeeper 8 = .ok (.ireturn, 1) := by decide +kernel
theorem dX9_findKeeper_9 : decode cX9_findKeeper 9 = .ok (.iconst 0, 1) := by decide +kernel
theorem dX9_findKeeper_10 : decode cX9_findKeeper 10 = .ok (.istore 5, 2) := by decide +kernel
theorem dX9_findKeeper_12 : decode cX9_findKeeper 12 = .ok (.iload 5, 2) := by decide +kernel
theorem dX9_findKeeper_14 : decode cX9_findKeeper 14 = .ok (.bipush 6, 2) := by decide +kernel
theorem dX9_findKeeper_16 : decode cX9_findKeeper 16 = .ok (.if_icmp .ge 63, 3) := by decide +kernel
theorem dX9_findKeeper_19 : decode cX9_findKeeper 19 = .ok (.aload_n 3, 1) := by decide +kernel
theorem dX9_findKeeper_20 : decode cX9_findKeeper 20 = .ok (.iload 5, 2) := by decide +kernel
theorem dX9_findKeeper_22 : decode cX9_findKeeper 22 = .ok (.iaload, 1) := by decide +kernel
theorem dX9_findKeeper_23 : decode cX9_findKeeper 23 = .ok (.ifCond .ne 50, 3) := by decide +kernel
theorem dX9_findKeeper_26 : decode cX9_findKeeper 26 = .ok (.aload_n 1, 1) := by decide +kernel
theorem dX9_findKeeper_27 : decode cX9_findKeeper 27 = .ok (.iload 5, 2) := by decide +kernel
theorem dX9_findKeeper_29 : decode cX9_findKeeper 29 = .ok (.iload_n 0, 1) := by decide +kernel
theorem dX9_findKeeper_30 : decode cX9_findKeeper 30 = .ok (.invokestatic 28, 3) := by decide +kernel
theorem dX9_findKeeper_33 : decode cX9_findKeeper 33 = .ok (.ifCond .eq 40, 3) := by decide +kernel
theorem dX9_findKeeper_36 : decode cX9_findKeeper 36 = .ok (.aload_n 3, 1) := by decide +kernel
theorem dX9_findKeeper_37 : decode cX9_findKeeper 37 = .ok (.iload 5, 2) := by decide +kernel
theorem dX9_findKeeper_39 : decode cX9_findKeeper 39 = .ok (.iconst 1, 1) := by decide +kernel
theorem dX9_findKeeper_40 : decode cX9_findKeeper 40 = .ok (.iastore, 1) := by decide +kernel
theorem dX9_findKeeper_41 : decode cX9_findKeeper 41 = .ok (.aload_n 2, 1) := by decide +kernel
theorem dX9_findKeeper_42 : decode cX9_findKeeper 42 = .ok (.iload 5, 2) := by decide +kernel
theorem dX9_findKeeper_44 : decode cX9_findKeeper 44 = .ok (.iaload, 1) := by decide +kernel
theorem dX9_findKeeper_45 : decode cX9_findKeeper 45 = .ok (.iconst (-1), 1) := by decide +kernel
theorem dX9_findKeeper_46 : decode cX9_findKeeper 46 = .ok (.if_icmp .eq 20, 3) := by decide +kernel
theorem dX9_findKeeper_49 : decode cX9_findKeeper 49 = .ok (.aload_n 2, 1) := by decide +kernel
theorem dX9_findKeeper_50 : decode cX9_findKeeper 50 = .ok (.iload 5, 2) := by decide +kernel
theorem dX9_findKeeper_52 : decode cX9_findKeeper 52 = .ok (.iaload, 1) := by decide +kernel
theorem dX9_findKeeper_53 : decode cX9_findKeeper 53 = .ok (.aload_n 1, 1) := by decide +kernel
theorem dX9_findKeeper_54 : decode cX9_findKeeper 54 = .ok (.aload_n 2, 1) := by decide +kernel
theorem dX9_findKeeper_55 : decode cX9_findKeeper 55 = .ok (.aload_n 3, 1) := by decide +kernel
theorem dX9_findKeeper_56 : decode cX9_findKeeper 56 = .ok (.iload 4, 2) := by decide +kernel
theorem dX9_findKeeper_58 : decode cX9_findKeeper 58 = .ok (.iconst 1, 1) := by decide +kernel
theorem dX9_findKeeper_59 : decode cX9_findKeeper 59 = .ok (.iadd, 1) := by decide +kernel
theorem dX9_findKeeper_60 : decode cX9_findKeeper 60 = .ok (.invokestatic 24, 3) := by decide +kernel
theorem dX9_findKeeper_63 : decode cX9_findKeeper 63 = .ok (.ifCond .eq 10, 3) := by decide +kernel
theorem dX9_findKeeper_66 : decode cX9_findKeeper 66 = .ok (.aload_n 2, 1) := by decide +kernel
theorem dX9_findKeeper_67 : decode cX9_findKeeper 67 = .ok (.iload 5, 2) := by decide +kernel
theorem dX9_findKeeper_69 : decode cX9_findKeeper 69 = .ok (.iload_n 0, 1) := by decide +kernel
theorem dX9_findKeeper_70 : decode cX9_findKeeper 70 = .ok (.iastore, 1) := by decide +kernel
theorem dX9_findKeeper_71 : decode cX9_findKeeper 71 = .ok (.iconst 1, 1) := by decide +kernel
theorem dX9_findKeeper_72 : decode cX9_findKeeper 72 = .ok (.ireturn, 1) := by decide +kernel
theorem dX9_findKeeper_73 : decode cX9_findKeeper 73 = .ok (.iinc 5 1, 3) := by decide +kernel
theorem dX9_findKeeper_76 : decode cX9_findKeeper 76 = .ok (.goto (-64), 3) := by decide +kernel
theorem dX9_findKeeper_79 : decode cX9_findKeeper 79 = .ok (.iconst 0, 1) := by decide +kernel
theorem dX9_findKeeper_80 : decode cX9_findKeeper 80 = .ok (.ireturn, 1) := by decide +kernel
theorem dX9_mostByTable_0 : decode cX9_mostByTable 0 = .ok (.iconst 0, 1) := by decide +kernel
theorem dX9_mostByTable_1 : decode cX9_mostByTable 1 = .ok (.istore_n 2, 1) := by decide +kernel
theorem dX9_mostByTable_2 : decode cX9_mostByTable 2 = .ok (.iload_n 2, 1) := by decide +kernel
theorem dX9_mostByTable_3 : decode cX9_mostByTable 3 = .ok (.bipush 64, 2) := by decide +kernel
theorem dX9_mostByTable_5 : decode cX9_mostByTable 5 = .ok (.if_icmp .ge 20, 3) := by decide +kernel
theorem dX9_mostByTable_8 : decode cX9_mostByTable 8 = .ok (.aload_n 0, 1) := by decide +kernel
theorem dX9_mostByTable_9 : decode cX9_mostByTable 9 = .ok (.getfield 11, 3) := by decide +kernel
theorem dX9_mostByTable_12 : decode cX9_mostByTable 12 = .ok (.sipush 512, 3) := by decide +kernel
theorem dX9_mostByTable_15 : decode cX9_mostByTable 15 = .ok (.iload_n 2, 1) := by decide +kernel
theorem dX9_mostByTable_16 : decode cX9_mostByTable 16 = .ok (.iadd, 1) := by decide +kernel
theorem dX9_mostByTable_17 : decode cX9_mostByTable 17 = .ok (.iconst 0, 1) := by decide +kernel
theorem dX9_mostByTable_18 : decode cX9_mostByTable 18 = .ok (.iastore, 1) := by decide +kernel
theorem dX9_mostByTable_19 : decode cX9_mostByTable 19 = .ok (.iinc 2 1, 3) := by decide +kernel
theorem dX9_mostByTable_22 : decode cX9_mostByTable 22 = .ok (.goto (-20), 3) := by decide +kernel
theorem dX9_mostByTable_25 : decode cX9_mostByTable 25 = .ok (.bipush 7, 2) := by decide +kernel
theorem dX9_mostByTable_27 : decode cX9_mostByTable 27 = .ok (.istore_n 2, 1) := by decide +kernel
theorem dX9_mostByTable_28 : decode cX9_mostByTable 28 = .ok (.iload_n 2, 1) := by decide +kernel
theorem dX9_mostByTable_29 : decode cX9_mostByTable 29 = .ok (.ifCond .lt 41, 3) := by decide +kernel
theorem dX9_mostByTable_32 : decode cX9_mostByTable 32 = .ok (.iconst 0, 1) := by decide +kernel
theorem dX9_mostByTable_33 : decode cX9_mostByTable 33 = .ok (.istore_n 3, 1) := by decide +kernel
theorem dX9_mostByTable_34 : decode cX9_mostByTable 34 = .ok (.iload_n 3, 1) := by decide +kernel
theorem dX9_mostByTable_35 : decode cX9_mostByTable 35 = .ok (.bipush 64, 2) := by decide +kernel
theorem dX9_mostByTable_37 : decode cX9_mostByTable 37 = .ok (.if_icmp .ge 27, 3) := by decide +kernel
theorem dX9_mostByTable_40 : decode cX9_mostByTable 40 = .ok (.aload_n 0, 1) := by decide +kernel
theorem dX9_mostByTable_41 : decode cX9_mostByTable 41 = .ok (.getfield 11, 3) := by decide +kernel
theorem dX9_mostByTable_44 : decode cX9_mostByTable 44 = .ok (.iload_n 2, 1) := by decide +kernel
theorem dX9_mostByTable_45 : decode cX9_mostByTable 45 = .ok (.bipush 64, 2) := by decide +kernel
theorem dX9_mostByTable_47 : decode cX9_mostByTable 47 = .ok (.imul, 1) := by decide +kernel
theorem dX9_mostByTable_48 : decode cX9_mostByTable 48 = .ok (.iload_n 3, 1) := by decide +kernel
theorem dX9_mostByTable_49 : decode cX9_mostByTable 49 = .ok (.iadd, 1) := by decide +kernel
theorem dX9_mostByTable_50 : decode cX9_mostByTable 50 = .ok (.aload_n 0, 1) := by decide +kernel
theorem dX9_mostByTable_51 : decode cX9_mostByTable 51 = .ok (.iload_n 2, 1) := by decide +kernel
theorem dX9_mostByTable_52 : decode cX9_mostByTable 52 = .ok (.iload_n 3, 1) := by decide +kernel
theorem dX9_mostByTable_53 : decode cX9_mostByTable 53 = .ok (.aload_n 1, 1) := by decide +kernel
theorem dX9_mostByTable_54 : decode cX9_mostByTable 54 = .ok (.invokevirtual 32, 3) := by decide +kernel
theorem dX9_mostByTable_57 : decode cX9_mostByTable 57 = .ok (.iastore, 1) := by decide +kernel
theorem dX9_mostByTable_58 : decode cX9_mostByTable 58 = .ok (.iinc 3 1, 3) := by decide +kernel
theorem dX9_mostByTable_61 : decode cX9_mostByTable 61 = .ok (.goto (-27), 3) := by decide +kernel
theorem dX9_mostByTable_64 : decode cX9_mostByTable 64 = .ok (.iinc 2 (-1), 3) := by decide +kernel
theorem dX9_mostByTable_67 : decode cX9_mostByTable 67 = .ok (.goto (-39), 3) := by decide +kernel
theorem dX9_mostByTable_70 : decode cX9_mostByTable 70 = .ok (.aload_n 0, 1) := by decide +kernel
theorem dX9_mostByTable_71 : decode cX9_mostByTable 71 = .ok (.getfield 11, 3) := by decide +kernel
theorem dX9_mostByTable_74 : decode cX9_mostByTable 74 = .ok (.iconst 0, 1) := by decide +kernel
theorem dX9_mostByTable_75 : decode cX9_mostByTable 75 = .ok (.iaload, 1) := by decide +kernel
theorem dX9_mostByTable_76 : decode cX9_mostByTable 76 = .ok (.ireturn, 1) := by decide +kernel
theorem dX9_mostFrom_0 : decode cX9_mostFrom 0 = .ok (.iload_n 1, 1) := by decide +kernel
theorem dX9_mostFrom_1 : decode cX9_mostFrom 1 = .ok (.iconst 1, 1) := by decide +kernel
theorem dX9_mostFrom_2 : decode cX9_mostFrom 2 = .ok (.iadd, 1) := by decide +kernel
theorem dX9_mostFrom_3 : decode cX9_mostFrom 3 = .ok (.bipush 64, 2) := by decide +kernel
theorem dX9_mostFrom_5 : decode cX9_mostFrom 5 = .ok (.imul, 1) := by decide +kernel
theorem dX9_mostFrom_6 : decode cX9_mostFrom 6 = .ok (.istore 4, 2) := by decide +kernel
theorem dX9_mostFrom_8 : decode cX9_mostFrom 8 = .ok (.aload_n 0, 1) := by decide +kernel
theorem dX9_mostFrom_9 : decode cX9_mostFrom 9 = .ok (.getfield 11, 3) := by decide +kernel
theorem dX9_mostFrom_12 : decode cX9_mostFrom 12 = .ok (.iload 4, 2) := by decide +kernel
theorem dX9_mostFrom_14 : decode cX9_mostFrom 14 = .ok (.iload_n 2, 1) := by decide +kernel
theorem dX9_mostFrom_15 : decode cX9_mostFrom 15 = .ok (.iadd, 1) := by decide +kernel
theorem dX9_mostFrom_16 : decode cX9_mostFrom 16 = .ok (.iaload, 1) := by decide +kernel
theorem dX9_mostFrom_17 : decode cX9_mostFrom 17 = .ok (.istore 5, 2) := by decide +kernel
theorem dX9_mostFrom_19 : decode cX9_mostFrom 19 = .ok (.iconst 0, 1) := by decide +kernel
theorem dX9_mostFrom_20 : decode cX9_mostFrom 20 = .ok (.istore 6, 2) := by decide +kernel
theorem dX9_mostFrom_22 : decode cX9_mostFrom 22 = .ok (.iload 6, 2) := by decide +kernel
theorem dX9_mostFrom_24 : decode cX9_mostFrom 24 = .ok (.bipush 6, 2) := by decide +kernel
theorem dX9_mostFrom_26 : decode cX9_mostFrom 26 = .ok (.if_icmp .ge 51, 3) := by decide +kernel
theorem dX9_mostFrom_29 : decode cX9_mostFrom 29 = .ok (.iload_n 2, 1) := by decide +kernel
theorem dX9_mostFrom_30 : decode cX9_mostFrom 30 = .ok (.iload 6, 2) := by decide +kernel
theorem dX9_mostFrom_32 : decode cX9_mostFrom 32 = .ok (.invokestatic 36, 3) := by decide +kernel
theorem dX9_mostFrom_35 : decode cX9_mostFrom 35 = .ok (.ifCond .eq 36, 3) := by decide +kernel
theorem dX9_mostFrom_38 : decode cX9_mostFrom 38 = .ok (.aload_n 3, 1) := by decide +kernel
theorem dX9_mostFrom_39 : decode cX9_mostFrom 39 = .ok (.iload 6, 2) := by decide +kernel
theorem dX9_mostFrom_41 : decode cX9_mostFrom 41 = .ok (.iload_n 1, 1) := by decide +kernel
theorem dX9_mostFrom_42 : decode cX9_mostFrom 42 = .ok (.invokestatic 28, 3) := by decide +kernel
theorem dX9_mostFrom_45 : decode cX9_mostFrom 45 = .ok (.ifCond .eq 26, 3) := by decide +kernel
theorem dX9_mostFrom_48 : decode cX9_mostFrom 48 = .ok (.iload 5, 2) := by decide +kernel
theorem dX9_mostFrom_50 : decode cX9_mostFrom 50 = .ok (.iconst 1, 1) := by decide +kernel
theorem dX9_mostFrom_51 : decode cX9_mostFrom 51 = .ok (.aload_n 0, 1) := by decide +kernel
theorem dX9_mostFrom_52 : decode cX9_mostFrom 52 = .ok (.getfield 11, 3) := by decide +kernel
theorem dX9_mostFrom_55 : decode cX9_mostFrom 55 = .ok (.iload 4, 2) := by decide +kernel
theorem dX9_mostFrom_57 : decode cX9_mostFrom 57 = .ok (.iload_n 2, 1) := by decide +kernel
theorem dX9_mostFrom_58 : decode cX9_mostFrom 58 = .ok (.iconst 1, 1) := by decide +kernel
theorem dX9_mostFrom_59 : decode cX9_mostFrom 59 = .ok (.iload 6, 2) := by decide +kernel
theorem dX9_mostFrom_61 : decode cX9_mostFrom 61 = .ok (.ishl, 1) := by decide +kernel
theorem dX9_mostFrom_62 : decode cX9_mostFrom 62 = .ok (.ior, 1) := by decide +kernel
theorem dX9_mostFrom_63 : decode cX9_mostFrom 63 = .ok (.iadd, 1) := by decide +kernel
theorem dX9_mostFrom_64 : decode cX9_mostFrom 64 = .ok (.iaload, 1) := by decide +kernel
theorem dX9_mostFrom_65 : decode cX9_mostFrom 65 = .ok (.iadd, 1) := by decide +kernel
theorem dX9_mostFrom_66 : decode cX9_mostFrom 66 = .ok (.invokestatic 40, 3) := by decide +kernel
theorem dX9_mostFrom_69 : decode cX9_mostFrom 69 = .ok (.istore 5, 2) := by decide +kernel
theorem dX9_mostFrom_71 : decode cX9_mostFrom 71 = .ok (.iinc 6 1, 3) := by decide +kernel
theorem dX9_mostFrom_74 : decode cX9_mostFrom 74 = .ok (.goto (-52), 3) := by decide +kernel
theorem dX9_mostFrom_77 : decode cX9_mostFrom 77 = .ok (.iload 5, 2) := by decide +kernel
theorem dX9_mostFrom_79 : decode cX9_mostFrom 79 = .ok (.ireturn, 1) := by decide +kernel
theorem dX9_findBest_0 : decode cX9_findBest 0 = .ok (.aload_n 0, 1) := by decide +kernel
theorem dX9_findBest_1 : decode cX9_findBest 1 = .ok (.aload_n 1, 1) := by decide +kernel
theorem dX9_findBest_2 : decode cX9_findBest 2 = .ok (.invokevirtual 46, 3) := by decide +kernel
theorem dX9_findBest_5 : decode cX9_findBest 5 = .ok (.pop, 1) := by decide +kernel
theorem dX9_findBest_6 : decode cX9_findBest 6 = .ok (.iconst 0, 1) := by decide +kernel
theorem dX9_findBest_7 : decode cX9_findBest 7 = .ok (.istore_n 2, 1) := by decide +kernel
theorem dX9_findBest_8 : decode cX9_findBest 8 = .ok (.iconst 0, 1) := by decide +kernel
theorem dX9_findBest_9 : decode cX9_findBest 9 = .ok (.istore_n 3, 1) := by decide +kernel
theorem dX9_findBest_10 : decode cX9_findBest 10 = .ok (.iload_n 3, 1) := by decide +kernel
theorem dX9_findBest_11 : decode cX9_findBest 11 = .ok (.bipush 8, 2) := by decide +kernel
theorem dX9_findBest_13 : decode cX9_findBest 13 = .ok (.if_icmp .ge 39, 3) := by decide +kernel
theorem dX9_findBest_16 : decode cX9_findBest 16 = .ok (.aload_n 0, 1) := by decide +kernel
theorem dX9_findBest_17 : decode cX9_findBest 17 = .ok (.iload_n 3, 1) := by decide +kernel
theorem dX9_findBest_18 : decode cX9_findBest 18 = .ok (.iload_n 2, 1) := by decide +kernel
theorem dX9_findBest_19 : decode cX9_findBest 19 = .ok (.aload_n 1, 1) := by decide +kernel
theorem dX9_findBest_20 : decode cX9_findBest 20 = .ok (.invokevirtual 50, 3) := by decide +kernel
theorem dX9_findBest_23 : decode cX9_findBest 23 = .ok (.istore 4, 2) := by decide +kernel
theorem dX9_findBest_25 : decode cX9_findBest 25 = .ok (.aload_n 0, 1) := by decide +kernel
theorem dX9_findBest_26 : decode cX9_findBest 26 = .ok (.getfield 21, 3) := by decide +kernel
theorem dX9_findBest_29 : decode cX9_findBest 29 = .ok (.iload_n 3, 1) := by decide +kernel
theorem dX9_findBest_30 : decode cX9_findBest 30 = .ok (.iload 4, 2) := by decide +kernel
theorem dX9_findBest_32 : decode cX9_findBest 32 = .ok (.iastore, 1) := by decide +kernel
theorem dX9_findBest_33 : decode cX9_findBest 33 = .ok (.iload 4, 2) := by decide +kernel
theorem dX9_findBest_35 : decode cX9_findBest 35 = .ok (.iconst (-1), 1) := by decide +kernel
theorem dX9_findBest_36 : decode cX9_findBest 36 = .ok (.if_icmp .eq 10, 3) := by decide +kernel
theorem dX9_findBest_39 : decode cX9_findBest 39 = .ok (.iload_n 2, 1) := by decide +kernel
theorem dX9_findBest_40 : decode cX9_findBest 40 = .ok (.iconst 1, 1) := by decide +kernel
theorem dX9_findBest_41 : decode cX9_findBest 41 = .ok (.iload 4, 2) := by decide +kernel
theorem dX9_findBest_43 : decode cX9_findBest 43 = .ok (.ishl, 1) := by decide +kernel
theorem dX9_findBest_44 : decode cX9_findBest 44 = .ok (.ior, 1) := by decide +kernel
theorem dX9_findBest_45 : decode cX9_findBest 45 = .ok (.istore_n 2, 1) := by decide +kernel
theorem dX9_findBest_46 : decode cX9_findBest 46 = .ok (.iinc 3 1, 3) := by decide +kernel
theorem dX9_findBest_49 : decode cX9_findBest 49 = .ok (.goto (-39), 3) := by decide +kernel
theorem dX9_findBest_52 : decode cX9_findBest 52 = .ok (.return_, 1) := by decide +kernel
theorem dX9_lowestKeeper_0 : decode cX9_lowestKeeper 0 = .ok (.aload_n 0, 1) := by decide +kernel
theorem dX9_lowestKeeper_1 : decode cX9_lowestKeeper 1 = .ok (.getfield 11, 3) := by decide +kernel
theorem dX9_lowestKeeper_4 : decode cX9_lowestKeeper 4 = .ok (.iload_n 1, 1) := by decide +kernel
theorem dX9_lowestKeeper_5 : decode cX9_lowestKeeper 5 = .ok (.bipush 64, 2) := by decide +kernel
theorem dX9_lowestKeeper_7 : decode cX9_lowestKeeper 7 = .ok (.imul, 1) := by decide +kernel
theorem dX9_lowestKeeper_8 : decode cX9_lowestKeeper 8 = .ok (.iload_n 2, 1) := by decide +kernel
theorem dX9_lowestKeeper_9 : decode cX9_lowestKeeper 9 = .ok (.iadd, 1) := by decide +kernel
theorem dX9_lowestKeeper_10 : decode cX9_lowestKeeper 10 = .ok (.iaload, 1) := by decide +kernel
theorem dX9_lowestKeeper_11 : decode cX9_lowestKeeper 11 = .ok (.istore 4, 2) := by decide +kernel
theorem dX9_lowestKeeper_13 : decode cX9_lowestKeeper 13 = .ok (.iconst 0, 1) := by decide +kernel
theorem dX9_lowestKeeper_14 : decode cX9_lowestKeeper 14 = .ok (.istore 5, 2) := by decide +kernel
theorem dX9_lowestKeeper_16 : decode cX9_lowestKeeper 16 = .ok (.iload 5, 2) := by decide +kernel
theorem dX9_lowestKeeper_18 : decode cX9_lowestKeeper 18 = .ok (.bipush 6, 2) := by decide +kernel
theorem dX9_lowestKeeper_20 : decode cX9_lowestKeeper 20 = .ok (.if_icmp .ge 56, 3) := by decide +kernel
theorem dX9_lowestKeeper_23 : decode cX9_lowestKeeper 23 = .ok (.iload_n 2, 1) := by decide +kernel
theorem dX9_lowestKeeper_24 : decode cX9_lowestKeeper 24 = .ok (.iload 5, 2) := by decide +kernel
theorem dX9_lowestKeeper_26 : decode cX9_lowestKeeper 26 = .ok (.invokestatic 36, 3) := by decide +kernel
theorem dX9_lowestKeeper_29 : decode cX9_lowestKeeper 29 = .ok (.ifCond .eq 41, 3) := by decide +kernel
theorem dX9_lowestKeeper_32 : decode cX9_lowestKeeper 32 = .ok (.aload_n 3, 1) := by decide +kernel
theorem dX9_lowestKeeper_33 : decode cX9_lowestKeeper 33 = .ok (.iload 5, 2) := by decide +kernel
theorem dX9_lowestKeeper_35 : decode cX9_lowestKeeper 35 = .ok (.iload_n 1, 1) := by decide +kernel
theorem dX9_lowestKeeper_36 : decode cX9_lowestKeeper 36 = .ok (.invokestatic 28, 3) := by decide +kernel
theorem dX9_lowestKeeper_39 : decode cX9_lowestKeeper 39 = .ok (.ifCond .eq 31, 3) := by decide +kernel
theorem dX9_lowestKeeper_42 : decode cX9_lowestKeeper 42 = .ok (.iconst 1, 1) := by decide +kernel
theorem dX9_lowestKeeper_43 : decode cX9_lowestKeeper 43 = .ok (.aload_n 0, 1) := by decide +kernel
theorem dX9_lowestKeeper_44 : decode cX9_lowestKeeper 44 = .ok (.getfield 11, 3) := by decide +kernel
theorem dX9_lowestKeeper_47 : decode cX9_lowestKeeper 47 = .ok (.iload_n 1, 1) := by decide +kernel
theorem dX9_lowestKeeper_48 : decode cX9_lowestKeeper 48 = .ok (.iconst 1, 1) := by decide +kernel
theorem dX9_lowestKeeper_49 : decode cX9_lowestKeeper 49 = .ok (.iadd, 1) := by decide +kernel
theorem dX9_lowestKeeper_50 : decode cX9_lowestKeeper 50 = .ok (.bipush 64, 2) := by decide +kernel
theorem dX9_lowestKeeper_52 : decode cX9_lowestKeeper 52 = .ok (.imul, 1) := by decide +kernel
theorem dX9_lowestKeeper_53 : decode cX9_lowestKeeper 53 = .ok (.iload_n 2, 1) := by decide +kernel
theorem dX9_lowestKeeper_54 : decode cX9_lowestKeeper 54 = .ok (.iconst 1, 1) := by decide +kernel
theorem dX9_lowestKeeper_55 : decode cX9_lowestKeeper 55 = .ok (.iload 5, 2) := by decide +kernel
theorem dX9_lowestKeeper_57 : decode cX9_lowestKeeper 57 = .ok (.ishl, 1) := by decide +kernel
theorem dX9_lowestKeeper_58 : decode cX9_lowestKeeper 58 = .ok (.ior, 1) := by decide +kernel
theorem dX9_lowestKeeper_59 : decode cX9_lowestKeeper 59 = .ok (.iadd, 1) := by decide +kernel
theorem dX9_lowestKeeper_60 : decode cX9_lowestKeeper 60 = .ok (.iaload, 1) := by decide +kernel
theorem dX9_lowestKeeper_61 : decode cX9_lowestKeeper 61 = .ok (.iadd, 1) := by decide +kernel
theorem dX9_lowestKeeper_62 : decode cX9_lowestKeeper 62 = .ok (.iload 4, 2) := by decide +kernel
theorem dX9_lowestKeeper_64 : decode cX9_lowestKeeper 64 = .ok (.if_icmp .ne 6, 3) := by decide +kernel
theorem dX9_lowestKeeper_67 : decode cX9_lowestKeeper 67 = .ok (.iload 5, 2) := by decide +kernel
theorem dX9_lowestKeeper_69 : decode cX9_lowestKeeper 69 = .ok (.ireturn, 1) := by decide +kernel
theorem dX9_lowestKeeper_70 : decode cX9_lowestKeeper 70 = .ok (.iinc 5 1, 3) := by decide +kernel
theorem dX9_lowestKeeper_73 : decode cX9_lowestKeeper 73 = .ok (.goto (-57), 3) := by decide +kernel
theorem dX9_lowestKeeper_76 : decode cX9_lowestKeeper 76 = .ok (.iconst (-1), 1) := by decide +kernel
theorem dX9_lowestKeeper_77 : decode cX9_lowestKeeper 77 = .ok (.ireturn, 1) := by decide +kernel
theorem dX9_isFree_0 : decode cX9_isFree 0 = .ok (.iload_n 0, 1) := by decide +kernel
theorem dX9_isFree_1 : decode cX9_isFree 1 = .ok (.iconst 1, 1) := by decide +kernel
theorem dX9_isFree_2 : decode cX9_isFree 2 = .ok (.iload_n 1, 1) := by decide +kernel
theorem dX9_isFree_3 : decode cX9_isFree 3 = .ok (.ishl, 1) := by decide +kernel
theorem dX9_isFree_4 : decode cX9_isFree 4 = .ok (.iand, 1) := by decide +kernel
theorem dX9_isFree_5 : decode cX9_isFree 5 = .ok (.ifCond .ne 7, 3) := by decide +kernel
theorem dX9_isFree_8 : decode cX9_isFree 8 = .ok (.iconst 1, 1) := by decide +kernel
theorem dX9_isFree_9 : decode cX9_isFree 9 = .ok (.goto 4, 3) := by decide +kernel
theorem dX9_isFree_12 : decode cX9_isFree 12 = .ok (.iconst 0, 1) := by decide +kernel
theorem dX9_isFree_13 : decode cX9_isFree 13 = .ok (.ireturn, 1) := by decide +kernel
theorem dX9_canKeep_0 : decode cX9_canKeep 0 = .ok (.aload_n 0, 1) := by decide +kernel
theorem dX9_canKeep_1 : decode cX9_canKeep 1 = .ok (.iload_n 1, 1) := by decide +kernel
theorem dX9_canKeep_2 : decode cX9_canKeep 2 = .ok (.iaload, 1) := by decide +kernel
theorem dX9_canKeep_3 : decode cX9_canKeep 3 = .ok (.iconst 1, 1) := by decide +kernel
theorem dX9_canKeep_4 : decode cX9_canKeep 4 = .ok (.iload_n 2, 1) := by decide +kernel
theorem dX9_canKeep_5 : decode cX9_canKeep 5 = .ok (.ishl, 1) := by decide +kernel
theorem dX9_canKeep_6 : decode cX9_canKeep 6 = .ok (.iand, 1) := by decide +kernel
theorem dX9_canKeep_7 : decode cX9_canKeep 7 = .ok (.ifCond .eq 7, 3) := by decide +kernel
theorem dX9_canKeep_10 : decode cX9_canKeep 10 = .ok (.iconst 1, 1) := by decide +kernel
theorem dX9_canKeep_11 : decode cX9_canKeep 11 = .ok (.goto 4, 3) := by decide +kernel
theorem dX9_canKeep_14 : decode cX9_canKeep 14 = .ok (.iconst 0, 1) := by decide +kernel
theorem dX9_canKeep_15 : decode cX9_canKeep 15 = .ok (.ireturn, 1) := by decide +kernel
theorem dX10_init_0 : decode cX10_init 0 = .ok (.aload_n 0, 1) := by decide +kernel
theorem dX10_init_1 : decode cX10_init 1 = .ok (.invokespecial 1, 3) := by decide +kernel
theorem dX10_init_4 : decode cX10_init 4 = .ok (.aload_n 0, 1) := by decide +kernel
theorem dX10_init_5 : decode cX10_init 5 = .ok (.new 7, 3) := by decide +kernel
theorem dX10_init_8 : decode cX10_init 8 = .ok (.dup, 1) := by decide +kernel
theorem dX10_init_9 : decode cX10_init 9 = .ok (.invokespecial 9, 3) := by decide +kernel
theorem dX10_init_12 : decode cX10_init 12 = .ok (.putfield 10, 3) := by decide +kernel
theorem dX10_init_15 : decode cX10_init 15 = .ok (.aload_n 0, 1) := by decide +kernel
theorem dX10_init_16 : decode cX10_init 16 = .ok (.new 7, 3) := by decide +kernel
theorem dX10_init_19 : decode cX10_init 19 = .ok (.dup, 1) := by decide +kernel
theorem dX10_init_20 : decode cX10_init 20 = .ok (.invokespecial 9, 3) := by decide +kernel
theorem dX10_init_23 : decode cX10_init 23 = .ok (.putfield 16, 3) := by decide +kernel
theorem dX10_init_26 : decode cX10_init 26 = .ok (.aload_n 0, 1) := by decide +kernel
theorem dX10_init_27 : decode cX10_init 27 = .ok (.new 7, 3) := by decide +kernel
theorem dX10_init_30 : decode cX10_init 30 = .ok (.dup, 1) := by decide +kernel
theorem dX10_init_31 : decode cX10_init 31 = .ok (.invokespecial 9, 3) := by decide +kernel
theorem dX10_init_34 : decode cX10_init 34 = .ok (.putfield 19, 3) := by decide +kernel
theorem dX10_init_37 : decode cX10_init 37 = .ok (.aload_n 0, 1) := by decide +kernel
theorem dX10_init_38 : decode cX10_init 38 = .ok (.new 22, 3) := by decide +kernel
theorem dX10_init_41 : decode cX10_init 41 = .ok (.dup, 1) := by decide +kernel
theorem dX10_init_42 : decode cX10_init 42 = .ok (.invokespecial 24, 3) := by decide +kernel
theorem dX10_init_45 : decode cX10_init 45 = .ok (.putfield 25, 3) := by decide +kernel
theorem dX10_init_48 : decode cX10_init 48 = .ok (.aload_n 0, 1) := by decide +kernel
theorem dX10_init_49 : decode cX10_init 49 = .ok (.new 29, 3) := by decide +kernel
theorem dX10_init_52 : decode cX10_init 52 = .ok (.dup, 1) := by decide +kernel
theorem dX10_init_53 : decode cX10_init 53 = .ok (.invokespecial 31, 3) := by decide +kernel
theorem dX10_init_56 : decode cX10_init 56 = .ok (.putfield 32, 3) := by decide +kernel
theorem dX10_init_59 : decode cX10_init 59 = .ok (.aload_n 0, 1) := by decide +kernel
theorem dX10_init_60 : decode cX10_init 60 = .ok (.new 36, 3) := by decide +kernel
theorem dX10_init_63 : decode cX10_init 63 = .ok (.dup, 1) := by decide +kernel
theorem dX10_init_64 : decode cX10_init 64 = .ok (.invokespecial 38, 3) := by decide +kernel
theorem dX10_init_67 : decode cX10_init 67 = .ok (.putfield 39, 3) := by decide +kernel
theorem dX10_init_70 : decode cX10_init 70 = .ok (.aload_n 0, 1) := by decide +kernel
theorem dX10_init_71 : decode cX10_init 71 = .ok (.new 43, 3) := by decide +kernel
theorem dX10_init_74 : decode cX10_init 74 = .ok (.dup, 1) := by decide +kernel
theorem dX10_init_75 : decode cX10_init 75 = .ok (.invokespecial 45, 3) := by decide +kernel
theorem dX10_init_78 : decode cX10_init 78 = .ok (.putfield 46, 3) := by decide +kernel
theorem dX10_init_81 : decode cX10_init 81 = .ok (.aload_n 0, 1) := by decide +kernel
theorem dX10_init_82 : decode cX10_init 82 = .ok (.new 50, 3) := by decide +kernel
theorem dX10_init_85 : decode cX10_init 85 = .ok (.dup, 1) := by decide +kernel
theorem dX10_init_86 : decode cX10_init 86 = .ok (.invokespecial 52, 3) := by decide +kernel
theorem dX10_init_89 : decode cX10_init 89 = .ok (.putfield 53, 3) := by decide +kernel
theorem dX10_init_92 : decode cX10_init 92 = .ok (.aload_n 0, 1) := by decide +kernel
theorem dX10_init_93 : decode cX10_init 93 = .ok (.new 57, 3) := by decide +kernel
theorem dX10_init_96 : decode cX10_init 96 = .ok (.dup, 1) := by decide +kernel
theorem dX10_init_97 : decode cX10_init 97 = .ok (.invokespecial 59, 3) := by decide +kernel
theorem dX10_init_100 : decode cX10_init 100 = .ok (.putfield 60, 3) := by decide +kernel
theorem dX10_init_103 : decode cX10_init 103 = .ok (.aload_n 0, 1) := by decide +kernel
theorem dX10_init_104 : decode cX10_init 104 = .ok (.bipush 24, 2) := by decide +kernel
theorem dX10_init_106 : decode cX10_init 106 = .ok (.newarray .int, 2) := by decide +kernel
theorem dX10_init_108 : decode cX10_init 108 = .ok (.putfield 64, 3) := by decide +kernel
theorem dX10_init_111 : decode cX10_init 111 = .ok (.aload_n 0, 1) := by decide +kernel
theorem dX10_init_112 : decode cX10_init 112 = .ok (.iconst (-1), 1) := by decide +kernel
theorem dX10_init_113 : decode cX10_init 113 = .ok (.putfield 68, 3) := by decide +kernel
theorem dX10_init_116 : decode cX10_init 116 = .ok (.aload_n 0, 1) := by decide +kernel
theorem dX10_init_117 : decode cX10_init 117 = .ok (.iconst (-1), 1) := by decide +kernel
theorem dX10_init_118 : decode cX10_init 118 = .ok (.putfield 72, 3) := by decide +kernel
theorem dX10_init_121 : decode cX10_init 121 = .ok (.return_, 1) := by decide +kernel
theorem dX10_addEngine_0 : decode cX10_addEngine 0 = .ok (.aload_n 0, 1) := by decide +kernel
theorem dX10_addEngine_1 : decode cX10_addEngine 1 = .ok (.getfield 10, 3) := by decide +kernel
theorem dX10_addEngine_4 : decode cX10_addEngine 4 = .ok (.iload_n 1, 1) := by decide +kernel
theorem dX10_addEngine_5 : decode cX10_addEngine 5 = .ok (.invokevirtual 75, 3) := by decide +kernel
theorem dX10_addEngine_8 : decode cX10_addEngine 8 = .ok (.invokestatic 79, 3) := by decide +kernel
theorem dX10_addEngine_11 : decode cX10_addEngine 11 = .ok (.aload_n 0, 1) := by decide +kernel
theorem dX10_addEngine_12 : decode cX10_addEngine 12 = .ok (.getfield 25, 3) := by decide +kernel
theorem dX10_addEngine_15 : decode cX10_addEngine 15 = .ok (.aload_n 0, 1) := by decide +kernel
theorem dX10_addEngine_16 : decode cX10_addEngine 16 = .ok (.getfield 10, 3) := by decide +kernel
theorem dX10_addEngine_19 : decode cX10_addEngine 19 = .ok (.invokevirtual 83, 3) := by decide +kernel
theorem dX10_addEngine_22 : decode cX10_addEngine 22 = .ok (.aload_n 0, 1) := by decide +kernel
theorem dX10_addEngine_23 : decode cX10_addEngine 23 = .ok (.getfield 10, 3) := by decide +kernel
theorem dX10_addEngine_26 : decode cX10_addEngine 26 = .ok (.iload_n 1, 1) := by decide +kernel
theorem dX10_addEngine_27 : decode cX10_addEngine 27 = .ok (.invokevirtual 87, 3) := by decide +kernel
theorem dX10_addEngine_30 : decode cX10_addEngine 30 = .ok (.ireturn, 1) := by decide +kernel
theorem dX10_exchange_0 : decode cX10_exchange 0 = .ok (.aload_n 0, 1) := by decide +kernel
theorem dX10_exchange_1 : decode cX10_exchange 1 = .ok (.getfield 10, 3) := by decide +kernel
theorem dX10_exchange_4 : decode cX10_exchange 4 = .ok (.iload_n 1, 1) := by decide +kernel
theorem dX10_exchange_5 : decode cX10_exchange 5 = .ok (.iload_n 2, 1) := by decide +kernel
theorem dX10_exchange_6 : decode cX10_exchange 6 = .ok (.iload_n 3, 1) := by decide +kernel
theorem dX10_exchange_7 : decode cX10_exchange 7 = .ok (.invokevirtual 90, 3) := by decide +kernel
theorem dX10_exchange_10 : decode cX10_exchange 10 = .ok (.invokestatic 79, 3) := by decide +kernel
theorem dX10_exchange_13 : decode cX10_exchange 13 = .ok (.aload_n 0, 1) := by decide +kernel
theorem dX10_exchange_14 : decode cX10_exchange 14 = .ok (.getfield 25, 3) := by decide +kernel
theorem dX10_exchange_17 : decode cX10_exchange 17 = .ok (.aload_n 0, 1) := by decide +kernel
theorem dX10_exchange_18 : decode cX10_exchange 18 = .ok (.getfield 10, 3) := by decide +kernel
theorem dX10_exchange_21 : decode cX10_exchange 21 = .ok (.invokevirtual 83, 3) := by decide +kernel
theorem dX10_exchange_24 : decode cX10_exchange 24 = .ok (.aload_n 0, 1) := by decide +kernel
theorem dX10_exchange_25 : decode cX10_exchange 25 = .ok (.getfield 10, 3) := by decide +kernel
theorem dX10_exchange_28 : decode cX10_exchange 28 = .ok (.getfield 94, 3) := by decide +kernel
theorem dX10_exchange_31 : decode cX10_exchange 31 = .ok (.iload_n 1, 1) := by decide +kernel
theorem dX10_exchange_32 : decode cX10_exchange 32 = .ok (.aaload, 1) := by decide +kernel
theorem dX10_exchange_33 : decode cX10_exchange 33 = .ok (.iload_n 2, 1) := by decide +kernel
theorem dX10_exchange_34 : decode cX10_exchange 34 = .ok (.iload_n 3, 1) := by decide +kernel
theorem dX10_exchange_35 : decode cX10_exchange 35 = .ok (.invokevirtual 98, 3) := by decide +kernel
theorem dX10_exchange_38 : decode cX10_exchange 38 = .ok (.ireturn, 1) := by decide +kernel
theorem dX10_setRate_0 : decode cX10_setRate 0 = .ok (.aload_n 0, 1) := by decide +kernel
theorem dX10_setRate_1 : decode cX10_setRate 1 = .ok (.getfield 10, 3) := by decide +kernel
theorem dX10_setRate_4 : decode cX10_setRate 4 = .ok (.iload_n 1, 1) := by decide +kernel
theorem dX10_setRate_5 : decode cX10_setRate 5 = .ok (.iload_n 2, 1) := by decide +kernel
theorem dX10_setRate_6 : decode cX10_setRate 6 = .ok (.invokevirtual 104, 3) := by decide +kernel
theorem dX10_setRate_9 : decode cX10_setRate 9 = .ok (.invokestatic 79, 3) := by decide +kernel
theorem dX10_setRate_12 : decode cX10_setRate 12 = .ok (.aload_n 0, 1) := by decide +kernel
theorem dX10_setRate_13 : decode cX10_setRate 13 = .ok (.getfield 25, 3) := by decide +kernel
theorem dX10_setRate_16 : decode cX10_setRate 16 = .ok (.aload_n 0, 1) := by decide +kernel
theorem dX10_setRate_17 : decode cX10_setRate 17 = .ok (.getfield 10, 3) := by decide +kernel
theorem dX10_setRate_20 : decode cX10_setRate 20 = .ok (.invokevirtual 83, 3) := by decide +kernel
theorem dX10_setRate_23 : decode cX10_setRate 23 = .ok (.aload_n 0, 1) := by decide +kernel
theorem dX10_setRate_24 : decode cX10_setRate 24 = .ok (.getfield 10, 3) := by decide +kernel
theorem dX10_setRate_27 : decode cX10_setRate 27 = .ok (.getfield 94, 3) := by decide +kernel
theorem dX10_setRate_30 : decode cX10_setRate 30 = .ok (.iload_n 1, 1) := by decide +kernel
theorem dX10_setRate_31 : decode cX10_setRate 31 = .ok (.aaload, 1) := by decide +kernel
theorem dX10_setRate_32 : decode cX10_setRate 32 = .ok (.iload_n 2, 1) := by decide +kernel
theorem dX10_setRate_33 : decode cX10_setRate 33 = .ok (.invokevirtual 107, 3) := by decide +kernel
theorem dX10_setRate_36 : decode cX10_setRate 36 = .ok (.ireturn, 1) := by decide +kernel
theorem dX10_engineCount_0 : decode cX10_engineCount 0 = .ok (.aload_n 0, 1) := by decide +kernel
theorem dX10_engineCount_1 : decode cX10_engineCount 1 = .ok (.getfield 10, 3) := by decide +kernel
theorem dX10_engineCount_4 : decode cX10_engineCount 4 = .ok (.getfield 110, 3) := by decide +kernel
theorem dX10_engineCount_7 : decode cX10_engineCount 7 = .ok (.ireturn, 1) := by decide +kernel
theorem dX10_cylinderCount_0 : decode cX10_cylinderCount 0 = .ok (.aload_n 0, 1) := by decide +kernel
theorem dX10_cylinderCount_1 : decode cX10_cylinderCount 1 = .ok (.iload_n 1, 1) := by decide +kernel
theorem dX10_cylinderCount_2 : decode cX10_cylinderCount 2 = .ok (.invokevirtual 113, 3) := by decide +kernel
theorem dX10_cylinderCount_5 : decode cX10_cylinderCount 5 = .ok (.getfield 117, 3) := by decide +kernel
theorem dX10_cylinderCount_8 : decode cX10_cylinderCount 8 = .ok (.ireturn, 1) := by decide +kernel
theorem dX10_orderAt_0 : decode cX10_orderAt 0 = .ok (.aload_n 0, 1) := by decide +kernel
theorem dX10_orderAt_1 : decode cX10_orderAt 1 = .ok (.iload_n 1, 1) := by decide +kernel
theorem dX10_orderAt_2 : decode cX10_orderAt 2 = .ok (.invokevirtual 113, 3) := by decide +kernel
theorem dX10_orderAt_5 : decode cX10_orderAt 5 = .ok (.astore_n 3, 1) := by decide +kernel
theorem dX10_orderAt_6 : decode cX10_orderAt 6 = .ok (.aload_n 3, 1) := by decide +kernel
theorem dX10_orderAt_7 : decode cX10_orderAt 7 = .ok (.iload_n 2, 1) := by decide +kernel
theorem dX10_orderAt_8 : decode cX10_orderAt 8 = .ok (.invokevirtual 120, 3) := by decide +kernel
theorem dX10_orderAt_11 : decode cX10_orderAt 11 = .ok (.invokestatic 124, 3) := by decide +kernel
theorem dX10_orderAt_14 : decode cX10_orderAt 14 = .ok (.aload_n 3, 1) := by decide +kernel
theorem dX10_orderAt_15 : decode cX10_orderAt 15 = .ok (.getfield 128, 3) := by decide +kernel
theorem dX10_orderAt_18 : decode cX10_orderAt 18 = .ok (.iload_n 2, 1) := by decide +kernel
theorem dX10_orderAt_19 : decode cX10_orderAt 19 = .ok (.iaload, 1) := by decide +kernel
theorem dX10_orderAt_20 : decode cX10_orderAt 20 = .ok (.ireturn, 1) := by decide +kernel
theorem dX10_dueAfter_0 : decode cX10_dueAfter 0 = .ok (.aload_n 0, 1) := by decide +kernel
theorem dX10_dueAfter_1 : decode cX10_dueAfter 1 = .ok (.iload_n 1, 1) := by decide +kernel
theorem dX10_dueAfter_2 : decode cX10_dueAfter 2 = .ok (.invokevirtual 113, 3) := by decide +kernel
theorem dX10_dueAfter_5 : decode cX10_dueAfter 5 = .ok (.astore_n 3, 1) := by decide +kernel
theorem dX10_dueAfter_6 : decode cX10_dueAfter 6 = .ok (.iload_n 2, 1) := by decide +kernel
theorem dX10_dueAfter_7 : decode cX10_dueAfter 7 = .ok (.iconst 0, 1) := by decide +kernel
theorem dX10_dueAfter_8 : decode cX10_dueAfter 8 = .ok (.sipush 9999, 3) := by decide +kernel
theorem dX10_dueAfter_11 : decode cX10_dueAfter 11 = .ok (.invokestatic 131, 3) := by decide +kernel
theorem dX10_dueAfter_14 : decode cX10_dueAfter 14 = .ok (.invokestatic 135, 3) := by decide +kernel
theorem dX10_dueAfter_17 : decode cX10_dueAfter 17 = .ok (.aload_n 3, 1) := by decide +kernel
theorem dX10_dueAfter_18 : decode cX10_dueAfter 18 = .ok (.iload_n 2, 1) := by decide +kernel
theorem dX10_dueAfter_19 : decode cX10_dueAfter 19 = .ok (.invokevirtual 138, 3) := by decide +kernel
theorem dX10_dueAfter_22 : decode cX10_dueAfter 22 = .ok (.ireturn, 1) := by decide +kernel
theorem dX10_dueAfterByStrokes_0 : decode cX10_dueAfterByStrokes 0 = .ok (.aload_n 0, 1) := by decide +kernel
theorem dX10_dueAfterByStrokes_1 : decode cX10_dueAfterByStrokes 1 = .ok (.iload_n 1, 1) := by decide +kernel
theorem dX10_dueAfterByStrokes_2 : decode cX10_dueAfterByStrokes 2 = .ok (.invokevirtual 113, 3) := by decide +kernel
theorem dX10_dueAfterByStrokes_5 : decode cX10_dueAfterByStrokes 5 = .ok (.astore_n 3, 1) := by decide +kernel
theorem dX10_dueAfterByStrokes_6 : decode cX10_dueAfterByStrokes 6 = .ok (.iload_n 2, 1) := by decide +kernel
theorem dX10_dueAfterByStrokes_7 : decode cX10_dueAfterByStrokes 7 = .ok (.iconst 0, 1) := by decide +kernel
theorem dX10_dueAfterByStrokes_8 : decode cX10_dueAfterByStrokes 8 = .ok (.sipush 9999, 3) := by decide +kernel
theorem dX10_dueAfterByStrokes_11 : decode cX10_dueAfterByStrokes 11 = .ok (.invokestatic 131, 3) := by decide +kernel
theorem dX10_dueAfterByStrokes_14 : decode cX10_dueAfterByStrokes 14 = .ok (.invokestatic 135, 3) := by decide +kernel
theorem dX10_dueAfterByStrokes_17 : decode cX10_dueAfterByStrokes 17 = .ok (.aload_n 3, 1) := by decide +kernel
theorem dX10_dueAfterByStrokes_18 : decode cX10_dueAfterByStrokes 18 = .ok (.iload_n 2, 1) := by decide +kernel
theorem dX10_dueAfterByStrokes_19 : decode cX10_dueAfterByStrokes 19 = .ok (.invokevirtual 141, 3) := by decide +kernel
theorem dX10_dueAfterByStrokes_22 : decode cX10_dueAfterByStrokes 22 = .ok (.ireturn, 1) := by decide +kernel
theorem dX10_turnOf_0 : decode cX10_turnOf 0 = .ok (.aload_n 0, 1) := by decide +kernel
theorem dX10_turnOf_1 : decode cX10_turnOf 1 = .ok (.iload_n 1, 1) := by decide +kernel
theorem dX10_turnOf_2 : decode cX10_turnOf 2 = .ok (.invokevirtual 113, 3) := by decide +kernel
theorem dX10_turnOf_5 : decode cX10_turnOf 5 = .ok (.invokevirtual 144, 3) := by decide +kernel
theorem dX10_turnOf_8 : decode cX10_turnOf 8 = .ok (.ireturn, 1) := by decide +kernel
theorem dX10_turnByRepeating_0 : decode cX10_turnByRepeating 0 = .ok (.aload_n 0, 1) := by decide +kernel
theorem dX10_turnByRepeating_1 : decode cX10_turnByRepeating 1 = .ok (.iload_n 1, 1) := by decide +kernel
theorem dX10_turnByRepeating_2 : decode cX10_turnByRepeating 2 = .ok (.invokevirtual 113, 3) := by decide +kernel
theorem dX10_turnByRepeating_5 : decode cX10_turnByRepeating 5 = .ok (.invokevirtual 148, 3) := by decide +kernel
theorem dX10_turnByRepeating_8 : decode cX10_turnByRepeating 8 = .ok (.ireturn, 1) := by decide +kernel
theorem dX10_evenness_0 : decode cX10_evenness 0 = .ok (.aload_n 0, 1) := by decide +kernel
theorem dX10_evenness_1 : decode cX10_evenness 1 = .ok (.iload_n 1, 1) := by decide +kernel
theorem dX10_evenness_2 : decode cX10_evenness 2 = .ok (.invokevirtual 113, 3) := by decide +kernel
theorem dX10_evenness_5 : decode cX10_evenness 5 = .ok (.invokevirtual 151, 3) := by decide +kernel
theorem dX10_evenness_8 : decode cX10_evenness 8 = .ok (.ireturn, 1) := by decide +kernel
theorem dX10_evenOrders_0 : decode cX10_evenOrders 0 = .ok (.aload_n 0, 1) := by decide +kernel
theorem dX10_evenOrders_1 : decode cX10_evenOrders 1 = .ok (.iload_n 1, 1) := by decide +kernel
theorem dX10_evenOrders_2 : decode cX10_evenOrders 2 = .ok (.invokevirtual 113, 3) := by decide +kernel
theorem dX10_evenOrders_5 : decode cX10_evenOrders 5 = .ok (.astore_n 3, 1) := by decide +kernel
theorem dX10_evenOrders_6 : decode cX10_evenOrders 6 = .ok (.iload_n 2, 1) := by decide +kernel
theorem dX10_evenOrders_7 : decode cX10_evenOrders 7 = .ok (.iconst 1, 1) := by decide +kernel
theorem dX10_evenOrders_8 : decode cX10_evenOrders 8 = .ok (.iconst 4, 1) := by decide +kernel
theorem dX10_evenOrders_9 : decode cX10_evenOrders 9 = .ok (.invokestatic 131, 3) := by decide +kernel
theorem dX10_evenOrders_12 : decode cX10_evenOrders 12 = .ok (.invokestatic 135, 3) := by decide +kernel
theorem dX10_evenOrders_15 : decode cX10_evenOrders 15 = .ok (.aload_n 0, 1) := by decide +kernel
theorem dX10_evenOrders_16 : decode cX10_evenOrders 16 = .ok (.getfield 32, 3) := by decide +kernel
theorem dX10_evenOrders_19 : decode cX10_evenOrders 19 = .ok (.aload_n 3, 1) := by decide +kernel
theorem dX10_evenOrders_20 : decode cX10_evenOrders 20 = .ok (.getfield 117, 3) := by decide +kernel
theorem dX10_evenOrders_23 : decode cX10_evenOrders 23 = .ok (.iload_n 2, 1) := by decide +kernel
theorem dX10_evenOrders_24 : decode cX10_evenOrders 24 = .ok (.invokevirtual 154, 3) := by decide +kernel
theorem dX10_evenOrders_27 : decode cX10_evenOrders 27 = .ok (.ireturn, 1) := by decide +kernel
theorem dX10_evenOrdersByTrying_0 : decode cX10_evenOrdersByTrying 0 = .ok (.aload_n 0, 1) := by decide +kernel
theorem dX10_evenOrdersByTrying_1 : decode cX10_evenOrdersByTrying 1 = .ok (.iload_n 1, 1) := by decide +kernel
theorem dX10_evenOrdersByTrying_2 : decode cX10_evenOrdersByTrying 2 = .ok (.invokevirtual 113, 3) := by decide +kernel
theorem dX10_evenOrdersByTrying_5 : decode cX10_evenOrdersByTrying 5 = .ok (.astore_n 3, 1) := by decide +kernel
theorem dX10_evenOrdersByTrying_6 : decode cX10_evenOrdersByTrying 6 = .ok (.iload_n 2, 1) := by decide +kernel
theorem dX10_evenOrdersByTrying_7 : decode cX10_evenOrdersByTrying 7 = .ok (.iconst 1, 1) := by decide +kernel
theorem dX10_evenOrdersByTrying_8 : decode cX10_evenOrdersByTrying 8 = .ok (.iconst 4, 1) := by decide +kernel
theorem dX10_evenOrdersByTrying_9 : decode cX10_evenOrdersByTrying 9 = .ok (.invokestatic 131, 3) := by decide +kernel
theorem dX10_evenOrdersByTrying_12 : decode cX10_evenOrdersByTrying 12 = .ok (.invokestatic 135, 3) := by decide +kernel
theorem dX10_evenOrdersByTrying_15 : decode cX10_evenOrdersByTrying 15 = .ok (.aload_n 0, 1) := by decide +kernel
theorem dX10_evenOrdersByTrying_16 : decode cX10_evenOrdersByTrying 16 = .ok (.getfield 32, 3) := by decide +kernel
theorem dX10_evenOrdersByTrying_19 : decode cX10_evenOrdersByTrying 19 = .ok (.aload_n 3, 1) := by decide +kernel
theorem dX10_evenOrdersByTrying_20 : decode cX10_evenOrdersByTrying 20 = .ok (.getfield 117, 3) := by decide +kernel
theorem dX10_evenOrdersByTrying_23 : decode cX10_evenOrdersByTrying 23 = .ok (.iload_n 2, 1) := by decide +kernel
theorem dX10_evenOrdersByTrying_24 : decode cX10_evenOrdersByTrying 24 = .ok (.invokevirtual 157, 3) := by decide +kernel
theorem dX10_evenOrdersByTrying_27 : decode cX10_evenOrdersByTrying 27 = .ok (.ireturn, 1) := by decide +kernel
theorem dX10_run_0 : decode cX10_run 0 = .ok (.aload_n 0, 1) := by decide +kernel
theorem dX10_run_1 : decode cX10_run 1 = .ok (.getfield 10, 3) := by decide +kernel
theorem dX10_run_4 : decode cX10_run 4 = .ok (.iload_n 1, 1) := by decide +kernel
theorem dX10_run_5 : decode cX10_run 5 = .ok (.iload_n 2, 1) := by decide +kernel
theorem dX10_run_6 : decode cX10_run 6 = .ok (.invokevirtual 160, 3) := by decide +kernel
theorem dX10_run_9 : decode cX10_run 9 = .ok (.invokestatic 79, 3) := by decide +kernel
theorem dX10_run_12 : decode cX10_run 12 = .ok (.aload_n 0, 1) := by decide +kernel
theorem dX10_run_13 : decode cX10_run 13 = .ok (.getfield 25, 3) := by decide +kernel
theorem dX10_run_16 : decode cX10_run 16 = .ok (.aload_n 0, 1) := by decide +kernel
theorem dX10_run_17 : decode cX10_run 17 = .ok (.getfield 10, 3) := by decide +kernel
theorem dX10_run_20 : decode cX10_run 20 = .ok (.invokevirtual 83, 3) := by decide +kernel
theorem dX10_run_23 : decode cX10_run 23 = .ok (.aload_n 0, 1) := by decide +kernel
theorem dX10_run_24 : decode cX10_run 24 = .ok (.getfield 10, 3) := by decide +kernel
theorem dX10_run_27 : decode cX10_run 27 = .ok (.iload_n 1, 1) := by decide +kernel
theorem dX10_run_28 : decode cX10_run 28 = .ok (.iload_n 2, 1) := by decide +kernel
theorem dX10_run_29 : decode cX10_run 29 = .ok (.invokevirtual 163, 3) := by decide +kernel
theorem dX10_run_32 : decode cX10_run 32 = .ok (.ireturn, 1) := by decide +kernel
theorem dX10_oil_0 : decode cX10_oil 0 = .ok (.aload_n 0, 1) := by decide +kernel
theorem dX10_oil_1 : decode cX10_oil 1 = .ok (.getfield 10, 3) := by decide +kernel
theorem dX10_oil_4 : decode cX10_oil 4 = .ok (.iload_n 1, 1) := by decide +kernel
theorem dX10_oil_5 : decode cX10_oil 5 = .ok (.iload_n 2, 1) := by decide +kernel
theorem dX10_oil_6 : decode cX10_oil 6 = .ok (.iload_n 3, 1) := by decide +kernel
theorem dX10_oil_7 : decode cX10_oil 7 = .ok (.invokevirtual 166, 3) := by decide +kernel
theorem dX10_oil_10 : decode cX10_oil 10 = .ok (.invokestatic 79, 3) := by decide +kernel
theorem dX10_oil_13 : decode cX10_oil 13 = .ok (.aload_n 0, 1) := by decide +kernel
theorem dX10_oil_14 : decode cX10_oil 14 = .ok (.getfield 25, 3) := by decide +kernel
theorem dX10_oil_17 : decode cX10_oil 17 = .ok (.aload_n 0, 1) := by decide +kernel
theorem dX10_oil_18 : decode cX10_oil 18 = .ok (.getfield 10, 3) := by decide +kernel
theorem dX10_oil_21 : decode cX10_oil 21 = .ok (.invokevirtual 83, 3) := by decide +kernel
theorem dX10_oil_24 : decode cX10_oil 24 = .ok (.aload_n 0, 1) := by decide +kernel
theorem dX10_oil_25 : decode cX10_oil 25 = .ok (.getfield 10, 3) := by decide +kernel
theorem dX10_oil_28 : decode cX10_oil 28 = .ok (.iload_n 1, 1) := by decide +kernel
theorem dX10_oil_29 : decode cX10_oil 29 = .ok (.iload_n 2, 1) := by decide +kernel
theorem dX10_oil_30 : decode cX10_oil 30 = .ok (.iload_n 3, 1) := by decide +kernel
theorem dX10_oil_31 : decode cX10_oil 31 = .ok (.invokevirtual 169, 3) := by decide +kernel
theorem dX10_oil_34 : decode cX10_oil 34 = .ok (.ireturn, 1) := by decide +kernel
theorem dX10_oilDriest_0 : decode cX10_oilDriest 0 = .ok (.aload_n 0, 1) := by decide +kernel
theorem dX10_oilDriest_1 : decode cX10_oilDriest 1 = .ok (.getfield 10, 3) := by decide +kernel
theorem dX10_oilDriest_4 : decode cX10_oilDriest 4 = .ok (.iload_n 1, 1) := by decide +kernel
theorem dX10_oilDriest_5 : decode cX10_oilDriest 5 = .ok (.invokevirtual 172, 3) := by decide +kernel
theorem dX10_oilDriest_8 : decode cX10_oilDriest 8 = .ok (.invokestatic 79, 3) := by decide +kernel
theorem dX10_oilDriest_11 : decode cX10_oilDriest 11 = .ok (.aload_n 0, 1) := by decide +kernel
theorem dX10_oilDriest_12 : decode cX10_oilDriest 12 = .ok (.getfield 25, 3) := by decide +kernel
theorem dX10_oilDriest_15 : decode cX10_oilDriest 15 = .ok (.aload_n 0, 1) := by decide +kernel
theorem dX10_oilDriest_16 : decode cX10_oilDriest 16 = .ok (.getfield 10, 3) := by decide +kernel
theorem dX10_oilDriest_19 : decode cX10_oilDriest 19 = .ok (.invokevirtual 83, 3) := by decide +kernel
theorem dX10_oilDriest_22 : decode cX10_oilDriest 22 = .ok (.aload_n 0, 1) := by decide +kernel
theorem dX10_oilDriest_23 : decode cX10_oilDriest 23 = .ok (.getfield 10, 3) := by decide +kernel
theorem dX10_oilDriest_26 : decode cX10_oilDriest 26 = .ok (.iload_n 1, 1) := by decide +kernel
theorem dX10_oilDriest_27 : decode cX10_oilDriest 27 = .ok (.invokevirtual 175, 3) := by decide +kernel
theorem dX10_oilDriest_30 : decode cX10_oilDriest 30 = .ok (.ireturn, 1) := by decide +kernel
theorem dX10_leastOilAfter_0 : decode cX10_leastOilAfter 0 = .ok (.iload_n 1, 1) := by decide +kernel
theorem dX10_leastOilAfter_1 : decode cX10_leastOilAfter 1 = .ok (.iconst 0, 1) := by decide +kernel
theorem dX10_leastOilAfter_2 : decode cX10_leastOilAfter 2 = .ok (.sipush 999, 3) := by decide +kernel
theorem dX10_leastOilAfter_5 : decode cX10_leastOilAfter 5 = .ok (.invokestatic 131, 3) := by decide +kernel
theorem dX10_leastOilAfter_8 : decode cX10_leastOilAfter 8 = .ok (.invokestatic 135, 3) := by decide +kernel
theorem dX10_leastOilAfter_11 : decode cX10_leastOilAfter 11 = .ok (.aload_n 0, 1) := by decide +kernel
theorem dX10_leastOilAfter_12 : decode cX10_leastOilAfter 12 = .ok (.getfield 10, 3) := by decide +kernel
theorem dX10_leastOilAfter_15 : decode cX10_leastOilAfter 15 = .ok (.getfield 110, 3) := by decide +kernel
theorem dX10_leastOilAfter_18 : decode cX10_leastOilAfter 18 = .ok (.ifCond .le 7, 3) := by decide +kernel
theorem dX10_leastOilAfter_21 : decode cX10_leastOilAfter 21 = .ok (.iconst 1, 1) := by decide +kernel
theorem dX10_leastOilAfter_22 : decode cX10_leastOilAfter 22 = .ok (.goto 4, 3) := by decide +kernel
theorem dX10_leastOilAfter_25 : decode cX10_leastOilAfter 25 = .ok (.iconst 0, 1) := by decide +kernel
theorem dX10_leastOilAfter_26 : decode cX10_leastOilAfter 26 = .ok (.invokestatic 178, 3) := by decide +kernel
theorem dX10_leastOilAfter_29 : decode cX10_leastOilAfter 29 = .ok (.aload_n 0, 1) := by decide +kernel
theorem dX10_leastOilAfter_30 : decode cX10_leastOilAfter 30 = .ok (.getfield 10, 3) := by decide +kernel
theorem dX10_leastOilAfter_33 : decode cX10_leastOilAfter 33 = .ok (.iload_n 1, 1) := by decide +kernel
theorem dX10_leastOilAfter_34 : decode cX10_leastOilAfter 34 = .ok (.invokevirtual 181, 3) := by decide +kernel
theorem dX10_leastOilAfter_37 : decode cX10_leastOilAfter 37 = .ok (.ireturn, 1) := by decide +kernel
theorem dX10_leastOilAfterByGiving_0 : decode cX10_leastOilAfterByGiving 0 = .ok (.iload_n 1, 1) := by decide +kernel
theorem dX10_leastOilAfterByGiving_1 : decode cX10_leastOilAfterByGiving 1 = .ok (.iconst 0, 1) := by decide +kernel
theorem dX10_leastOilAfterByGiving_2 : decode cX10_leastOilAfterByGiving 2 = .ok (.sipush 999, 3) := by decide +kernel
theorem dX10_leastOilAfterByGiving_5 : decode cX10_leastOilAfterByGiving 5 = .ok (.invokestatic 131, 3) := by decide +kernel
theorem dX10_leastOilAfterByGiving_8 : decode cX10_leastOilAfterByGiving 8 = .ok (.invokestatic 135, 3) := by decide +kernel
theorem dX10_leastOilAfterByGiving_11 : decode cX10_leastOilAfterByGiving 11 = .ok (.aload_n 0, 1) := by decide +kernel
theorem dX10_leastOilAfterByGiving_12 : decode cX10_leastOilAfterByGiving 12 = .ok (.getfield 10, 3) := by decide +kernel
theorem dX10_leastOilAfterByGiving_15 : decode cX10_leastOilAfterByGiving 15 = .ok (.getfield 110, 3) := by decide +kernel
theorem dX10_leastOilAfterByGiving_18 : decode cX10_leastOilAfterByGiving 18 = .ok (.ifCond .le 7, 3) := by decide +kernel
theorem dX10_leastOilAfterByGiving_21 : decode cX10_leastOilAfterByGiving 21 = .ok (.iconst 1, 1) := by decide +kernel
theorem dX10_leastOilAfterByGiving_22 : decode cX10_leastOilAfterByGiving 22 = .ok (.goto 4, 3) := by decide +kernel
theorem dX10_leastOilAfterByGiving_25 : decode cX10_leastOilAfterByGiving 25 = .ok (.iconst 0, 1) := by decide +kernel
theorem dX10_leastOilAfterByGiving_26 : decode cX10_leastOilAfterByGiving 26 = .ok (.invokestatic 178, 3) := by decide +kernel
theorem dX10_leastOilAfterByGiving_29 : decode cX10_leastOilAfterByGiving 29 = .ok (.aload_n 0, 1) := by decide +kernel
theorem dX10_leastOilAfterByGiving_30 : decode cX10_leastOilAfterByGiving 30 = .ok (.getfield 16, 3) := by decide +kernel
theorem dX10_leastOilAfterByGiving_33 : decode cX10_leastOilAfterByGiving 33 = .ok (.aload_n 0, 1) := by decide +kernel
theorem dX10_leastOilAfterByGiving_34 : decode cX10_leastOilAfterByGiving 34 = .ok (.getfield 10, 3) := by decide +kernel
theorem dX10_leastOilAfterByGiving_37 : decode cX10_leastOilAfterByGiving 37 = .ok (.invokevirtual 184, 3) := by decide +kernel
theorem dX10_leastOilAfterByGiving_40 : decode cX10_leastOilAfterByGiving 40 = .ok (.aload_n 0, 1) := by decide +kernel
theorem dX10_leastOilAfterByGiving_41 : decode cX10_leastOilAfterByGiving 41 = .ok (.getfield 16, 3) := by decide +kernel
theorem dX10_leastOilAfterByGiving_44 : decode cX10_leastOilAfterByGiving 44 = .ok (.iload_n 1, 1) := by decide +kernel
theorem dX10_leastOilAfterByGiving_45 : decode cX10_leastOilAfterByGiving 45 = .ok (.invokevirtual 187, 3) := by decide +kernel
theorem dX10_leastOilAfterByGiving_48 : decode cX10_leastOilAfterByGiving 48 = .ok (.aload_n 0, 1) := by decide +kernel
theorem dX10_leastOilAfterByGiving_49 : decode cX10_leastOilAfterByGiving 49 = .ok (.getfield 16, 3) := by decide +kernel
theorem dX10_leastOilAfterByGiving_52 : decode cX10_leastOilAfterByGiving 52 = .ok (.invokevirtual 190, 3) := by decide +kernel
theorem dX10_leastOilAfterByGiving_55 : decode cX10_leastOilAfterByGiving 55 = .ok (.ireturn, 1) := by decide +kernel
theorem dX10_buyOil_0 : decode cX10_buyOil 0 = .ok (.aload_n 0, 1) := by decide +kernel
theorem dX10_buyOil_1 : decode cX10_buyOil 1 = .ok (.getfield 10, 3) := by decide +kernel
theorem dX10_buyOil_4 : decode cX10_buyOil 4 = .ok (.iload_n 1, 1) := by decide +kernel
theorem dX10_buyOil_5 : decode cX10_buyOil 5 = .ok (.invokevirtual 193, 3) := by decide +kernel
theorem dX10_buyOil_8 : decode cX10_buyOil 8 = .ok (.invokestatic 79, 3) := by decide +kernel
theorem dX10_buyOil_11 : decode cX10_buyOil 11 = .ok (.aload_n 0, 1) := by decide +kernel
theorem dX10_buyOil_12 : decode cX10_buyOil 12 = .ok (.getfield 25, 3) := by decide +kernel
theorem dX10_buyOil_15 : decode cX10_buyOil 15 = .ok (.aload_n 0, 1) := by decide +kernel
theorem dX10_buyOil_16 : decode cX10_buyOil 16 = .ok (.getfield 10, 3) := by decide +kernel
theorem dX10_buyOil_19 : decode cX10_buyOil 19 = .ok (.invokevirtual 83, 3) := by decide +kernel
theorem dX10_buyOil_22 : decode cX10_buyOil 22 = .ok (.aload_n 0, 1) := by decide +kernel
theorem dX10_buyOil_23 : decode cX10_buyOil 23 = .ok (.getfield 10, 3) := by decide +kernel
theorem dX10_buyOil_26 : decode cX10_buyOil 26 = .ok (.iload_n 1, 1) := by decide +kernel
theorem dX10_buyOil_27 : decode cX10_buyOil 27 = .ok (.invokevirtual 196, 3) := by decide +kernel
theorem dX10_buyOil_30 : decode cX10_buyOil 30 = .ok (.ireturn, 1) := by decide +kernel
theorem dX10_oilOf_0 : decode cX10_oilOf 0 = .ok (.aload_n 0, 1) := by decide +kernel
theorem dX10_oilOf_1 : decode cX10_oilOf 1 = .ok (.iload_n 1, 1) := by decide +kernel
theorem dX10_oilOf_2 : decode cX10_oilOf 2 = .ok (.invokevirtual 113, 3) := by decide +kernel
theorem dX10_oilOf_5 : decode cX10_oilOf 5 = .ok (.astore_n 3, 1) := by decide +kernel
theorem dX10_oilOf_6 : decode cX10_oilOf 6 = .ok (.aload_n 3, 1) := by decide +kernel
theorem dX10_oilOf_7 : decode cX10_oilOf 7 = .ok (.iload_n 2, 1) := by decide +kernel
theorem dX10_oilOf_8 : decode cX10_oilOf 8 = .ok (.invokevirtual 120, 3) := by decide +kernel
theorem dX10_oilOf_11 : decode cX10_oilOf 11 = .ok (.invokestatic 124, 3) := by decide +kernel
theorem dX10_oilOf_14 : decode cX10_oilOf 14 = .ok (.aload_n 3, 1) := by decide +kernel
theorem dX10_oilOf_15 : decode cX10_oilOf 15 = .ok (.getfield 199, 3) := by decide +kernel
theorem dX10_oilOf_18 : decode cX10_oilOf 18 = .ok (.iload_n 2, 1) := by decide +kernel
theorem dX10_oilOf_19 : decode cX10_oilOf 19 = .ok (.iaload, 1) := by decide +kernel
theorem dX10_oilOf_20 : decode cX10_oilOf 20 = .ok (.ireturn, 1) := by decide +kernel
theorem dX10_wearOf_0 : decode cX10_wearOf 0 = .ok (.aload_n 0, 1) := by decide +kernel
theorem dX10_wearOf_1 : decode cX10_wearOf 1 = .ok (.iload_n 1, 1) := by decide +kernel
theorem dX10_wearOf_2 : decode cX10_wearOf 2 = .ok (.invokevirtual 113, 3) := by decide +kernel
theorem dX10_wearOf_5 : decode cX10_wearOf 5 = .ok (.astore_n 3, 1) := by decide +kernel
theorem dX10_wearOf_6 : decode cX10_wearOf 6 = .ok (.aload_n 3, 1) := by decide +kernel
theorem dX10_wearOf_7 : decode cX10_wearOf 7 = .ok (.iload_n 2, 1) := by decide +kernel
theorem dX10_wearOf_8 : decode cX10_wearOf 8 = .ok (.invokevirtual 120, 3) := by decide +kernel
theorem dX10_wearOf_11 : decode cX10_wearOf 11 = .ok (.invokestatic 124, 3) := by decide +kernel
theorem dX10_wearOf_14 : decode cX10_wearOf 14 = .ok (.aload_n 3, 1) := by decide +kernel
theorem dX10_wearOf_15 : decode cX10_wearOf 15 = .ok (.getfield 202, 3) := by decide +kernel
theorem dX10_wearOf_18 : decode cX10_wearOf 18 = .ok (.iload_n 2, 1) := by decide +kernel
theorem dX10_wearOf_19 : decode cX10_wearOf 19 = .ok (.iaload, 1) := by decide +kernel
theorem dX10_wearOf_20 : decode cX10_wearOf 20 = .ok (.ireturn, 1) := by decide +kernel
theorem dX10_allOil_0 : decode cX10_allOil 0 = .ok (.aload_n 0, 1) := by decide +kernel
theorem dX10_allOil_1 : decode cX10_allOil 1 = .ok (.getfield 10, 3) := by decide +kernel
theorem dX10_allOil_4 : decode cX10_allOil 4 = .ok (.getfield 205, 3) := by decide +kernel
theorem dX10_allOil_7 : decode cX10_allOil 7 = .ok (.aload_n 0, 1) := by decide +kernel
theorem dX10_allOil_8 : decode cX10_allOil 8 = .ok (.getfield 10, 3) := by decide +kernel
theorem dX10_allOil_11 : decode cX10_allOil 11 = .ok (.invokevirtual 208, 3) := by decide +kernel
theorem dX10_allOil_14 : decode cX10_allOil 14 = .ok (.iadd, 1) := by decide +kernel
theorem dX10_allOil_15 : decode cX10_allOil 15 = .ok (.ireturn, 1) := by decide +kernel
theorem dX10_allOilByAccounts_0 : decode cX10_allOilByAccounts 0 = .ok (.aload_n 0, 1) := by decide +kernel
theorem dX10_allOilByAccounts_1 : decode cX10_allOilByAccounts 1 = .ok (.getfield 10, 3) := by decide +kernel
theorem dX10_allOilByAccounts_4 : decode cX10_allOilByAccounts 4 = .ok (.getfield 211, 3) := by decide +kernel
theorem dX10_allOilByAccounts_7 : decode cX10_allOilByAccounts 7 = .ok (.aload_n 0, 1) := by decide +kernel
theorem dX10_allOilByAccounts_8 : decode cX10_allOilByAccounts 8 = .ok (.getfield 10, 3) := by decide +kernel
theorem dX10_allOilByAccounts_11 : decode cX10_allOilByAccounts 11 = .ok (.getfield 214, 3) := by decide +kernel
theorem dX10_allOilByAccounts_14 : decode cX10_allOilByAccounts 14 = .ok (.iadd, 1) := by decide +kernel
theorem dX10_allOilByAccounts_15 : decode cX10_allOilByAccounts 15 = .ok (.aload_n 0, 1) := by decide +kernel
theorem dX10_allOilByAccounts_16 : decode cX10_allOilByAccounts 16 = .ok (.getfield 10, 3) := by decide +kernel
theorem dX10_allOilByAccounts_19 : decode cX10_allOilByAccounts 19 = .ok (.getfield 217, 3) := by decide +kernel
theorem dX10_allOilByAccounts_22 : decode cX10_allOilByAccounts 22 = .ok (.isub, 1) := by decide +kernel
theorem dX10_allOilByAccounts_23 : decode cX10_allOilByAccounts 23 = .ok (.ireturn, 1) := by decide +kernel
theorem dX10_knockCount_0 : decode cX10_knockCount 0 = .ok (.aload_n 0, 1) := by decide +kernel
theorem dX10_knockCount_1 : decode cX10_knockCount 1 = .ok (.iload_n 1, 1) := by decide +kernel
theorem dX10_knockCount_2 : decode cX10_knockCount 2 = .ok (.invokevirtual 113, 3) := by decide +kernel
theorem dX10_knockCount_5 : decode cX10_knockCount 5 = .ok (.getfield 220, 3) := by decide +kernel
theorem dX10_knockCount_8 : decode cX10_knockCount 8 = .ok (.ireturn, 1) := by decide +kernel
theorem dX10_knockAt_0 : decode cX10_knockAt 0 = .ok (.aload_n 0, 1) := by decide +kernel
theorem dX10_knockAt_1 : decode cX10_knockAt 1 = .ok (.iload_n 1, 1) := by decide +kernel
theorem dX10_knockAt_2 : decode cX10_knockAt 2 = .ok (.invokevirtual 113, 3) := by decide +kernel
theorem dX10_knockAt_5 : decode cX10_knockAt 5 = .ok (.astore_n 3, 1) := by decide +kernel
theorem dX10_knockAt_6 : decode cX10_knockAt 6 = .ok (.iload_n 2, 1) := by decide +kernel
theorem dX10_knockAt_7 : decode cX10_knockAt 7 = .ok (.iconst 0, 1) := by decide +kernel
theorem dX10_knockAt_8 : decode cX10_knockAt 8 = .ok (.aload_n 3, 1) := by decide +kernel
theorem dX10_knockAt_9 : decode cX10_knockAt 9 = .ok (.getfield 220, 3) := by decide +kernel
theorem dX10_knockAt_12 : decode cX10_knockAt 12 = .ok (.iconst 1, 1) := by decide +kernel
theorem dX10_knockAt_13 : decode cX10_knockAt 13 = .ok (.isub, 1) := by decide +kernel
theorem dX10_knockAt_14 : decode cX10_knockAt 14 = .ok (.invokestatic 131, 3) := by decide +kernel
theorem dX10_knockAt_17 : decode cX10_knockAt 17 = .ok (.invokestatic 178, 3) := by decide +kernel
theorem dX10_knockAt_20 : decode cX10_knockAt 20 = .ok (.aload_n 3, 1) := by decide +kernel
theorem dX10_knockAt_21 : decode cX10_knockAt 21 = .ok (.iload_n 2, 1) := by decide +kernel
theorem dX10_knockAt_22 : decode cX10_knockAt 22 = .ok (.invokevirtual 223, 3) := by decide +kernel
theorem dX10_knockAt_25 : decode cX10_knockAt 25 = .ok (.ireturn, 1) := by decide +kernel
theorem dX10_knockPeriod_0 : decode cX10_knockPeriod 0 = .ok (.aload_n 0, 1) := by decide +kernel
theorem dX10_knockPeriod_1 : decode cX10_knockPeriod 1 = .ok (.iload_n 1, 1) := by decide +kernel
theorem dX10_knockPeriod_2 : decode cX10_knockPeriod 2 = .ok (.invokevirtual 113, 3) := by decide +kernel
theorem dX10_knockPeriod_5 : decode cX10_knockPeriod 5 = .ok (.astore_n 2, 1) := by decide +kernel
theorem dX10_knockPeriod_6 : decode cX10_knockPeriod 6 = .ok (.aload_n 2, 1) := by decide +kernel
theorem dX10_knockPeriod_7 : decode cX10_knockPeriod 7 = .ok (.getfield 220, 3) := by decide +kernel
theorem dX10_knockPeriod_10 : decode cX10_knockPeriod 10 = .ok (.ifCond .le 7, 3) := by decide +kernel
theorem dX10_knockPeriod_13 : decode cX10_knockPeriod 13 = .ok (.iconst 1, 1) := by decide +kernel
theorem dX10_knockPeriod_14 : decode cX10_knockPeriod 14 = .ok (.goto 4, 3) := by decide +kernel
theorem dX10_knockPeriod_17 : decode cX10_knockPeriod 17 = .ok (.iconst 0, 1) := by decide +kernel
theorem dX10_knockPeriod_18 : decode cX10_knockPeriod 18 = .ok (.invokestatic 178, 3) := by decide +kernel
theorem dX10_knockPeriod_21 : decode cX10_knockPeriod 21 = .ok (.aload_n 2, 1) := by decide +kernel
theorem dX10_knockPeriod_22 : decode cX10_knockPeriod 22 = .ok (.aload_n 0, 1) := by decide +kernel
theorem dX10_knockPeriod_23 : decode cX10_knockPeriod 23 = .ok (.getfield 64, 3) := by decide +kernel
theorem dX10_knockPeriod_26 : decode cX10_knockPeriod 26 = .ok (.invokevirtual 226, 3) := by decide +kernel
theorem dX10_knockPeriod_29 : decode cX10_knockPeriod 29 = .ok (.ireturn, 1) := by decide +kernel
theorem dX10_knockPeriodByTrying_0 : decode cX10_knockPeriodByTrying 0 = .ok (.aload_n 0, 1) := by decide +kernel
theorem dX10_knockPeriodByTrying_1 : decode cX10_knockPeriodByTrying 1 = .ok (.iload_n 1, 1) := by decide +kernel
theorem dX10_knockPeriodByTrying_2 : decode cX10_knockPeriodByTrying 2 = .ok (.invokevirtual 113, 3) := by decide +kernel
theorem dX10_knockPeriodByTrying_5 : decode cX10_knockPeriodByTrying 5 = .ok (.astore_n 2, 1) := by decide +kernel
theorem dX10_knockPeriodByTrying_6 : decode cX10_knockPeriodByTrying 6 = .ok (.aload_n 2, 1) := by decide +kernel
theorem dX10_knockPeriodByTrying_7 : decode cX10_knockPeriodByTrying 7 = .ok (.getfield 220, 3) := by decide +kernel
theorem dX10_knockPeriodByTrying_10 : decode cX10_knockPeriodByTrying 10 = .ok (.ifCond .le 7, 3) := by decide +kernel
theorem dX10_knockPeriodByTrying_13 : decode cX10_knockPeriodByTrying 13 = .ok (.iconst 1, 1) := by decide +kernel
theorem dX10_knockPeriodByTrying_14 : decode cX10_knockPeriodByTrying 14 = .ok (.goto 4, 3) := by decide +kernel
theorem dX10_knockPeriodByTrying_17 : decode cX10_knockPeriodByTrying 17 = .ok (.iconst 0, 1) := by decide +kernel
theorem dX10_knockPeriodByTrying_18 : decode cX10_knockPeriodByTrying 18 = .ok (.invokestatic 178, 3) := by decide +kernel
theorem dX10_knockPeriodByTrying_21 : decode cX10_knockPeriodByTrying 21 = .ok (.aload_n 2, 1) := by decide +kernel
theorem dX10_knockPeriodByTrying_22 : decode cX10_knockPeriodByTrying 22 = .ok (.invokevirtual 230, 3) := by decide +kernel
theorem dX10_knockPeriodByTrying_25 : decode cX10_knockPeriodByTrying 25 = .ok (.ireturn, 1) := by decide +kernel
theorem dX10_engineAtRank_0 : decode cX10_engineAtRank 0 = .ok (.iload_n 1, 1) := by decide +kernel
theorem dX10_engineAtRank_1 : decode cX10_engineAtRank 1 = .ok (.iconst 0, 1) := by decide +kernel
theorem dX10_engineAtRank_2 : decode cX10_engineAtRank 2 = .ok (.aload_n 0, 1) := by decide +kernel
theorem dX10_engineAtRank_3 : decode cX10_engineAtRank 3 = .ok (.getfield 10, 3) := by decide +kernel
theorem dX10_engineAtRank_6 : decode cX10_engineAtRank 6 = .ok (.getfield 110, 3) := by decide +kernel
theorem dX10_engineAtRank_9 : decode cX10_engineAtRank 9 = .ok (.iconst 1, 1) := by decide +kernel
theorem dX10_engineAtRank_10 : decode cX10_engineAtRank 10 = .ok (.isub, 1) := by decide +kernel
theorem dX10_engineAtRank_11 : decode cX10_engineAtRank 11 = .ok (.invokestatic 131, 3) := by decide +kernel
theorem dX10_engineAtRank_14 : decode cX10_engineAtRank 14 = .ok (.invokestatic 178, 3) := by decide +kernel
theorem dX10_engineAtRank_17 : decode cX10_engineAtRank 17 = .ok (.aload_n 0, 1) := by decide +kernel
theorem dX10_engineAtRank_18 : decode cX10_engineAtRank 18 = .ok (.getfield 10, 3) := by decide +kernel
theorem dX10_engineAtRank_21 : decode cX10_engineAtRank 21 = .ok (.iload_n 1, 1) := by decide +kernel
theorem dX10_engineAtRank_22 : decode cX10_engineAtRank 22 = .ok (.invokevirtual 233, 3) := by decide +kernel
theorem dX10_engineAtRank_25 : decode cX10_engineAtRank 25 = .ok (.ireturn, 1) := by decide +kernel
theorem dX10_addMonk_0 : decode cX10_addMonk 0 = .ok (.aload_n 0, 1) := by decide +kernel
theorem dX10_addMonk_1 : decode cX10_addMonk 1 = .ok (.getfield 10, 3) := by decide +kernel
theorem dX10_addMonk_4 : decode cX10_addMonk 4 = .ok (.invokevirtual 236, 3) := by decide +kernel
theorem dX10_addMonk_7 : decode cX10_addMonk 7 = .ok (.invokestatic 79, 3) := by decide +kernel
theorem dX10_addMonk_10 : decode cX10_addMonk 10 = .ok (.aload_n 0, 1) := by decide +kernel
theorem dX10_addMonk_11 : decode cX10_addMonk 11 = .ok (.getfield 25, 3) := by decide +kernel
theorem dX10_addMonk_14 : decode cX10_addMonk 14 = .ok (.aload_n 0, 1) := by decide +kernel
theorem dX10_addMonk_15 : decode cX10_addMonk 15 = .ok (.getfield 10, 3) := by decide +kernel
theorem dX10_addMonk_18 : decode cX10_addMonk 18 = .ok (.invokevirtual 83, 3) := by decide +kernel
theorem dX10_addMonk_21 : decode cX10_addMonk 21 = .ok (.aload_n 0, 1) := by decide +kernel
theorem dX10_addMonk_22 : decode cX10_addMonk 22 = .ok (.getfield 10, 3) := by decide +kernel
theorem dX10_addMonk_25 : decode cX10_addMonk 25 = .ok (.invokevirtual 239, 3) := by decide +kernel
theorem dX10_addMonk_28 : decode cX10_addMonk 28 = .ok (.ireturn, 1) := by decide +kernel
theorem dX10_setAble_0 : decode cX10_setAble 0 = .ok (.aload_n 0, 1) := by decide +kernel
theorem dX10_setAble_1 : decode cX10_setAble 1 = .ok (.getfield 10, 3) := by decide +kernel
theorem dX10_setAble_4 : decode cX10_setAble 4 = .ok (.iload_n 1, 1) := by decide +kernel
theorem dX10_setAble_5 : decode cX10_setAble 5 = .ok (.iload_n 2, 1) := by decide +kernel
theorem dX10_setAble_6 : decode cX10_setAble 6 = .ok (.invokevirtual 242, 3) := by decide +kernel
theorem dX10_setAble_9 : decode cX10_setAble 9 = .ok (.invokestatic 79, 3) := by decide +kernel
theorem dX10_setAble_12 : decode cX10_setAble 12 = .ok (.aload_n 0, 1) := by decide +kernel
theorem dX10_setAble_13 : decode cX10_setAble 13 = .ok (.getfield 25, 3) := by decide +kernel
theorem dX10_setAble_16 : decode cX10_setAble 16 = .ok (.aload_n 0, 1) := by decide +kernel
theorem dX10_setAble_17 : decode cX10_setAble 17 = .ok (.getfield 10, 3) := by decide +kernel
theorem dX10_setAble_20 : decode cX10_setAble 20 = .ok (.invokevirtual 83, 3) := by decide +kernel
theorem dX10_setAble_23 : decode cX10_setAble 23 = .ok (.aload_n 0, 1) := by decide +kernel
theorem dX10_setAble_24 : decode cX10_setAble 24 = .ok (.getfield 10, 3) := by decide +kernel
theorem dX10_setAble_27 : decode cX10_setAble 27 = .ok (.iload_n 1, 1) := by decide +kernel
theorem dX10_setAble_28 : decode cX10_setAble 28 = .ok (.iload_n 2, 1) := by decide +kernel
theorem dX10_setAble_29 : decode cX10_setAble 29 = .ok (.iload_n 3, 1) := by decide +kernel
theorem dX10_setAble_30 : decode cX10_setAble 30 = .ok (.invokevirtual 245, 3) := by decide +kernel
theorem dX10_setAble_33 : decode cX10_setAble 33 = .ok (.ireturn, 1) := by decide +kernel
theorem dX10_mostVigils_0 : decode cX10_mostVigils 0 = .ok (.aload_n 0, 1) := by decide +kernel
theorem dX10_mostVigils_1 : decode cX10_mostVigils 1 = .ok (.getfield 39, 3) := by decide +kernel
theorem dX10_mostVigils_4 : decode cX10_mostVigils 4 = .ok (.aload_n 0, 1) := by decide +kernel
theorem dX10_mostVigils_5 : decode cX10_mostVigils 5 = .ok (.getfield 10, 3) := by decide +kernel
theorem dX10_mostVigils_8 : decode cX10_mostVigils 8 = .ok (.getfield 249, 3) := by decide +kernel
theorem dX10_mostVigils_11 : decode cX10_mostVigils 11 = .ok (.invokevirtual 252, 3) := by decide +kernel
theorem dX10_mostVigils_14 : decode cX10_mostVigils 14 = .ok (.ireturn, 1) := by decide +kernel
theorem dX10_mostVigilsByTable_0 : decode cX10_mostVigilsByTable 0 = .ok (.aload_n 0, 1) := by decide +kernel
theorem dX10_mostVigilsByTable_1 : decode cX10_mostVigilsByTable 1 = .ok (.getfield 39, 3) := by decide +kernel
theorem dX10_mostVigilsByTable_4 : decode cX10_mostVigilsByTable 4 = .ok (.aload_n 0, 1) := by decide +kernel
theorem dX10_mostVigilsByTable_5 : decode cX10_mostVigilsByTable 5 = .ok (.getfield 10, 3) := by decide +kernel
theorem dX10_mostVigilsByTable_8 : decode cX10_mostVigilsByTable 8 = .ok (.getfield 249, 3) := by decide +kernel
theorem dX10_mostVigilsByTable_11 : decode cX10_mostVigilsByTable 11 = .ok (.invokevirtual 255, 3) := by decide +kernel
theorem dX10_mostVigilsByTable_14 : decode cX10_mostVigilsByTable 14 = .ok (.ireturn, 1) := by decide +kernel
theorem dX10_keeperOf_0 : decode cX10_keeperOf 0 = .ok (.iload_n 1, 1) := by decide +kernel
theorem dX10_keeperOf_1 : decode cX10_keeperOf 1 = .ok (.iconst 0, 1) := by decide +kernel
theorem dX10_keeperOf_2 : decode cX10_keeperOf 2 = .ok (.bipush 7, 2) := by decide +kernel
theorem dX10_keeperOf_4 : decode cX10_keeperOf 4 = .ok (.invokestatic 131, 3) := by decide +kernel
theorem dX10_keeperOf_7 : decode cX10_keeperOf 7 = .ok (.invokestatic 124, 3) := by decide +kernel
theorem dX10_keeperOf_10 : decode cX10_keeperOf 10 = .ok (.aload_n 0, 1) := by decide +kernel
theorem dX10_keeperOf_11 : decode cX10_keeperOf 11 = .ok (.getfield 39, 3) := by decide +kernel
theorem dX10_keeperOf_14 : decode cX10_keeperOf 14 = .ok (.aload_n 0, 1) := by decide +kernel
theorem dX10_keeperOf_15 : decode cX10_keeperOf 15 = .ok (.getfield 10, 3) := by decide +kernel
theorem dX10_keeperOf_18 : decode cX10_keeperOf 18 = .ok (.getfield 249, 3) := by decide +kernel
theorem dX10_keeperOf_21 : decode cX10_keeperOf 21 = .ok (.invokevirtual 258, 3) := by decide +kernel
theorem dX10_keeperOf_24 : decode cX10_keeperOf 24 = .ok (.aload_n 0, 1) := by decide +kernel
theorem dX10_keeperOf_25 : decode cX10_keeperOf 25 = .ok (.getfield 39, 3) := by decide +kernel
theorem dX10_keeperOf_28 : decode cX10_keeperOf 28 = .ok (.getfield 262, 3) := by decide +kernel
theorem dX10_keeperOf_31 : decode cX10_keeperOf 31 = .ok (.iload_n 1, 1) := by decide +kernel
theorem dX10_keeperOf_32 : decode cX10_keeperOf 32 = .ok (.iaload, 1) := by decide +kernel
theorem dX10_keeperOf_33 : decode cX10_keeperOf 33 = .ok (.iconst (-1), 1) := by decide +kernel
theorem dX10_keeperOf_34 : decode cX10_keeperOf 34 = .ok (.if_icmp .eq 7, 3) := by decide +kernel
theorem dX10_keeperOf_37 : decode cX10_keeperOf 37 = .ok (.iconst 1, 1) := by decide +kernel
theorem dX10_keeperOf_38 : decode cX10_keeperOf 38 = .ok (.goto 4, 3) := by decide +kernel
theorem dX10_keeperOf_41 : decode cX10_keeperOf 41 = .ok (.iconst 0, 1) := by decide +kernel
theorem dX10_keeperOf_42 : decode cX10_keeperOf 42 = .ok (.invokestatic 178, 3) := by decide +kernel
theorem dX10_keeperOf_45 : decode cX10_keeperOf 45 = .ok (.aload_n 0, 1) := by decide +kernel
theorem dX10_keeperOf_46 : decode cX10_keeperOf 46 = .ok (.getfield 39, 3) := by decide +kernel
theorem dX10_keeperOf_49 : decode cX10_keeperOf 49 = .ok (.getfield 262, 3) := by decide +kernel
theorem dX10_keeperOf_52 : decode cX10_keeperOf 52 = .ok (.iload_n 1, 1) := by decide +kernel
theorem dX10_keeperOf_53 : decode cX10_keeperOf 53 = .ok (.iaload, 1) := by decide +kernel
theorem dX10_keeperOf_54 : decode cX10_keeperOf 54 = .ok (.ireturn, 1) := by decide +kernel
theorem dX10_addRepair_0 : decode cX10_addRepair 0 = .ok (.aload_n 0, 1) := by decide +kernel
theorem dX10_addRepair_1 : decode cX10_addRepair 1 = .ok (.getfield 10, 3) := by decide +kernel
theorem dX10_addRepair_4 : decode cX10_addRepair 4 = .ok (.iload_n 1, 1) := by decide +kernel
theorem dX10_addRepair_5 : decode cX10_addRepair 5 = .ok (.iload_n 2, 1) := by decide +kernel
theorem dX10_addRepair_6 : decode cX10_addRepair 6 = .ok (.iload_n 3, 1) := by decide +kernel
theorem dX10_addRepair_7 : decode cX10_addRepair 7 = .ok (.invokevirtual 265, 3) := by decide +kernel
theorem dX10_addRepair_10 : decode cX10_addRepair 10 = .ok (.invokestatic 79, 3) := by decide +kernel
theorem dX10_addRepair_13 : decode cX10_addRepair 13 = .ok (.aload_n 0, 1) := by decide +kernel
theorem dX10_addRepair_14 : decode cX10_addRepair 14 = .ok (.getfield 25, 3) := by decide +kernel
theorem dX10_addRepair_17 : decode cX10_addRepair 17 = .ok (.aload_n 0, 1) := by decide +kernel
theorem dX10_addRepair_18 : decode cX10_addRepair 18 = .ok (.getfield 10, 3) := by decide +kernel
theorem dX10_addRepair_21 : decode cX10_addRepair 21 = .ok (.invokevirtual 83, 3) := by decide +kernel
theorem dX10_addRepair_24 : decode cX10_addRepair 24 = .ok (.aload_n 0, 1) := by decide +kernel
theorem dX10_addRepair_25 : decode cX10_addRepair 25 = .ok (.getfield 10, 3) := by decide +kernel
theorem dX10_addRepair_28 : decode cX10_addRepair 28 = .ok (.getfield 268, 3) := by decide +kernel
theorem dX10_addRepair_31 : decode cX10_addRepair 31 = .ok (.iload_n 1, 1) := by decide +kernel
theorem dX10_addRepair_32 : decode cX10_addRepair 32 = .ok (.iload_n 2, 1) := by decide +kernel
theorem dX10_addRepair_33 : decode cX10_addRepair 33 = .ok (.iload_n 3, 1) := by decide +kernel
theorem dX10_addRepair_34 : decode cX10_addRepair 34 = .ok (.invokevirtual 272, 3) := by decide +kernel
theorem dX10_addRepair_37 : decode cX10_addRepair 37 = .ok (.ireturn, 1) := by decide +kernel
theorem dX10_removeRepair_0 : decode cX10_removeRepair 0 = .ok (.iload_n 1, 1) := by decide +kernel
theorem dX10_removeRepair_1 : decode cX10_removeRepair 1 = .ok (.iconst 0, 1) := by decide +kernel
theorem dX10_removeRepair_2 : decode cX10_removeRepair 2 = .ok (.aload_n 0, 1) := by decide +kernel
theorem dX10_removeRepair_3 : decode cX10_removeRepair 3 = .ok (.getfield 10, 3) := by decide +kernel
theorem dX10_removeRepair_6 : decode cX10_removeRepair 6 = .ok (.getfield 268, 3) := by decide +kernel
theorem dX10_removeRepair_9 : decode cX10_removeRepair 9 = .ok (.getfield 277, 3) := by decide +kernel
theorem dX10_removeRepair_12 : decode cX10_removeRepair 12 = .ok (.iconst 1, 1) := by decide +kernel
theorem dX10_removeRepair_13 : decode cX10_removeRepair 13 = .ok (.isub, 1) := by decide +kernel
theorem dX10_removeRepair_14 : decode cX10_removeRepair 14 = .ok (.invokestatic 131, 3) := by decide +kernel
theorem dX10_removeRepair_17 : decode cX10_removeRepair 17 = .ok (.invokestatic 124, 3) := by decide +kernel
theorem dX10_removeRepair_20 : decode cX10_removeRepair 20 = .ok (.aload_n 0, 1) := by decide +kernel
theorem dX10_removeRepair_21 : decode cX10_removeRepair 21 = .ok (.getfield 25, 3) := by decide +kernel
theorem dX10_removeRepair_24 : decode cX10_removeRepair 24 = .ok (.aload_n 0, 1) := by decide +kernel
theorem dX10_removeRepair_25 : decode cX10_removeRepair 25 = .ok (.getfield 10, 3) := by decide +kernel
theorem dX10_removeRepair_28 : decode cX10_removeRepair 28 = .ok (.invokevirtual 83, 3) := by decide +kernel
theorem dX10_removeRepair_31 : decode cX10_removeRepair 31 = .ok (.aload_n 0, 1) := by decide +kernel
theorem dX10_removeRepair_32 : decode cX10_removeRepair 32 = .ok (.getfield 10, 3) := by decide +kernel
theorem dX10_removeRepair_35 : decode cX10_removeRepair 35 = .ok (.getfield 268, 3) := by decide +kernel
theorem dX10_removeRepair_38 : decode cX10_removeRepair 38 = .ok (.iload_n 1, 1) := by decide +kernel
theorem dX10_removeRepair_39 : decode cX10_removeRepair 39 = .ok (.invokevirtual 280, 3) := by decide +kernel
theorem dX10_removeRepair_42 : decode cX10_removeRepair 42 = .ok (.ireturn, 1) := by decide +kernel
theorem dX10_repairCount_0 : decode cX10_repairCount 0 = .ok (.aload_n 0, 1) := by decide +kernel
theorem dX10_repairCount_1 : decode cX10_repairCount 1 = .ok (.getfield 10, 3) := by decide +kernel
theorem dX10_repairCount_4 : decode cX10_repairCount 4 = .ok (.getfield 268, 3) := by decide +kernel
theorem dX10_repairCount_7 : decode cX10_repairCount 7 = .ok (.getfield 277, 3) := by decide +kernel
theorem dX10_repairCount_10 : decode cX10_repairCount 10 = .ok (.ireturn, 1) := by decide +kernel
theorem dX10_leastPenance_0 : decode cX10_leastPenance 0 = .ok (.aload_n 0, 1) := by decide +kernel
theorem dX10_leastPenance_1 : decode cX10_leastPenance 1 = .ok (.getfield 46, 3) := by decide +kernel
theorem dX10_leastPenance_4 : decode cX10_leastPenance 4 = .ok (.aload_n 0, 1) := by decide +kernel
theorem dX10_leastPenance_5 : decode cX10_leastPenance 5 = .ok (.getfield 10, 3) := by decide +kernel
theorem dX10_leastPenance_8 : decode cX10_leastPenance 8 = .ok (.getfield 268, 3) := by decide +kernel
theorem dX10_leastPenance_11 : decode cX10_leastPenance 11 = .ok (.invokevirtual 283, 3) := by decide +kernel
theorem dX10_leastPenance_14 : decode cX10_leastPenance 14 = .ok (.ireturn, 1) := by decide +kernel
theorem dX10_leastPenanceByTable_0 : decode cX10_leastPenanceByTable 0 = .ok (.aload_n 0, 1) := by decide +kernel
theorem dX10_leastPenanceByTable_1 : decode cX10_leastPenanceByTable 1 = .ok (.getfield 46, 3) := by decide +kernel
theorem dX10_leastPenanceByTable_4 : decode cX10_leastPenanceByTable 4 = .ok (.aload_n 0, 1) := by decide +kernel
theorem dX10_leastPenanceByTable_5 : decode cX10_leastPenanceByTable 5 = .ok (.getfield 10, 3) := by decide +kernel
theorem dX10_leastPenanceByTable_8 : decode cX10_leastPenanceByTable 8 = .ok (.getfield 268, 3) := by decide +kernel
theorem dX10_leastPenanceByTable_11 : decode cX10_leastPenanceByTable 11 = .ok (.invokevirtual 287, 3) := by decide +kernel
theorem dX10_leastPenanceByTable_14 : decode cX10_leastPenanceByTable 14 = .ok (.ireturn, 1) := by decide +kernel
theorem dX10_repair_0 : decode cX10_repair 0 = .ok (.aload_n 0, 1) := by decide +kernel
theorem dX10_repair_1 : decode cX10_repair 1 = .ok (.getfield 10, 3) := by decide +kernel
theorem dX10_repair_4 : decode cX10_repair 4 = .ok (.invokevirtual 290, 3) := by decide +kernel
theorem dX10_repair_7 : decode cX10_repair 7 = .ok (.invokestatic 79, 3) := by decide +kernel
theorem dX10_repair_10 : decode cX10_repair 10 = .ok (.aload_n 0, 1) := by decide +kernel
theorem dX10_repair_11 : decode cX10_repair 11 = .ok (.getfield 25, 3) := by decide +kernel
theorem dX10_repair_14 : decode cX10_repair 14 = .ok (.aload_n 0, 1) := by decide +kernel
theorem dX10_repair_15 : decode cX10_repair 15 = .ok (.getfield 10, 3) := by decide +kernel
theorem dX10_repair_18 : decode cX10_repair 18 = .ok (.invokevirtual 83, 3) := by decide +kernel
theorem dX10_repair_21 : decode cX10_repair 21 = .ok (.aload_n 0, 1) := by decide +kernel
theorem dX10_repair_22 : decode cX10_repair 22 = .ok (.getfield 10, 3) := by decide +kernel
theorem dX10_repair_25 : decode cX10_repair 25 = .ok (.invokevirtual 293, 3) := by decide +kernel
theorem dX10_repair_28 : decode cX10_repair 28 = .ok (.ireturn, 1) := by decide +kernel
theorem dX10_penanceDone_0 : decode cX10_penanceDone 0 = .ok (.aload_n 0, 1) := by decide +kernel
theorem dX10_penanceDone_1 : decode cX10_penanceDone 1 = .ok (.getfield 10, 3) := by decide +kernel
theorem dX10_penanceDone_4 : decode cX10_penanceDone 4 = .ok (.getfield 296, 3) := by decide +kernel
theorem dX10_penanceDone_7 : decode cX10_penanceDone 7 = .ok (.ireturn, 1) := by decide +kernel
theorem dX10_pass_0 : decode cX10_pass 0 = .ok (.aload_n 0, 1) := by decide +kernel
theorem dX10_pass_1 : decode cX10_pass 1 = .ok (.getfield 10, 3) := by decide +kernel
theorem dX10_pass_4 : decode cX10_pass 4 = .ok (.iload_n 1, 1) := by decide +kernel
theorem dX10_pass_5 : decode cX10_pass 5 = .ok (.invokevirtual 299, 3) := by decide +kernel
theorem dX10_pass_8 : decode cX10_pass 8 = .ok (.invokestatic 79, 3) := by decide +kernel
theorem dX10_pass_11 : decode cX10_pass 11 = .ok (.aload_n 0, 1) := by decide +kernel
theorem dX10_pass_12 : decode cX10_pass 12 = .ok (.getfield 25, 3) := by decide +kernel
theorem dX10_pass_15 : decode cX10_pass 15 = .ok (.aload_n 0, 1) := by decide +kernel
theorem dX10_pass_16 : decode cX10_pass 16 = .ok (.getfield 10, 3) := by decide +kernel
theorem dX10_pass_19 : decode cX10_pass 19 = .ok (.invokevirtual 83, 3) := by decide +kernel
theorem dX10_pass_22 : decode cX10_pass 22 = .ok (.aload_n 0, 1) := by decide +kernel
theorem dX10_pass_23 : decode cX10_pass 23 = .ok (.getfield 10, 3) := by decide +kernel
theorem dX10_pass_26 : decode cX10_pass 26 = .ok (.iload_n 1, 1) := by decide +kernel
theorem dX10_pass_27 : decode cX10_pass 27 = .ok (.invokevirtual 302, 3) := by decide +kernel
theorem dX10_pass_30 : decode cX10_pass 30 = .ok (.ireturn, 1) := by decide +kernel
theorem dX10_hour_0 : decode cX10_hour 0 = .ok (.aload_n 0, 1) := by decide +kernel
theorem dX10_hour_1 : decode cX10_hour 1 = .ok (.getfield 10, 3) := by decide +kernel
theorem dX10_hour_4 : decode cX10_hour 4 = .ok (.getfield 305, 3) := by decide +kernel
theorem dX10_hour_7 : decode cX10_hour 7 = .ok (.ireturn, 1) := by decide +kernel
theorem dX10_knocksIn_0 : decode cX10_knocksIn 0 = .ok (.aload_n 0, 1) := by decide +kernel
theorem dX10_knocksIn_1 : decode cX10_knocksIn 1 = .ok (.getfield 10, 3) := by decide +kernel
theorem dX10_knocksIn_4 : decode cX10_knocksIn 4 = .ok (.getfield 308, 3) := by decide +kernel
theorem dX10_knocksIn_7 : decode cX10_knocksIn 7 = .ok (.iload_n 1, 1) := by decide +kernel
theorem dX10_knocksIn_8 : decode cX10_knocksIn 8 = .ok (.invokevirtual 312, 3) := by decide +kernel
theorem dX10_knocksIn_11 : decode cX10_knocksIn 11 = .ok (.istore_n 2, 1) := by decide +kernel
theorem dX10_knocksIn_12 : decode cX10_knocksIn 12 = .ok (.iload_n 2, 1) := by decide +kernel
theorem dX10_knocksIn_13 : decode cX10_knocksIn 13 = .ok (.aload_n 0, 1) := by decide +kernel
theorem dX10_knocksIn_14 : decode cX10_knocksIn 14 = .ok (.getfield 10, 3) := by decide +kernel
theorem dX10_knocksIn_17 : decode cX10_knocksIn 17 = .ok (.getfield 308, 3) := by decide +kernel
theorem dX10_knocksIn_20 : decode cX10_knocksIn 20 = .ok (.getfield 317, 3) := by decide +kernel
theorem dX10_knocksIn_23 : decode cX10_knocksIn 23 = .ok (.if_icmp .ge 23, 3) := by decide +kernel
theorem dX10_knocksIn_26 : decode cX10_knocksIn 26 = .ok (.aload_n 0, 1) := by decide +kernel
theorem dX10_knocksIn_27 : decode cX10_knocksIn 27 = .ok (.getfield 10, 3) := by decide +kernel
theorem dX10_knocksIn_30 : decode cX10_knocksIn 30 = .ok (.getfield 308, 3) := by decide +kernel
theorem dX10_knocksIn_33 : decode cX10_knocksIn 33 = .ok (.getfield 320, 3) := by decide +kernel
theorem dX10_knocksIn_36 : decode cX10_knocksIn 36 = .ok (.iload_n 2, 1) := by decide +kernel
theorem dX10_knocksIn_37 : decode cX10_knocksIn 37 = .ok (.iaload, 1) := by decide +kernel
theorem dX10_knocksIn_38 : decode cX10_knocksIn 38 = .ok (.iload_n 1, 1) := by decide +kernel
theorem dX10_knocksIn_39 : decode cX10_knocksIn 39 = .ok (.if_icmp .ne 7, 3) := by decide +kernel
theorem dX10_knocksIn_42 : decode cX10_knocksIn 42 = .ok (.iconst 1, 1) := by decide +kernel
theorem dX10_knocksIn_43 : decode cX10_knocksIn 43 = .ok (.goto 4, 3) := by decide +kernel
theorem dX10_knocksIn_46 : decode cX10_knocksIn 46 = .ok (.iconst 0, 1) := by decide +kernel
theorem dX10_knocksIn_47 : decode cX10_knocksIn 47 = .ok (.invokestatic 178, 3) := by decide +kernel
theorem dX10_knocksIn_50 : decode cX10_knocksIn 50 = .ok (.aload_n 0, 1) := by decide +kernel
theorem dX10_knocksIn_51 : decode cX10_knocksIn 51 = .ok (.getfield 10, 3) := by decide +kernel
theorem dX10_knocksIn_54 : decode cX10_knocksIn 54 = .ok (.getfield 308, 3) := by decide +kernel
theorem dX10_knocksIn_57 : decode cX10_knocksIn 57 = .ok (.getfield 323, 3) := by decide +kernel
theorem dX10_knocksIn_60 : decode cX10_knocksIn 60 = .ok (.iload_n 2, 1) := by decide +kernel
theorem dX10_knocksIn_61 : decode cX10_knocksIn 61 = .ok (.iaload, 1) := by decide +kernel
theorem dX10_knocksIn_62 : decode cX10_knocksIn 62 = .ok (.ireturn, 1) := by decide +kernel
theorem dX10_hourOfKnocks_0 : decode cX10_hourOfKnocks 0 = .ok (.aload_n 0, 1) := by decide +kernel
theorem dX10_hourOfKnocks_1 : decode cX10_hourOfKnocks 1 = .ok (.getfield 10, 3) := by decide +kernel
theorem dX10_hourOfKnocks_4 : decode cX10_hourOfKnocks 4 = .ok (.getfield 308, 3) := by decide +kernel
theorem dX10_hourOfKnocks_7 : decode cX10_hourOfKnocks 7 = .ok (.iload_n 1, 1) := by decide +kernel
theorem dX10_hourOfKnocks_8 : decode cX10_hourOfKnocks 8 = .ok (.invokevirtual 312, 3) := by decide +kernel
theorem dX10_hourOfKnocks_11 : decode cX10_hourOfKnocks 11 = .ok (.istore_n 2, 1) := by decide +kernel
theorem dX10_hourOfKnocks_12 : decode cX10_hourOfKnocks 12 = .ok (.iload_n 2, 1) := by decide +kernel
theorem dX10_hourOfKnocks_13 : decode cX10_hourOfKnocks 13 = .ok (.aload_n 0, 1) := by decide +kernel
theorem dX10_hourOfKnocks_14 : decode cX10_hourOfKnocks 14 = .ok (.getfield 10, 3) := by decide +kernel
theorem dX10_hourOfKnocks_17 : decode cX10_hourOfKnocks 17 = .ok (.getfield 308, 3) := by decide +kernel
theorem dX10_hourOfKnocks_20 : decode cX10_hourOfKnocks 20 = .ok (.getfield 317, 3) := by decide +kernel
theorem dX10_hourOfKnocks_23 : decode cX10_hourOfKnocks 23 = .ok (.if_icmp .ge 7, 3) := by decide +kernel
theorem dX10_hourOfKnocks_26 : decode cX10_hourOfKnocks 26 = .ok (.iconst 1, 1) := by decide +kernel
theorem dX10_hourOfKnocks_27 : decode cX10_hourOfKnocks 27 = .ok (.goto 4, 3) := by decide +kernel
theorem dX10_hourOfKnocks_30 : decode cX10_hourOfKnocks 30 = .ok (.iconst 0, 1) := by decide +kernel
theorem dX10_hourOfKnocks_31 : decode cX10_hourOfKnocks 31 = .ok (.invokestatic 178, 3) := by decide +kernel
theorem dX10_hourOfKnocks_34 : decode cX10_hourOfKnocks 34 = .ok (.aload_n 0, 1) := by decide +kernel
theorem dX10_hourOfKnocks_35 : decode cX10_hourOfKnocks 35 = .ok (.getfield 10, 3) := by decide +kernel
theorem dX10_hourOfKnocks_38 : decode cX10_hourOfKnocks 38 = .ok (.getfield 308, 3) := by decide +kernel
theorem dX10_hourOfKnocks_41 : decode cX10_hourOfKnocks 41 = .ok (.getfield 320, 3) := by decide +kernel
theorem dX10_hourOfKnocks_44 : decode cX10_hourOfKnocks 44 = .ok (.iload_n 2, 1) := by decide +kernel
theorem dX10_hourOfKnocks_45 : decode cX10_hourOfKnocks 45 = .ok (.iaload, 1) := by decide +kernel
theorem dX10_hourOfKnocks_46 : decode cX10_hourOfKnocks 46 = .ok (.ireturn, 1) := by decide +kernel
theorem dX10_append_0 : decode cX10_append 0 = .ok (.iload_n 1, 1) := by decide +kernel
theorem dX10_append_1 : decode cX10_append 1 = .ok (.bipush 32, 2) := by decide +kernel
theorem dX10_append_3 : decode cX10_append 3 = .ok (.bipush 126, 2) := by decide +kernel
theorem dX10_append_5 : decode cX10_append 5 = .ok (.invokestatic 131, 3) := by decide +kernel
theorem dX10_append_8 : decode cX10_append 8 = .ok (.invokestatic 135, 3) := by decide +kernel
theorem dX10_append_11 : decode cX10_append 11 = .ok (.aload_n 0, 1) := by decide +kernel
theorem dX10_append_12 : decode cX10_append 12 = .ok (.getfield 53, 3) := by decide +kernel
theorem dX10_append_15 : decode cX10_append 15 = .ok (.invokevirtual 326, 3) := by decide +kernel
theorem dX10_append_18 : decode cX10_append 18 = .ok (.invokestatic 330, 3) := by decide +kernel
theorem dX10_append_21 : decode cX10_append 21 = .ok (.aload_n 0, 1) := by decide +kernel
theorem dX10_append_22 : decode cX10_append 22 = .ok (.getfield 53, 3) := by decide +kernel
theorem dX10_append_25 : decode cX10_append 25 = .ok (.iload_n 1, 1) := by decide +kernel
theorem dX10_append_26 : decode cX10_append 26 = .ok (.invokevirtual 333, 3) := by decide +kernel
theorem dX10_append_29 : decode cX10_append 29 = .ok (.ireturn, 1) := by decide +kernel
theorem dX10_execute_0 : decode cX10_execute 0 = .ok (.aload_n 0, 1) := by decide +kernel
theorem dX10_execute_1 : decode cX10_execute 1 = .ok (.getfield 53, 3) := by decide +kernel
theorem dX10_execute_4 : decode cX10_execute 4 = .ok (.invokevirtual 337, 3) := by decide +kernel
theorem dX10_execute_7 : decode cX10_execute 7 = .ok (.istore_n 1, 1) := by decide +kernel
theorem dX10_execute_8 : decode cX10_execute 8 = .ok (.aload_n 0, 1) := by decide +kernel
theorem dX10_execute_9 : decode cX10_execute 9 = .ok (.getfield 53, 3) := by decide +kernel
theorem dX10_execute_12 : decode cX10_execute 12 = .ok (.invokevirtual 340, 3) := by decide +kernel
theorem dX10_execute_15 : decode cX10_execute 15 = .ok (.iload_n 1, 1) := by decide +kernel
theorem dX10_execute_16 : decode cX10_execute 16 = .ok (.iconst (-1), 1) := by decide +kernel
theorem dX10_execute_17 : decode cX10_execute 17 = .ok (.if_icmp .eq 16, 3) := by decide +kernel
theorem dX10_execute_20 : decode cX10_execute 20 = .ok (.aload_n 0, 1) := by decide +kernel
theorem dX10_execute_21 : decode cX10_execute 21 = .ok (.iload_n 1, 1) := by decide +kernel
theorem dX10_execute_22 : decode cX10_execute 22 = .ok (.putfield 68, 3) := by decide +kernel
theorem dX10_execute_25 : decode cX10_execute 25 = .ok (.new 343, 3) := by decide +kernel
theorem dX10_execute_28 : decode cX10_execute 28 = .ok (.dup, 1) := by decide +kernel
theorem dX10_execute_29 : decode cX10_execute 29 = .ok (.invokespecial 345, 3) := by decide +kernel
theorem dX10_execute_32 : decode cX10_execute 32 = .ok (.athrow, 1) := by decide +kernel
theorem dX10_execute_33 : decode cX10_execute 33 = .ok (.aload_n 0, 1) := by decide +kernel
theorem dX10_execute_34 : decode cX10_execute 34 = .ok (.getfield 16, 3) := by decide +kernel
theorem dX10_execute_37 : decode cX10_execute 37 = .ok (.aload_n 0, 1) := by decide +kernel
theorem dX10_execute_38 : decode cX10_execute 38 = .ok (.getfield 10, 3) := by decide +kernel
theorem dX10_execute_41 : decode cX10_execute 41 = .ok (.invokevirtual 184, 3) := by decide +kernel
theorem dX10_execute_44 : decode cX10_execute 44 = .ok (.iconst 0, 1) := by decide +kernel
theorem dX10_execute_45 : decode cX10_execute 45 = .ok (.istore_n 2, 1) := by decide +kernel
theorem dX10_execute_46 : decode cX10_execute 46 = .ok (.iload_n 2, 1) := by decide +kernel
theorem dX10_execute_47 : decode cX10_execute 47 = .ok (.aload_n 0, 1) := by decide +kernel
theorem dX10_execute_48 : decode cX10_execute 48 = .ok (.getfield 53, 3) := by decide +kernel
theorem dX10_execute_51 : decode cX10_execute 51 = .ok (.getfield 346, 3) := by decide +kernel
theorem dX10_execute_54 : decode cX10_execute 54 = .ok (.if_icmp .ge 49, 3) := by decide +kernel
theorem dX10_execute_57 : decode cX10_execute 57 = .ok (.aload_n 0, 1) := by decide +kernel
theorem dX10_execute_58 : decode cX10_execute 58 = .ok (.getfield 16, 3) := by decide +kernel
theorem dX10_execute_61 : decode cX10_execute 61 = .ok (.aload_n 0, 1) := by decide +kernel
theorem dX10_execute_62 : decode cX10_execute 62 = .ok (.getfield 53, 3) := by decide +kernel
theorem dX10_execute_65 : decode cX10_execute 65 = .ok (.iload_n 2, 1) := by decide +kernel
theorem dX10_execute_66 : decode cX10_execute 66 = .ok (.invokevirtual 349, 3) := by decide +kernel
theorem dX10_execute_69 : decode cX10_execute 69 = .ok (.ifCond .eq 16, 3) := by decide +kernel
theorem dX10_execute_72 : decode cX10_execute 72 = .ok (.aload_n 0, 1) := by decide +kernel
theorem dX10_execute_73 : decode cX10_execute 73 = .ok (.iload_n 2, 1) := by decide +kernel
theorem dX10_execute_74 : decode cX10_execute 74 = .ok (.putfield 72, 3) := by decide +kernel
theorem dX10_execute_77 : decode cX10_execute 77 = .ok (.new 353, 3) := by decide +kernel
theorem dX10_execute_80 : decode cX10_execute 80 = .ok (.dup, 1) := by decide +kernel
theorem dX10_execute_81 : decode cX10_execute 81 = .ok (.invokespecial 355, 3) := by decide +kernel
theorem dX10_execute_84 : decode cX10_execute 84 = .ok (.athrow, 1) := by decide +kernel
theorem dX10_execute_85 : decode cX10_execute 85 = .ok (.aload_n 0, 1) := by decide +kernel
theorem dX10_execute_86 : decode cX10_execute 86 = .ok (.getfield 16, 3) := by decide +kernel
theorem dX10_execute_89 : decode cX10_execute 89 = .ok (.aload_n 0, 1) := by decide +kernel
theorem dX10_execute_90 : decode cX10_execute 90 = .ok (.getfield 53, 3) := by decide +kernel
theorem dX10_execute_93 : decode cX10_execute 93 = .ok (.iload_n 2, 1) := by decide +kernel
theorem dX10_execute_94 : decode cX10_execute 94 = .ok (.invokevirtual 356, 3) := by decide +kernel
theorem dX10_execute_97 : decode cX10_execute 97 = .ok (.iinc 2 1, 3) := by decide +kernel
theorem dX10_execute_100 : decode cX10_execute 100 = .ok (.goto (-54), 3) := by decide +kernel
theorem dX10_execute_103 : decode cX10_execute 103 = .ok (.aload_n 0, 1) := by decide +kernel
theorem dX10_execute_104 : decode cX10_execute 104 = .ok (.getfield 25, 3) := by decide +kernel
theorem dX10_execute_107 : decode cX10_execute 107 = .ok (.aload_n 0, 1) := by decide +kernel
theorem dX10_execute_108 : decode cX10_execute 108 = .ok (.getfield 10, 3) := by decide +kernel
theorem dX10_execute_111 : decode cX10_execute 111 = .ok (.invokevirtual 83, 3) := by decide +kernel
theorem dX10_execute_114 : decode cX10_execute 114 = .ok (.aload_n 0, 1) := by decide +kernel
theorem dX10_execute_115 : decode cX10_execute 115 = .ok (.getfield 10, 3) := by decide +kernel
theorem dX10_execute_118 : decode cX10_execute 118 = .ok (.aload_n 0, 1) := by decide +kernel
theorem dX10_execute_119 : decode cX10_execute 119 = .ok (.getfield 16, 3) := by decide +kernel
theorem dX10_execute_122 : decode cX10_execute 122 = .ok (.invokevirtual 184, 3) := by decide +kernel
theorem dX10_execute_125 : decode cX10_execute 125 = .ok (.aload_n 0, 1) := by decide +kernel
theorem dX10_execute_126 : decode cX10_execute 126 = .ok (.getfield 53, 3) := by decide +kernel
theorem dX10_execute_129 : decode cX10_execute 129 = .ok (.getfield 346, 3) := by decide +kernel
theorem dX10_execute_132 : decode cX10_execute 132 = .ok (.ireturn, 1) := by decide +kernel
theorem dX10_errorPosition_0 : decode cX10_errorPosition 0 = .ok (.aload_n 0, 1) := by decide +kernel
theorem dX10_errorPosition_1 : decode cX10_errorPosition 1 = .ok (.getfield 68, 3) := by decide +kernel
theorem dX10_errorPosition_4 : decode cX10_errorPosition 4 = .ok (.iconst (-1), 1) := by decide +kernel
theorem dX10_errorPosition_5 : decode cX10_errorPosition 5 = .ok (.if_icmp .eq 7, 3) := by decide +kernel
theorem dX10_errorPosition_8 : decode cX10_errorPosition 8 = .ok (.iconst 1, 1) := by decide +kernel
theorem dX10_errorPosition_9 : decode cX10_errorPosition 9 = .ok (.goto 4, 3) := by decide +kernel
theorem dX10_errorPosition_12 : decode cX10_errorPosition 12 = .ok (.iconst 0, 1) := by decide +kernel
theorem dX10_errorPosition_13 : decode cX10_errorPosition 13 = .ok (.invokestatic 178, 3) := by decide +kernel
theorem dX10_errorPosition_16 : decode cX10_errorPosition 16 = .ok (.aload_n 0, 1) := by decide +kernel
theorem dX10_errorPosition_17 : decode cX10_errorPosition 17 = .ok (.getfield 68, 3) := by decide +kernel
theorem dX10_errorPosition_20 : decode cX10_errorPosition 20 = .ok (.ireturn, 1) := by decide +kernel
theorem dX10_failedCommand_0 : decode cX10_failedCommand 0 = .ok (.aload_n 0, 1) := by decide +kernel
theorem dX10_failedCommand_1 : decode cX10_failedCommand 1 = .ok (.getfield 72, 3) := by decide +kernel
theorem dX10_failedCommand_4 : decode cX10_failedCommand 4 = .ok (.iconst (-1), 1) := by decide +kernel
theorem dX10_failedCommand_5 : decode cX10_failedCommand 5 = .ok (.if_icmp .eq 7, 3) := by decide +kernel
theorem dX10_failedCommand_8 : decode cX10_failedCommand 8 = .ok (.iconst 1, 1) := by decide +kernel
theorem dX10_failedCommand_9 : decode cX10_failedCommand 9 = .ok (.goto 4, 3) := by decide +kernel
theorem dX10_failedCommand_12 : decode cX10_failedCommand 12 = .ok (.iconst 0, 1) := by decide +kernel
theorem dX10_failedCommand_13 : decode cX10_failedCommand 13 = .ok (.invokestatic 178, 3) := by decide +kernel
theorem dX10_failedCommand_16 : decode cX10_failedCommand 16 = .ok (.aload_n 0, 1) := by decide +kernel
theorem dX10_failedCommand_17 : decode cX10_failedCommand 17 = .ok (.getfield 72, 3) := by decide +kernel
theorem dX10_failedCommand_20 : decode cX10_failedCommand 20 = .ok (.ireturn, 1) := by decide +kernel
theorem dX10_describeEngine_0 : decode cX10_describeEngine 0 = .ok (.aload_n 0, 1) := by decide +kernel
theorem dX10_describeEngine_1 : decode cX10_describeEngine 1 = .ok (.iload_n 1, 1) := by decide +kernel
theorem dX10_describeEngine_2 : decode cX10_describeEngine 2 = .ok (.invokevirtual 113, 3) := by decide +kernel
theorem dX10_describeEngine_5 : decode cX10_describeEngine 5 = .ok (.astore_n 2, 1) := by decide +kernel
theorem dX10_describeEngine_6 : decode cX10_describeEngine 6 = .ok (.aload_n 0, 1) := by decide +kernel
theorem dX10_describeEngine_7 : decode cX10_describeEngine 7 = .ok (.getfield 60, 3) := by decide +kernel
theorem dX10_describeEngine_10 : decode cX10_describeEngine 10 = .ok (.invokevirtual 360, 3) := by decide +kernel
theorem dX10_describeEngine_13 : decode cX10_describeEngine 13 = .ok (.aload_n 0, 1) := by decide +kernel
theorem dX10_describeEngine_14 : decode cX10_describeEngine 14 = .ok (.getfield 60, 3) := by decide +kernel
theorem dX10_describeEngine_17 : decode cX10_describeEngine 17 = .ok (.iload_n 1, 1) := by decide +kernel
theorem dX10_describeEngine_18 : decode cX10_describeEngine 18 = .ok (.invokevirtual 361, 3) := by decide +kernel
theorem dX10_describeEngine_21 : decode cX10_describeEngine 21 = .ok (.aload_n 0, 1) := by decide +kernel
theorem dX10_describeEngine_22 : decode cX10_describeEngine 22 = .ok (.getfield 60, 3) := by decide +kernel
theorem dX10_describeEngine_25 : decode cX10_describeEngine 25 = .ok (.bipush 58, 2) := by decide +kernel
theorem dX10_describeEngine_27 : decode cX10_describeEngine 27 = .ok (.invokevirtual 364, 3) := by decide +kernel
theorem dX10_describeEngine_30 : decode cX10_describeEngine 30 = .ok (.iconst 0, 1) := by decide +kernel
theorem dX10_describeEngine_31 : decode cX10_describeEngine 31 = .ok (.istore_n 3, 1) := by decide +kernel
theorem dX10_describeEngine_32 : decode cX10_describeEngine 32 = .ok (.iload_n 3, 1) := by decide +kernel
theorem dX10_describeEngine_33 : decode cX10_describeEngine 33 = .ok (.aload_n 2, 1) := by decide +kernel
theorem dX10_describeEngine_34 : decode cX10_describeEngine 34 = .ok (.getfield 117, 3) := by decide +kernel
theorem dX10_describeEngine_37 : decode cX10_describeEngine 37 = .ok (.if_icmp .ge 15, 3) := by decide +kernel
theorem dX10_describeEngine_40 : decode cX10_describeEngine 40 = .ok (.aload_n 0, 1) := by decide +kernel
theorem dX10_describeEngine_41 : decode cX10_describeEngine 41 = .ok (.aload_n 2, 1) := by decide +kernel
theorem dX10_describeEngine_42 : decode cX10_describeEngine 42 = .ok (.iload_n 3, 1) := by decide +kernel
theorem dX10_describeEngine_43 : decode cX10_describeEngine 43 = .ok (.invokevirtual 368, 3) := by decide +kernel
theorem dX10_describeEngine_46 : decode cX10_describeEngine 46 = .ok (.iinc 3 1, 3) := by decide +kernel
theorem dX10_describeEngine_49 : decode cX10_describeEngine 49 = .ok (.goto (-17), 3) := by decide +kernel
theorem dX10_describeEngine_52 : decode cX10_describeEngine 52 = .ok (.aload_n 0, 1) := by decide +kernel
theorem dX10_describeEngine_53 : decode cX10_describeEngine 53 = .ok (.getfield 60, 3) := by decide +kernel
theorem dX10_describeEngine_56 : decode cX10_describeEngine 56 = .ok (.getfield 372, 3) := by decide +kernel
theorem dX10_describeEngine_59 : decode cX10_describeEngine 59 = .ok (.ireturn, 1) := by decide +kernel
theorem dX10_describeRota_0 : decode cX10_describeRota 0 = .ok (.aload_n 0, 1) := by decide +kernel
theorem dX10_describeRota_1 : decode cX10_describeRota 1 = .ok (.getfield 39, 3) := by decide +kernel
theorem dX10_describeRota_4 : decode cX10_describeRota 4 = .ok (.aload_n 0, 1) := by decide +kernel
theorem dX10_describeRota_5 : decode cX10_describeRota 5 = .ok (.getfield 10, 3) := by decide +kernel
theorem dX10_describeRota_8 : decode cX10_describeRota 8 = .ok (.getfield 249, 3) := by decide +kernel
theorem dX10_describeRota_11 : decode cX10_describeRota 11 = .ok (.invokevirtual 258, 3) := by decide +kernel
theorem dX10_describeRota_14 : decode cX10_describeRota 14 = .ok (.aload_n 0, 1) := by decide +kernel
theorem dX10_describeRota_15 : decode cX10_describeRota 15 = .ok (.getfield 60, 3) := by decide +kernel
theorem dX10_describeRota_18 : decode cX10_describeRota 18 = .ok (.invokevirtual 360, 3) := by decide +kernel
theorem dX10_describeRota_21 : decode cX10_describeRota 21 = .ok (.iconst 0, 1) := by decide +kernel
theorem dX10_describeRota_22 : decode cX10_describeRota 22 = .ok (.istore_n 1, 1) := by decide +kernel
theorem dX10_describeRota_23 : decode cX10_describeRota 23 = .ok (.iload_n 1, 1) := by decide +kernel
theorem dX10_describeRota_24 : decode cX10_describeRota 24 = .ok (.bipush 8, 2) := by decide +kernel
theorem dX10_describeRota_26 : decode cX10_describeRota 26 = .ok (.if_icmp .ge 50, 3) := by decide +kernel
theorem dX10_describeRota_29 : decode cX10_describeRota 29 = .ok (.aload_n 0, 1) := by decide +kernel
theorem dX10_describeRota_30 : decode cX10_describeRota 30 = .ok (.getfield 39, 3) := by decide +kernel
theorem dX10_describeRota_33 : decode cX10_describeRota 33 = .ok (.getfield 262, 3) := by decide +kernel
theorem dX10_describeRota_36 : decode cX10_describeRota 36 = .ok (.iload_n 1, 1) := by decide +kernel
theorem dX10_describeRota_37 : decode cX10_describeRota 37 = .ok (.iaload, 1) := by decide +kernel
theorem dX10_describeRota_38 : decode cX10_describeRota 38 = .ok (.iconst (-1), 1) := by decide +kernel
theorem dX10_describeRota_39 : decode cX10_describeRota 39 = .ok (.if_icmp .ne 15, 3) := by decide +kernel
theorem dX10_describeRota_42 : decode cX10_describeRota 42 = .ok (.aload_n 0, 1) := by decide +kernel
theorem dX10_describeRota_43 : decode cX10_describeRota 43 = .ok (.getfield 60, 3) := by decide +kernel
theorem dX10_describeRota_46 : decode cX10_describeRota 46 = .ok (.bipush 45, 2) := by decide +kernel
theorem dX10_describeRota_48 : decode cX10_describeRota 48 = .ok (.invokevirtual 364, 3) := by decide +kernel
theorem dX10_describeRota_51 : decode cX10_describeRota 51 = .ok (.goto 19, 3) := by decide +kernel
theorem dX10_describeRota_54 : decode cX10_describeRota 54 = .ok (.aload_n 0, 1) := by decide +kernel
theorem dX10_describeRota_55 : decode cX10_describeRota 55 = .ok (.getfield 60, 3) := by decide +kernel
theorem dX10_describeRota_58 : decode cX10_describeRota 58 = .ok (.aload_n 0, 1) := by decide +kernel
theorem dX10_describeRota_59 : decode cX10_describeRota 59 = .ok (.getfield 39, 3) := by decide +kernel
theorem dX10_describeRota_62 : decode cX10_describeRota 62 = .ok (.getfield 262, 3) := by decide +kernel
theorem dX10_describeRota_65 : decode cX10_describeRota 65 = .ok (.iload_n 1, 1) := by decide +kernel
theorem dX10_describeRota_66 : decode cX10_describeRota 66 = .ok (.iaload, 1) := by decide +kernel
theorem dX10_describeRota_67 : decode cX10_describeRota 67 = .ok (.invokevirtual 361, 3) := by decide +kernel
theorem dX10_describeRota_70 : decode cX10_describeRota 70 = .ok (.iinc 1 1, 3) := by decide +kernel
theorem dX10_describeRota_73 : decode cX10_describeRota 73 = .ok (.goto (-50), 3) := by decide +kernel
theorem dX10_describeRota_76 : decode cX10_describeRota 76 = .ok (.aload_n 0, 1) := by decide +kernel
theorem dX10_describeRota_77 : decode cX10_describeRota 77 = .ok (.getfield 60, 3) := by decide +kernel
theorem dX10_describeRota_80 : decode cX10_describeRota 80 = .ok (.getfield 372, 3) := by decide +kernel
theorem dX10_describeRota_83 : decode cX10_describeRota 83 = .ok (.ireturn, 1) := by decide +kernel
theorem dX10_lineAt_0 : decode cX10_lineAt 0 = .ok (.iload_n 1, 1) := by decide +kernel
theorem dX10_lineAt_1 : decode cX10_lineAt 1 = .ok (.iconst 0, 1) := by decide +kernel
theorem dX10_lineAt_2 : decode cX10_lineAt 2 = .ok (.aload_n 0, 1) := by decide +kernel
theorem dX10_lineAt_3 : decode cX10_lineAt 3 = .ok (.getfield 60, 3) := by decide +kernel
theorem dX10_lineAt_6 : decode cX10_lineAt 6 = .ok (.getfield 372, 3) := by decide +kernel
theorem dX10_lineAt_9 : decode cX10_lineAt 9 = .ok (.iconst 1, 1) := by decide +kernel
theorem dX10_lineAt_10 : decode cX10_lineAt 10 = .ok (.isub, 1) := by decide +kernel
theorem dX10_lineAt_11 : decode cX10_lineAt 11 = .ok (.invokestatic 131, 3) := by decide +kernel
theorem dX10_lineAt_14 : decode cX10_lineAt 14 = .ok (.invokestatic 124, 3) := by decide +kernel
theorem dX10_lineAt_17 : decode cX10_lineAt 17 = .ok (.aload_n 0, 1) := by decide +kernel
theorem dX10_lineAt_18 : decode cX10_lineAt 18 = .ok (.getfield 60, 3) := by decide +kernel
theorem dX10_lineAt_21 : decode cX10_lineAt 21 = .ok (.getfield 375, 3) := by decide +kernel
theorem dX10_lineAt_24 : decode cX10_lineAt 24 = .ok (.iload_n 1, 1) := by decide +kernel
theorem dX10_lineAt_25 : decode cX10_lineAt 25 = .ok (.caload, 1) := by decide +kernel
theorem dX10_lineAt_26 : decode cX10_lineAt 26 = .ok (.ireturn, 1) := by decide +kernel
theorem dX10_meanOil_0 : decode cX10_meanOil 0 = .ok (.aload_n 0, 1) := by decide +kernel
theorem dX10_meanOil_1 : decode cX10_meanOil 1 = .ok (.getfield 10, 3) := by decide +kernel
theorem dX10_meanOil_4 : decode cX10_meanOil 4 = .ok (.invokevirtual 379, 3) := by decide +kernel
theorem dX10_meanOil_7 : decode cX10_meanOil 7 = .ok (.istore_n 1, 1) := by decide +kernel
theorem dX10_meanOil_8 : decode cX10_meanOil 8 = .ok (.iload_n 1, 1) := by decide +kernel
theorem dX10_meanOil_9 : decode cX10_meanOil 9 = .ok (.ifCond .ne 11, 3) := by decide +kernel
theorem dX10_meanOil_12 : decode cX10_meanOil 12 = .ok (.new 382, 3) := by decide +kernel
theorem dX10_meanOil_15 : decode cX10_meanOil 15 = .ok (.dup, 1) := by decide +kernel
theorem dX10_meanOil_16 : decode cX10_meanOil 16 = .ok (.invokespecial 384, 3) := by decide +kernel
theorem dX10_meanOil_19 : decode cX10_meanOil 19 = .ok (.athrow, 1) := by decide +kernel
theorem dX10_meanOil_20 : decode cX10_meanOil 20 = .ok (.aload_n 0, 1) := by decide +kernel
theorem dX10_meanOil_21 : decode cX10_meanOil 21 = .ok (.getfield 10, 3) := by decide +kernel
theorem dX10_meanOil_24 : decode cX10_meanOil 24 = .ok (.invokevirtual 208, 3) := by decide +kernel
theorem dX10_meanOil_27 : decode cX10_meanOil 27 = .ok (.i2d, 1) := by decide +kernel
theorem dX10_meanOil_28 : decode cX10_meanOil 28 = .ok (.iload_n 1, 1) := by decide +kernel
theorem dX10_meanOil_29 : decode cX10_meanOil 29 = .ok (.i2d, 1) := by decide +kernel
theorem dX10_meanOil_30 : decode cX10_meanOil 30 = .ok (.ddiv, 1) := by decide +kernel
theorem dX10_meanOil_31 : decode cX10_meanOil 31 = .ok (.dreturn, 1) := by decide +kernel
theorem dX10_vigilShare_0 : decode cX10_vigilShare 0 = .ok (.aload_n 0, 1) := by decide +kernel
theorem dX10_vigilShare_1 : decode cX10_vigilShare 1 = .ok (.getfield 39, 3) := by decide +kernel
theorem dX10_vigilShare_4 : decode cX10_vigilShare 4 = .ok (.aload_n 0, 1) := by decide +kernel
theorem dX10_vigilShare_5 : decode cX10_vigilShare 5 = .ok (.getfield 10, 3) := by decide +kernel
theorem dX10_vigilShare_8 : decode cX10_vigilShare 8 = .ok (.getfield 249, 3) := by decide +kernel
theorem dX10_vigilShare_11 : decode cX10_vigilShare 11 = .ok (.invokevirtual 255, 3) := by decide +kernel
theorem dX10_vigilShare_14 : decode cX10_vigilShare 14 = .ok (.i2f, 1) := by decide +kernel
theorem dX10_vigilShare_15 : decode cX10_vigilShare 15 = .ok (.ldc_w 385, 3) := by decide +kernel
theorem dX10_vigilShare_18 : decode cX10_vigilShare 18 = .ok (.fdiv, 1) := by decide +kernel
theorem dX10_vigilShare_19 : decode cX10_vigilShare 19 = .ok (.freturn, 1) := by decide +kernel
theorem dX10_isConsistent_0 : decode cX10_isConsistent 0 = .ok (.aload_n 0, 1) := by decide +kernel
theorem dX10_isConsistent_1 : decode cX10_isConsistent 1 = .ok (.invokevirtual 386, 3) := by decide +kernel
theorem dX10_isConsistent_4 : decode cX10_isConsistent 4 = .ok (.ifCond .eq 76, 3) := by decide +kernel
theorem dX10_isConsistent_7 : decode cX10_isConsistent 7 = .ok (.aload_n 0, 1) := by decide +kernel
theorem dX10_isConsistent_8 : decode cX10_isConsistent 8 = .ok (.getfield 10, 3) := by decide +kernel
theorem dX10_isConsistent_11 : decode cX10_isConsistent 11 = .ok (.getfield 110, 3) := by decide +kernel
theorem dX10_isConsistent_14 : decode cX10_isConsistent 14 = .ok (.ifCond .eq 29, 3) := by decide +kernel
theorem dX10_isConsistent_17 : decode cX10_isConsistent 17 = .ok (.aload_n 0, 1) := by decide +kernel
theorem dX10_isConsistent_18 : decode cX10_isConsistent 18 = .ok (.iconst 0, 1) := by decide +kernel
theorem dX10_isConsistent_19 : decode cX10_isConsistent 19 = .ok (.invokevirtual 389, 3) := by decide +kernel
theorem dX10_isConsistent_22 : decode cX10_isConsistent 22 = .ok (.ifCond .eq 58, 3) := by decide +kernel
theorem dX10_isConsistent_25 : decode cX10_isConsistent 25 = .ok (.aload_n 0, 1) := by decide +kernel
theorem dX10_isConsistent_26 : decode cX10_isConsistent 26 = .ok (.bipush 10, 2) := by decide +kernel
theorem dX10_isConsistent_28 : decode cX10_isConsistent 28 = .ok (.invokevirtual 389, 3) := by decide +kernel
theorem dX10_isConsistent_31 : decode cX10_isConsistent 31 = .ok (.ifCond .eq 49, 3) := by decide +kernel
theorem dX10_isConsistent_34 : decode cX10_isConsistent 34 = .ok (.aload_n 0, 1) := by decide +kernel
theorem dX10_isConsistent_35 : decode cX10_isConsistent 35 = .ok (.bipush 99, 2) := by decide +kernel
theorem dX10_isConsistent_37 : decode cX10_isConsistent 37 = .ok (.invokevirtual 389, 3) := by decide +kernel
theorem dX10_isConsistent_40 : decode cX10_isConsistent 40 = .ok (.ifCond .eq 40, 3) := by decide +kernel
theorem dX10_isConsistent_43 : decode cX10_isConsistent 43 = .ok (.aload_n 0, 1) := by decide +kernel
theorem dX10_isConsistent_44 : decode cX10_isConsistent 44 = .ok (.invokevirtual 392, 3) := by decide +kernel
theorem dX10_isConsistent_47 : decode cX10_isConsistent 47 = .ok (.aload_n 0, 1) := by decide +kernel
theorem dX10_isConsistent_48 : decode cX10_isConsistent 48 = .ok (.invokevirtual 395, 3) := by decide +kernel
theorem dX10_isConsistent_51 : decode cX10_isConsistent 51 = .ok (.if_icmp .ne 29, 3) := by decide +kernel
theorem dX10_isConsistent_54 : decode cX10_isConsistent 54 = .ok (.aload_n 0, 1) := by decide +kernel
theorem dX10_isConsistent_55 : decode cX10_isConsistent 55 = .ok (.invokevirtual 398, 3) := by decide +kernel
theorem dX10_isConsistent_58 : decode cX10_isConsistent 58 = .ok (.aload_n 0, 1) := by decide +kernel
theorem dX10_isConsistent_59 : decode cX10_isConsistent 59 = .ok (.invokevirtual 401, 3) := by decide +kernel
theorem dX10_isConsistent_62 : decode cX10_isConsistent 62 = .ok (.if_icmp .ne 18, 3) := by decide +kernel
theorem dX10_isConsistent_65 : decode cX10_isConsistent 65 = .ok (.aload_n 0, 1) := by decide +kernel
theorem dX10_isConsistent_66 : decode cX10_isConsistent 66 = .ok (.invokevirtual 404, 3) := by decide +kernel
theorem dX10_isConsistent_69 : decode cX10_isConsistent 69 = .ok (.aload_n 0, 1) := by decide +kernel
theorem dX10_isConsistent_70 : decode cX10_isConsistent 70 = .ok (.invokevirtual 407, 3) := by decide +kernel
theorem dX10_isConsistent_73 : decode cX10_isConsistent 73 = .ok (.if_icmp .ne 7, 3) := by decide +kernel
theorem dX10_isConsistent_76 : decode cX10_isConsistent 76 = .ok (.iconst 1, 1) := by decide +kernel
theorem dX10_isConsistent_77 : decode cX10_isConsistent 77 = .ok (.goto 4, 3) := by decide +kernel
theorem dX10_isConsistent_80 : decode cX10_isConsistent 80 = .ok (.iconst 0, 1) := by decide +kernel
theorem dX10_isConsistent_81 : decode cX10_isConsistent 81 = .ok (.ireturn, 1) := by decide +kernel
theorem dX10_undo_0 : decode cX10_undo 0 = .ok (.aload_n 0, 1) := by decide +kernel
theorem dX10_undo_1 : decode cX10_undo 1 = .ok (.getfield 25, 3) := by decide +kernel
theorem dX10_undo_4 : decode cX10_undo 4 = .ok (.getfield 410, 3) := by decide +kernel
theorem dX10_undo_7 : decode cX10_undo 7 = .ok (.ifCond .le 7, 3) := by decide +kernel
theorem dX10_undo_10 : decode cX10_undo 10 = .ok (.iconst 1, 1) := by decide +kernel
theorem dX10_undo_11 : decode cX10_undo 11 = .ok (.goto 4, 3) := by decide +kernel
theorem dX10_undo_14 : decode cX10_undo 14 = .ok (.iconst 0, 1) := by decide +kernel
theorem dX10_undo_15 : decode cX10_undo 15 = .ok (.invokestatic 330, 3) := by decide +kernel
theorem dX10_undo_18 : decode cX10_undo 18 = .ok (.aload_n 0, 1) := by decide +kernel
theorem dX10_undo_19 : decode cX10_undo 19 = .ok (.getfield 25, 3) := by decide +kernel
theorem dX10_undo_22 : decode cX10_undo 22 = .ok (.aload_n 0, 1) := by decide +kernel
theorem dX10_undo_23 : decode cX10_undo 23 = .ok (.getfield 10, 3) := by decide +kernel
theorem dX10_undo_26 : decode cX10_undo 26 = .ok (.invokevirtual 411, 3) := by decide +kernel
theorem dX10_undo_29 : decode cX10_undo 29 = .ok (.ireturn, 1) := by decide +kernel
theorem dX10_save_0 : decode cX10_save 0 = .ok (.aload_n 0, 1) := by decide +kernel
theorem dX10_save_1 : decode cX10_save 1 = .ok (.getfield 19, 3) := by decide +kernel
theorem dX10_save_4 : decode cX10_save 4 = .ok (.aload_n 0, 1) := by decide +kernel
theorem dX10_save_5 : decode cX10_save 5 = .ok (.getfield 10, 3) := by decide +kernel
theorem dX10_save_8 : decode cX10_save 8 = .ok (.invokevirtual 184, 3) := by decide +kernel
theorem dX10_save_11 : decode cX10_save 11 = .ok (.aload_n 0, 1) := by decide +kernel
theorem dX10_save_12 : decode cX10_save 12 = .ok (.iconst 1, 1) := by decide +kernel
theorem dX10_save_13 : decode cX10_save 13 = .ok (.putfield 415, 3) := by decide +kernel
theorem dX10_save_16 : decode cX10_save 16 = .ok (.aload_n 0, 1) := by decide +kernel
theorem dX10_save_17 : decode cX10_save 17 = .ok (.getfield 10, 3) := by decide +kernel
theorem dX10_save_20 : decode cX10_save 20 = .ok (.getfield 110, 3) := by decide +kernel
theorem dX10_save_23 : decode cX10_save 23 = .ok (.ireturn, 1) := by decide +kernel
theorem dX10_restore_0 : decode cX10_restore 0 = .ok (.aload_n 0, 1) := by decide +kernel
theorem dX10_restore_1 : decode cX10_restore 1 = .ok (.getfield 415, 3) := by decide +kernel
theorem dX10_restore_4 : decode cX10_restore 4 = .ok (.invokestatic 330, 3) := by decide +kernel
theorem dX10_restore_7 : decode cX10_restore 7 = .ok (.aload_n 0, 1) := by decide +kernel
theorem dX10_restore_8 : decode cX10_restore 8 = .ok (.getfield 10, 3) := by decide +kernel
theorem dX10_restore_11 : decode cX10_restore 11 = .ok (.aload_n 0, 1) := by decide +kernel
theorem dX10_restore_12 : decode cX10_restore 12 = .ok (.getfield 19, 3) := by decide +kernel
theorem dX10_restore_15 : decode cX10_restore 15 = .ok (.invokevirtual 184, 3) := by decide +kernel
theorem dX10_restore_18 : decode cX10_restore 18 = .ok (.aload_n 0, 1) := by decide +kernel
theorem dX10_restore_19 : decode cX10_restore 19 = .ok (.getfield 25, 3) := by decide +kernel
theorem dX10_restore_22 : decode cX10_restore 22 = .ok (.invokevirtual 419, 3) := by decide +kernel
theorem dX10_restore_25 : decode cX10_restore 25 = .ok (.aload_n 0, 1) := by decide +kernel
theorem dX10_restore_26 : decode cX10_restore 26 = .ok (.getfield 10, 3) := by decide +kernel
theorem dX10_restore_29 : decode cX10_restore 29 = .ok (.getfield 110, 3) := by decide +kernel
theorem dX10_restore_32 : decode cX10_restore 32 = .ok (.ireturn, 1) := by decide +kernel
theorem dX10_existing_0 : decode cX10_existing 0 = .ok (.aload_n 0, 1) := by decide +kernel
theorem dX10_existing_1 : decode cX10_existing 1 = .ok (.getfield 10, 3) := by decide +kernel
theorem dX10_existing_4 : decode cX10_existing 4 = .ok (.iload_n 1, 1) := by decide +kernel
theorem dX10_existing_5 : decode cX10_existing 5 = .ok (.invokevirtual 422, 3) := by decide +kernel
theorem dX10_existing_8 : decode cX10_existing 8 = .ok (.invokestatic 124, 3) := by decide +kernel
theorem dX10_existing_11 : decode cX10_existing 11 = .ok (.aload_n 0, 1) := by decide +kernel
theorem dX10_existing_12 : decode cX10_existing 12 = .ok (.getfield 10, 3) := by decide +kernel
theorem dX10_existing_15 : decode cX10_existing 15 = .ok (.getfield 94, 3) := by decide +kernel
theorem dX10_existing_18 : decode cX10_existing 18 = .ok (.iload_n 1, 1) := by decide +kernel
theorem dX10_existing_19 : decode cX10_existing 19 = .ok (.aaload, 1) := by decide +kernel
theorem dX10_existing_20 : decode cX10_existing 20 = .ok (.areturn, 1) := by decide +kernel
theorem dX10_refuse_0 : decode cX10_refuse 0 = .ok (.iload_n 0, 1) := by decide +kernel
theorem dX10_refuse_1 : decode cX10_refuse 1 = .ok (.iconst 1, 1) := by decide +kernel
theorem dX10_refuse_2 : decode cX10_refuse 2 = .ok (.if_icmp .eq 7, 3) := by decide +kernel
theorem dX10_refuse_5 : decode cX10_refuse 5 = .ok (.iconst 1, 1) := by decide +kernel
theorem dX10_refuse_6 : decode cX10_refuse 6 = .ok (.goto 4, 3) := by decide +kernel
theorem dX10_refuse_9 : decode cX10_refuse 9 = .ok (.iconst 0, 1) := by decide +kernel
theorem dX10_refuse_10 : decode cX10_refuse 10 = .ok (.invokestatic 124, 3) := by decide +kernel
theorem dX10_refuse_13 : decode cX10_refuse 13 = .ok (.iload_n 0, 1) := by decide +kernel
theorem dX10_refuse_14 : decode cX10_refuse 14 = .ok (.iconst 2, 1) := by decide +kernel
theorem dX10_refuse_15 : decode cX10_refuse 15 = .ok (.if_icmp .eq 7, 3) := by decide +kernel
theorem dX10_refuse_18 : decode cX10_refuse 18 = .ok (.iconst 1, 1) := by decide +kernel
theorem dX10_refuse_19 : decode cX10_refuse 19 = .ok (.goto 4, 3) := by decide +kernel
theorem dX10_refuse_22 : decode cX10_refuse 22 = .ok (.iconst 0, 1) := by decide +kernel
theorem dX10_refuse_23 : decode cX10_refuse 23 = .ok (.invokestatic 135, 3) := by decide +kernel
theorem dX10_refuse_26 : decode cX10_refuse 26 = .ok (.iload_n 0, 1) := by decide +kernel
theorem dX10_refuse_27 : decode cX10_refuse 27 = .ok (.iconst 3, 1) := by decide +kernel
theorem dX10_refuse_28 : decode cX10_refuse 28 = .ok (.if_icmp .eq 7, 3) := by decide +kernel
theorem dX10_refuse_31 : decode cX10_refuse 31 = .ok (.iconst 1, 1) := by decide +kernel
theorem dX10_refuse_32 : decode cX10_refuse 32 = .ok (.goto 4, 3) := by decide +kernel
theorem dX10_refuse_35 : decode cX10_refuse 35 = .ok (.iconst 0, 1) := by decide +kernel
theorem dX10_refuse_36 : decode cX10_refuse 36 = .ok (.invokestatic 330, 3) := by decide +kernel
theorem dX10_refuse_39 : decode cX10_refuse 39 = .ok (.return_, 1) := by decide +kernel
theorem dX10_requireIndex_0 : decode cX10_requireIndex 0 = .ok (.iload_n 0, 1) := by decide +kernel
theorem dX10_requireIndex_1 : decode cX10_requireIndex 1 = .ok (.ifCond .ne 11, 3) := by decide +kernel
theorem dX10_requireIndex_4 : decode cX10_requireIndex 4 = .ok (.new 425, 3) := by decide +kernel
theorem dX10_requireIndex_7 : decode cX10_requireIndex 7 = .ok (.dup, 1) := by decide +kernel
theorem dX10_requireIndex_8 : decode cX10_requireIndex 8 = .ok (.invokespecial 427, 3) := by decide +kernel
theorem dX10_requireIndex_11 : decode cX10_requireIndex 11 = .ok (.athrow, 1) := by decide +kernel
theorem dX10_requireIndex_12 : decode cX10_requireIndex 12 = .ok (.return_, 1) := by decide +kernel
theorem dX10_requireArgument_0 : decode cX10_requireArgument 0 = .ok (.iload_n 0, 1) := by decide +kernel
theorem dX10_requireArgument_1 : decode cX10_requireArgument 1 = .ok (.ifCond .ne 11, 3) := by decide +kernel
theorem dX10_requireArgument_4 : decode cX10_requireArgument 4 = .ok (.new 343, 3) := by decide +kernel
theorem dX10_requireArgument_7 : decode cX10_requireArgument 7 = .ok (.dup, 1) := by decide +kernel
theorem dX10_requireArgument_8 : decode cX10_requireArgument 8 = .ok (.invokespecial 345, 3) := by decide +kernel
theorem dX10_requireArgument_11 : decode cX10_requireArgument 11 = .ok (.athrow, 1) := by decide +kernel
theorem dX10_requireArgument_12 : decode cX10_requireArgument 12 = .ok (.return_, 1) := by decide +kernel
theorem dX10_requireState_0 : decode cX10_requireState 0 = .ok (.iload_n 0, 1) := by decide +kernel
theorem dX10_requireState_1 : decode cX10_requireState 1 = .ok (.ifCond .ne 11, 3) := by decide +kernel
theorem dX10_requireState_4 : decode cX10_requireState 4 = .ok (.new 353, 3) := by decide +kernel
theorem dX10_requireState_7 : decode cX10_requireState 7 = .ok (.dup, 1) := by decide +kernel
theorem dX10_requireState_8 : decode cX10_requireState 8 = .ok (.invokespecial 355, 3) := by decide +kernel
theorem dX10_requireState_11 : decode cX10_requireState 11 = .ok (.athrow, 1) := by decide +kernel
theorem dX10_requireState_12 : decode cX10_requireState 12 = .ok (.return_, 1) := by decide +kernel
theorem dX10_requireElement_0 : decode cX10_requireElement 0 = .ok (.iload_n 0, 1) := by decide +kernel
theorem dX10_requireElement_1 : decode cX10_requireElement 1 = .ok (.ifCond .ne 11, 3) := by decide +kernel
theorem dX10_requireElement_4 : decode cX10_requireElement 4 = .ok (.new 428, 3) := by decide +kernel
theorem dX10_requireElement_7 : decode cX10_requireElement 7 = .ok (.dup, 1) := by decide +kernel
theorem dX10_requireElement_8 : decode cX10_requireElement 8 = .ok (.invokespecial 430, 3) := by decide +kernel
theorem dX10_requireElement_11 : decode cX10_requireElement 11 = .ok (.athrow, 1) := by decide +kernel
theorem dX10_requireElement_12 : decode cX10_requireElement 12 = .ok (.return_, 1) := by decide +kernel
theorem dX10_isWithin_0 : decode cX10_isWithin 0 = .ok (.iload_n 0, 1) := by decide +kernel
theorem dX10_isWithin_1 : decode cX10_isWithin 1 = .ok (.iload_n 1, 1) := by decide +kernel
theorem dX10_isWithin_2 : decode cX10_isWithin 2 = .ok (.if_icmp .lt 12, 3) := by decide +kernel
theorem dX10_isWithin_5 : decode cX10_isWithin 5 = .ok (.iload_n 0, 1) := by decide +kernel
theorem dX10_isWithin_6 : decode cX10_isWithin 6 = .ok (.iload_n 2, 1) := by decide +kernel
theorem dX10_isWithin_7 : decode cX10_isWithin 7 = .ok (.if_icmp .gt 7, 3) := by decide +kernel
theorem dX10_isWithin_10 : decode cX10_isWithin 10 = .ok (.iconst 1, 1) := by decide +kernel
theorem dX10_isWithin_11 : decode cX10_isWithin 11 = .ok (.goto 4, 3) := by decide +kernel
theorem dX10_isWithin_14 : decode cX10_isWithin 14 = .ok (.iconst 0, 1) := by decide +kernel
theorem dX10_isWithin_15 : decode cX10_isWithin 15 = .ok (.ireturn, 1) := by decide +kernel
theorem dX10_distance_0 : decode cX10_distance 0 = .ok (.iload_n 0, 1) := by decide +kernel
theorem dX10_distance_1 : decode cX10_distance 1 = .ok (.iload_n 1, 1) := by decide +kernel
theorem dX10_distance_2 : decode cX10_distance 2 = .ok (.isub, 1) := by decide +kernel
theorem dX10_distance_3 : decode cX10_distance 3 = .ok (.invokestatic 431, 3) := by decide +kernel
theorem dX10_distance_6 : decode cX10_distance 6 = .ok (.istore_n 3, 1) := by decide +kernel
theorem dX10_distance_7 : decode cX10_distance 7 = .ok (.iload_n 3, 1) := by decide +kernel
theorem dX10_distance_8 : decode cX10_distance 8 = .ok (.iload_n 2, 1) := by decide +kernel
theorem dX10_distance_9 : decode cX10_distance 9 = .ok (.iload_n 3, 1) := by decide +kernel
theorem dX10_distance_10 : decode cX10_distance 10 = .ok (.isub, 1) := by decide +kernel
theorem dX10_distance_11 : decode cX10_distance 11 = .ok (.invokestatic 436, 3) := by decide +kernel
theorem dX10_distance_14 : decode cX10_distance 14 = .ok (.ireturn, 1) := by decide +kernel
theorem dX10_writePlace_0 : decode cX10_writePlace 0 = .ok (.aload_n 1, 1) := by decide +kernel
theorem dX10_writePlace_1 : decode cX10_writePlace 1 = .ok (.getfield 128, 3) := by decide +kernel
theorem dX10_writePlace_4 : decode cX10_writePlace 4 = .ok (.iload_n 2, 1) := by decide +kernel
theorem dX10_writePlace_5 : decode cX10_writePlace 5 = .ok (.iaload, 1) := by decide +kernel
theorem dX10_writePlace_6 : decode cX10_writePlace 6 = .ok (.istore_n 3, 1) := by decide +kernel
theorem dX10_writePlace_7 : decode cX10_writePlace 7 = .ok (.iload_n 2, 1) := by decide +kernel
theorem dX10_writePlace_8 : decode cX10_writePlace 8 = .ok (.aload_n 1, 1) := by decide +kernel
theorem dX10_writePlace_9 : decode cX10_writePlace 9 = .ok (.getfield 439, 3) := by decide +kernel
theorem dX10_writePlace_12 : decode cX10_writePlace 12 = .ok (.if_icmp .ne 12, 3) := by decide +kernel
theorem dX10_writePlace_15 : decode cX10_writePlace 15 = .ok (.aload_n 0, 1) := by decide +kernel
theorem dX10_writePlace_16 : decode cX10_writePlace 16 = .ok (.getfield 60, 3) := by decide +kernel
theorem dX10_writePlace_19 : decode cX10_writePlace 19 = .ok (.bipush 42, 2) := by decide +kernel
theorem dX10_writePlace_21 : decode cX10_writePlace 21 = .ok (.invokevirtual 364, 3) := by decide +kernel
theorem dX10_writePlace_24 : decode cX10_writePlace 24 = .ok (.aload_n 0, 1) := by decide +kernel
theorem dX10_writePlace_25 : decode cX10_writePlace 25 = .ok (.getfield 60, 3) := by decide +kernel
theorem dX10_writePlace_28 : decode cX10_writePlace 28 = .ok (.iload_n 3, 1) := by decide +kernel
theorem dX10_writePlace_29 : decode cX10_writePlace 29 = .ok (.invokevirtual 361, 3) := by decide +kernel
theorem dX10_writePlace_32 : decode cX10_writePlace 32 = .ok (.aload_n 1, 1) := by decide +kernel
theorem dX10_writePlace_33 : decode cX10_writePlace 33 = .ok (.getfield 199, 3) := by decide +kernel
theorem dX10_writePlace_36 : decode cX10_writePlace 36 = .ok (.iload_n 3, 1) := by decide +kernel
theorem dX10_writePlace_37 : decode cX10_writePlace 37 = .ok (.iaload, 1) := by decide +kernel
theorem dX10_writePlace_38 : decode cX10_writePlace 38 = .ok (.ifCond .ne 12, 3) := by decide +kernel
theorem dX10_writePlace_41 : decode cX10_writePlace 41 = .ok (.aload_n 0, 1) := by decide +kernel
theorem dX10_writePlace_42 : decode cX10_writePlace 42 = .ok (.getfield 60, 3) := by decide +kernel
theorem dX10_writePlace_45 : decode cX10_writePlace 45 = .ok (.bipush 33, 2) := by decide +kernel
theorem dX10_writePlace_47 : decode cX10_writePlace 47 = .ok (.invokevirtual 364, 3) := by decide +kernel
theorem dX10_writePlace_50 : decode cX10_writePlace 50 = .ok (.return_, 1) := by decide +kernel
theorem dX10_enginesAgree_0 : decode cX10_enginesAgree 0 = .ok (.iconst 0, 1) := by decide +kernel
theorem dX10_enginesAgree_1 : decode cX10_enginesAgree 1 = .ok (.istore_n 1, 1) := by decide +kernel
theorem dX10_enginesAgree_2 : decode cX10_enginesAgree 2 = .ok (.iload_n 1, 1) := by decide +kernel
theorem dX10_enginesAgree_3 : decode cX10_enginesAgree 3 = .ok (.aload_n 0, 1) := by decide +kernel
theorem dX10_enginesAgree_4 : decode cX10_enginesAgree 4 = .ok (.getfield 10, 3) := by decide +kernel
theorem dX10_enginesAgree_7 : decode cX10_enginesAgree 7 = .ok (.getfield 110, 3) := by decide +kernel
theorem dX10_enginesAgree_10 : decode cX10_enginesAgree 10 = .ok (.if_icmp .ge 62, 3) := by decide +kernel
theorem dX10_enginesAgree_13 : decode cX10_enginesAgree 13 = .ok (.aload_n 0, 1) := by decide +kernel
theorem dX10_enginesAgree_14 : decode cX10_enginesAgree 14 = .ok (.iload_n 1, 1) := by decide +kernel
theorem dX10_enginesAgree_15 : decode cX10_enginesAgree 15 = .ok (.invokevirtual 442, 3) := by decide +kernel
theorem dX10_enginesAgree_18 : decode cX10_enginesAgree 18 = .ok (.aload_n 0, 1) := by decide +kernel
theorem dX10_enginesAgree_19 : decode cX10_enginesAgree 19 = .ok (.iload_n 1, 1) := by decide +kernel
theorem dX10_enginesAgree_20 : decode cX10_enginesAgree 20 = .ok (.invokevirtual 445, 3) := by decide +kernel
theorem dX10_enginesAgree_23 : decode cX10_enginesAgree 23 = .ok (.if_icmp .ne 18, 3) := by decide +kernel
theorem dX10_enginesAgree_26 : decode cX10_enginesAgree 26 = .ok (.aload_n 0, 1) := by decide +kernel
theorem dX10_enginesAgree_27 : decode cX10_enginesAgree 27 = .ok (.iload_n 1, 1) := by decide +kernel
theorem dX10_enginesAgree_28 : decode cX10_enginesAgree 28 = .ok (.iconst 2, 1) := by decide +kernel
theorem dX10_enginesAgree_29 : decode cX10_enginesAgree 29 = .ok (.invokevirtual 448, 3) := by decide +kernel
theorem dX10_enginesAgree_32 : decode cX10_enginesAgree 32 = .ok (.aload_n 0, 1) := by decide +kernel
theorem dX10_enginesAgree_33 : decode cX10_enginesAgree 33 = .ok (.iload_n 1, 1) := by decide +kernel
theorem dX10_enginesAgree_34 : decode cX10_enginesAgree 34 = .ok (.iconst 2, 1) := by decide +kernel
theorem dX10_enginesAgree_35 : decode cX10_enginesAgree 35 = .ok (.invokevirtual 451, 3) := by decide +kernel
theorem dX10_enginesAgree_38 : decode cX10_enginesAgree 38 = .ok (.if_icmp .eq 5, 3) := by decide +kernel
theorem dX10_enginesAgree_41 : decode cX10_enginesAgree 41 = .ok (.iconst 0, 1) := by decide +kernel
theorem dX10_enginesAgree_42 : decode cX10_enginesAgree 42 = .ok (.ireturn, 1) := by decide +kernel
theorem dX10_enginesAgree_43 : decode cX10_enginesAgree 43 = .ok (.aload_n 0, 1) := by decide +kernel
theorem dX10_enginesAgree_44 : decode cX10_enginesAgree 44 = .ok (.iload_n 1, 1) := by decide +kernel
theorem dX10_enginesAgree_45 : decode cX10_enginesAgree 45 = .ok (.invokevirtual 454, 3) := by decide +kernel
theorem dX10_enginesAgree_48 : decode cX10_enginesAgree 48 = .ok (.ifCond .le 18, 3) := by decide +kernel
theorem dX10_enginesAgree_51 : decode cX10_enginesAgree 51 = .ok (.aload_n 0, 1) := by decide +kernel
theorem dX10_enginesAgree_52 : decode cX10_enginesAgree 52 = .ok (.iload_n 1, 1) := by decide +kernel
theorem dX10_enginesAgree_53 : decode cX10_enginesAgree 53 = .ok (.invokevirtual 457, 3) := by decide +kernel
theorem dX10_enginesAgree_56 : decode cX10_enginesAgree 56 = .ok (.aload_n 0, 1) := by decide +kernel
theorem dX10_enginesAgree_57 : decode cX10_enginesAgree 57 = .ok (.iload_n 1, 1) := by decide +kernel
theorem dX10_enginesAgree_58 : decode cX10_enginesAgree 58 = .ok (.invokevirtual 460, 3) := by decide +kernel
theorem dX10_enginesAgree_61 : decode cX10_enginesAgree 61 = .ok (.if_icmp .eq 5, 3) := by decide +kernel
theorem dX10_enginesAgree_64 : decode cX10_enginesAgree 64 = .ok (.iconst 0, 1) := by decide +kernel
theorem dX10_enginesAgree_65 : decode cX10_enginesAgree 65 = .ok (.ireturn, 1) := by decide +kernel
theorem dX10_enginesAgree_66 : decode cX10_enginesAgree 66 = .ok (.iinc 1 1, 3) := by decide +kernel
theorem dX10_enginesAgree_69 : decode cX10_enginesAgree 69 = .ok (.goto (-67), 3) := by decide +kernel
theorem dX10_enginesAgree_72 : decode cX10_enginesAgree 72 = .ok (.iconst 1, 1) := by decide +kernel
theorem dX10_enginesAgree_73 : decode cX10_enginesAgree 73 = .ok (.ireturn, 1) := by decide +kernel
theorem dX10_oilAgrees_0 : decode cX10_oilAgrees 0 = .ok (.aload_n 0, 1) := by decide +kernel
theorem dX10_oilAgrees_1 : decode cX10_oilAgrees 1 = .ok (.iload_n 1, 1) := by decide +kernel
theorem dX10_oilAgrees_2 : decode cX10_oilAgrees 2 = .ok (.invokevirtual 463, 3) := by decide +kernel
theorem dX10_oilAgrees_5 : decode cX10_oilAgrees 5 = .ok (.aload_n 0, 1) := by decide +kernel
theorem dX10_oilAgrees_6 : decode cX10_oilAgrees 6 = .ok (.iload_n 1, 1) := by decide +kernel
theorem dX10_oilAgrees_7 : decode cX10_oilAgrees 7 = .ok (.invokevirtual 466, 3) := by decide +kernel
theorem dX10_oilAgrees_10 : decode cX10_oilAgrees 10 = .ok (.if_icmp .ne 7, 3) := by decide +kernel
theorem dX10_oilAgrees_13 : decode cX10_oilAgrees 13 = .ok (.iconst 1, 1) := by decide +kernel
theorem dX10_oilAgrees_14 : decode cX10_oilAgrees 14 = .ok (.goto 4, 3) := by decide +kernel
theorem dX10_oilAgrees_17 : decode cX10_oilAgrees 17 = .ok (.iconst 0, 1) := by decide +kernel
theorem dX10_oilAgrees_18 : decode cX10_oilAgrees 18 = .ok (.ireturn, 1) := by decide +kernel
theorem dJx00060_init_a7421_0 : decode cJx00060_init_a7421 0 = .ok (.aload_n 0, 1) := by decide +kernel
theorem dJx00060_init_a7421_1 : decode cJx00060_init_a7421 1 = .ok (.aload_n 1, 1) := by decide +kernel
theorem dJx00060_init_a7421_2 : decode cJx00060_init_a7421 2 = .ok (.invokespecial 7, 3) := by decide +kernel
theorem dJx00060_init_a7421_5 : decode cJx00060_init_a7421 5 = .ok (.return_, 1) := by decide +kernel
theorem dJ9_abs_0f7a4_0 : decode cJ9_abs_0f7a4 0 = .ok (.iload_n 0, 1) := by decide +kernel
theorem dJ9_abs_0f7a4_1 : decode cJ9_abs_0f7a4 1 = .ok (.ifCond .ge 8, 3) := by decide +kernel
theorem dJ9_abs_0f7a4_4 : decode cJ9_abs_0f7a4 4 = .ok (.iload_n 0, 1) := by decide +kernel
theorem dJ9_abs_0f7a4_5 : decode cJ9_abs_0f7a4 5 = .ok (.ineg, 1) := by decide +kernel
theorem dJ9_abs_0f7a4_6 : decode cJ9_abs_0f7a4 6 = .ok (.goto 4, 3) := by decide +kernel
theorem dJ9_abs_0f7a4_9 : decode cJ9_abs_0f7a4 9 = .ok (.iload_n 0, 1) := by decide +kernel
theorem dJ9_abs_0f7a4_10 : decode cJ9_abs_0f7a4 10 = .ok (.ireturn, 1) := by decide +kernel
theorem dJ9_max_7cf53_0 : decode cJ9_max_7cf53 0 = .ok (.iload_n 0, 1) := by decide +kernel
theorem dJ9_max_7cf53_1 : decode cJ9_max_7cf53 1 = .ok (.iload_n 1, 1) := by decide +kernel
theorem dJ9_max_7cf53_2 : decode cJ9_max_7cf53 2 = .ok (.if_icmp .lt 7, 3) := by decide +kernel
theorem dJ9_max_7cf53_5 : decode cJ9_max_7cf53 5 = .ok (.iload_n 0, 1) := by decide +kernel
theorem dJ9_max_7cf53_6 : decode cJ9_max_7cf53 6 = .ok (.goto 4, 3) := by decide +kernel
theorem dJ9_max_7cf53_9 : decode cJ9_max_7cf53 9 = .ok (.iload_n 1, 1) := by decide +kernel
theorem dJ9_max_7cf53_10 : decode cJ9_max_7cf53 10 = .ok (.ireturn, 1) := by decide +kernel
theorem dJ9_min_7cf53_0 : decode cJ9_min_7cf53 0 = .ok (.iload_n 0, 1) := by decide +kernel
theorem dJ9_min_7cf53_1 : decode cJ9_min_7cf53 1 = .ok (.iload_n 1, 1) := by decide +kernel
theorem dJ9_min_7cf53_2 : decode cJ9_min_7cf53 2 = .ok (.if_icmp .gt 7, 3) := by decide +kernel
theorem dJ9_min_7cf53_5 : decode cJ9_min_7cf53 5 = .ok (.iload_n 0, 1) := by decide +kernel
theorem dJ9_min_7cf53_6 : decode cJ9_min_7cf53 6 = .ok (.goto 4, 3) := by decide +kernel
theorem dJ9_min_7cf53_9 : decode cJ9_min_7cf53 9 = .ok (.iload_n 1, 1) := by decide +kernel
theorem dJ9_min_7cf53_10 : decode cJ9_min_7cf53 10 = .ok (.ireturn, 1) := by decide +kernel
theorem dJ0_length_8abf5_0 : decode cJ0_length_8abf5 0 = .ok (.aload_n 0, 1) := by decide +kernel
theorem dJ0_length_8abf5_1 : decode cJ0_length_8abf5 1 = .ok (.getfield 9, 3) := by decide +kernel
theorem dJ0_length_8abf5_4 : decode cJ0_length_8abf5 4 = .ok (.arraylength, 1) := by decide +kernel
theorem dJ0_length_8abf5_5 : decode cJ0_length_8abf5 5 = .ok (.aload_n 0, 1) := by decide +kernel
theorem dJ0_length_8abf5_6 : decode cJ0_length_8abf5 6 = .ok (.invokevirtual 335, 3) := by decide +kernel
theorem dJ0_length_8abf5_9 : decode cJ0_length_8abf5 9 = .ok (.ishr, 1) := by decide +kernel
theorem dJ0_length_8abf5_10 : decode cJ0_length_8abf5 10 = .ok (.ireturn, 1) := by decide +kernel
theorem dJ0_charAt_5068e_0 : decode cJ0_charAt_5068e 0 = .ok (.aload_n 0, 1) := by decide +kernel
theorem dJ0_charAt_5068e_1 : decode cJ0_charAt_5068e 1 = .ok (.invokevirtual 492, 3) := by decide +kernel
theorem dJ0_charAt_5068e_4 : decode cJ0_charAt_5068e 4 = .ok (.ifCond .eq 12, 3) := by decide +kernel
theorem dJ0_charAt_5068e_7 : decode cJ0_charAt_5068e 7 = .ok (.aload_n 0, 1) := by decide +kernel
theorem dJ0_charAt_5068e_8 : decode cJ0_charAt_5068e 8 = .ok (.getfield 9, 3) := by decide +kernel
theorem dJ0_charAt_5068e_11 : decode cJ0_charAt_5068e 11 = .ok (.iload_n 1, 1) := by decide +kernel
theorem dJ0_charAt_5068e_12 : decode cJ0_charAt_5068e 12 = .ok (.invokestatic 495, 3) := by decide +kernel
theorem dJ0_charAt_5068e_15 : decode cJ0_charAt_5068e 15 = .ok (.ireturn, 1) := by decide +kernel
theorem dJ0_charAt_5068e_16 : decode cJ0_charAt_5068e 16 = .ok (.aload_n 0, 1) := by decide +kernel
theorem dJ0_charAt_5068e_17 : decode cJ0_charAt_5068e 17 = .ok (.getfield 9, 3) := by decide +kernel
theorem dJ0_charAt_5068e_20 : decode cJ0_charAt_5068e 20 = .ok (.iload_n 1, 1) := by decide +kernel
theorem dJ0_charAt_5068e_21 : decode cJ0_charAt_5068e 21 = .ok (.invokestatic 498, 3) := by decide +kernel
theorem dJ0_charAt_5068e_24 : decode cJ0_charAt_5068e 24 = .ok (.ireturn, 1) := by decide +kernel
theorem dJ0_coder_7d493_0 : decode cJ0_coder_7d493 0 = .ok (.getstatic 38, 3) := by decide +kernel
theorem dJ0_coder_7d493_3 : decode cJ0_coder_7d493 3 = .ok (.ifCond .eq 10, 3) := by decide +kernel
theorem dJ0_coder_7d493_6 : decode cJ0_coder_7d493 6 = .ok (.aload_n 0, 1) := by decide +kernel
theorem dJ0_coder_7d493_7 : decode cJ0_coder_7d493 7 = .ok (.getfield 15, 3) := by decide +kernel
theorem dJ0_coder_7d493_10 : decode cJ0_coder_7d493 10 = .ok (.goto 4, 3) := by decide +kernel
theorem dJ0_coder_7d493_13 : decode cJ0_coder_7d493 13 = .ok (.iconst 1, 1) := by decide +kernel
theorem dJ0_coder_7d493_14 : decode cJ0_coder_7d493 14 = .ok (.ireturn, 1) := by decide +kernel
theorem dJ0_isLatin1_aae02_0 : decode cJ0_isLatin1_aae02 0 = .ok (.getstatic 38, 3) := by decide +kernel
theorem dJ0_isLatin1_aae02_3 : decode cJ0_isLatin1_aae02 3 = .ok (.ifCond .eq 14, 3) := by decide +kernel
theorem dJ0_isLatin1_aae02_6 : decode cJ0_isLatin1_aae02 6 = .ok (.aload_n 0, 1) := by decide +kernel
theorem dJ0_isLatin1_aae02_7 : decode cJ0_isLatin1_aae02 7 = .ok (.getfield 15, 3) := by decide +kernel
theorem dJ0_isLatin1_aae02_10 : decode cJ0_isLatin1_aae02 10 = .ok (.ifCond .ne 7, 3) := by decide +kernel
theorem dJ0_isLatin1_aae02_13 : decode cJ0_isLatin1_aae02 13 = .ok (.iconst 1, 1) := by decide +kernel
theorem dJ0_isLatin1_aae02_14 : decode cJ0_isLatin1_aae02 14 = .ok (.goto 4, 3) := by decide +kernel
theorem dJ0_isLatin1_aae02_17 : decode cJ0_isLatin1_aae02 17 = .ok (.iconst 0, 1) := by decide +kernel
theorem dJ0_isLatin1_aae02_18 : decode cJ0_isLatin1_aae02 18 = .ok (.ireturn, 1) := by decide +kernel
theorem dJ0_checkIndex_df160_0 : decode cJ0_checkIndex_df160 0 = .ok (.iload_n 0, 1) := by decide +kernel
theorem dJ0_checkIndex_df160_1 : decode cJ0_checkIndex_df160 1 = .ok (.iload_n 1, 1) := by decide +kernel
theorem dJ0_checkIndex_df160_2 : decode cJ0_checkIndex_df160 2 = .ok (.getstatic 1053, 3) := by decide +kernel
theorem dJ0_checkIndex_df160_5 : decode cJ0_checkIndex_df160 5 = .ok (.invokestatic 1059, 3) := by decide +kernel
theorem dJ0_checkIndex_df160_8 : decode cJ0_checkIndex_df160 8 = .ok (.pop, 1) := by decide +kernel
theorem dJ0_checkIndex_df160_9 : decode cJ0_checkIndex_df160 9 = .ok (.return_, 1) := by decide +kernel
theorem dJ1_charAt_3b067_0 : decode cJ1_charAt_3b067 0 = .ok (.iload_n 1, 1) := by decide +kernel
theorem dJ1_charAt_3b067_1 : decode cJ1_charAt_3b067 1 = .ok (.aload_n 0, 1) := by decide +kernel
theorem dJ1_charAt_3b067_2 : decode cJ1_charAt_3b067 2 = .ok (.arraylength, 1) := by decide +kernel
theorem dJ1_charAt_3b067_3 : decode cJ1_charAt_3b067 3 = .ok (.invokestatic 9, 3) := by decide +kernel
theorem dJ1_charAt_3b067_6 : decode cJ1_charAt_3b067 6 = .ok (.aload_n 0, 1) := by decide +kernel
theorem dJ1_charAt_3b067_7 : decode cJ1_charAt_3b067 7 = .ok (.iload_n 1, 1) := by decide +kernel
theorem dJ1_charAt_3b067_8 : decode cJ1_charAt_3b067 8 = .ok (.baload, 1) := by decide +kernel
theorem dJ1_charAt_3b067_9 : decode cJ1_charAt_3b067 9 = .ok (.sipush 255, 3) := by decide +kernel
theorem dJ1_charAt_3b067_12 : decode cJ1_charAt_3b067 12 = .ok (.iand, 1) := by decide +kernel
theorem dJ1_charAt_3b067_13 : decode cJ1_charAt_3b067 13 = .ok (.i2c, 1) := by decide +kernel
theorem dJ1_charAt_3b067_14 : decode cJ1_charAt_3b067 14 = .ok (.ireturn, 1) := by decide +kernel
theorem dJ2_getChar_3b067_0 : decode cJ2_getChar_3b067 0 = .ok (.getstatic 44, 3) := by decide +kernel
theorem dJ2_getChar_3b067_3 : decode cJ2_getChar_3b067 3 = .ok (.ifCond .ne 25, 3) := by decide +kernel
theorem dJ2_getChar_3b067_6 : decode cJ2_getChar_3b067 6 = .ok (.iload_n 1, 1) := by decide +kernel
theorem dJ2_getChar_3b067_7 : decode cJ2_getChar_3b067 7 = .ok (.ifCond .lt 11, 3) := by decide +kernel
theorem dJ2_getChar_3b067_10 : decode cJ2_getChar_3b067 10 = .ok (.iload_n 1, 1) := by decide +kernel
theorem dJ2_getChar_3b067_11 : decode cJ2_getChar_3b067 11 = .ok (.aload_n 0, 1) := by decide +kernel
theorem dJ2_getChar_3b067_12 : decode cJ2_getChar_3b067 12 = .ok (.invokestatic 48, 3) := by decide +kernel
theorem dJ2_getChar_3b067_15 : decode cJ2_getChar_3b067 15 = .ok (.if_icmp .lt 13, 3) := by decide +kernel
theorem dJ2_getChar_3b067_18 : decode cJ2_getChar_3b067 18 = .ok (.new 52, 3) := by decide +kernel
theorem dJ2_getChar_3b067_21 : decode cJ2_getChar_3b067 21 = .ok (.dup, 1) := by decide +kernel
theorem dJ2_getChar_3b067_22 : decode cJ2_getChar_3b067 22 = .ok (.ldc 54, 2) := by decide +kernel
theorem dJ2_getChar_3b067_24 : decode cJ2_getChar_3b067 24 = .ok (.invokespecial 56, 3) := by decide +kernel
theorem dJ2_getChar_3b067_27 : decode cJ2_getChar_3b067 27 = .ok (.athrow, 1) := by decide +kernel
theorem dJ2_getChar_3b067_28 : decode cJ2_getChar_3b067 28 = .ok (.iload_n 1, 1) := by decide +kernel
theorem dJ2_getChar_3b067_29 : decode cJ2_getChar_3b067 29 = .ok (.iconst 1, 1) := by decide +kernel
theorem dJ2_getChar_3b067_30 : decode cJ2_getChar_3b067 30 = .ok (.ishl, 1) := by decide +kernel
theorem dJ2_getChar_3b067_31 : decode cJ2_getChar_3b067 31 = .ok (.istore_n 1, 1) := by decide +kernel
theorem dJ2_getChar_3b067_32 : decode cJ2_getChar_3b067 32 = .ok (.aload_n 0, 1) := by decide +kernel
theorem dJ2_getChar_3b067_33 : decode cJ2_getChar_3b067 33 = .ok (.iload_n 1, 1) := by decide +kernel
theorem dJ2_getChar_3b067_34 : decode cJ2_getChar_3b067 34 = .ok (.iinc 1 1, 3) := by decide +kernel
theorem dJ2_getChar_3b067_37 : decode cJ2_getChar_3b067 37 = .ok (.baload, 1) := by decide +kernel
theorem dJ2_getChar_3b067_38 : decode cJ2_getChar_3b067 38 = .ok (.sipush 255, 3) := by decide +kernel
theorem dJ2_getChar_3b067_41 : decode cJ2_getChar_3b067 41 = .ok (.iand, 1) := by decide +kernel
theorem dJ2_getChar_3b067_42 : decode cJ2_getChar_3b067 42 = .ok (.getstatic 59, 3) := by decide +kernel
theorem dJ2_getChar_3b067_45 : decode cJ2_getChar_3b067 45 = .ok (.ishl, 1) := by decide +kernel
theorem dJ2_getChar_3b067_46 : decode cJ2_getChar_3b067 46 = .ok (.aload_n 0, 1) := by decide +kernel
theorem dJ2_getChar_3b067_47 : decode cJ2_getChar_3b067 47 = .ok (.iload_n 1, 1) := by decide +kernel
theorem dJ2_getChar_3b067_48 : decode cJ2_getChar_3b067 48 = .ok (.baload, 1) := by decide +kernel
theorem dJ2_getChar_3b067_49 : decode cJ2_getChar_3b067 49 = .ok (.sipush 255, 3) := by decide +kernel
theorem dJ2_getChar_3b067_52 : decode cJ2_getChar_3b067 52 = .ok (.iand, 1) := by decide +kernel
theorem dJ2_getChar_3b067_53 : decode cJ2_getChar_3b067 53 = .ok (.getstatic 63, 3) := by decide +kernel
theorem dJ2_getChar_3b067_56 : decode cJ2_getChar_3b067 56 = .ok (.ishl, 1) := by decide +kernel
theorem dJ2_getChar_3b067_57 : decode cJ2_getChar_3b067 57 = .ok (.ior, 1) := by decide +kernel
theorem dJ2_getChar_3b067_58 : decode cJ2_getChar_3b067 58 = .ok (.i2c, 1) := by decide +kernel
theorem dJ2_getChar_3b067_59 : decode cJ2_getChar_3b067 59 = .ok (.ireturn, 1) := by decide +kernel
theorem dJ2_length_9d52b_0 : decode cJ2_length_9d52b 0 = .ok (.aload_n 0, 1) := by decide +kernel
theorem dJ2_length_9d52b_1 : decode cJ2_length_9d52b 1 = .ok (.arraylength, 1) := by decide +kernel
theorem dJ2_length_9d52b_2 : decode cJ2_length_9d52b 2 = .ok (.iconst 1, 1) := by decide +kernel
theorem dJ2_length_9d52b_3 : decode cJ2_length_9d52b 3 = .ok (.ishr, 1) := by decide +kernel
theorem dJ2_length_9d52b_4 : decode cJ2_length_9d52b 4 = .ok (.ireturn, 1) := by decide +kernel
theorem dJ2_charAt_3b067_0 : decode cJ2_charAt_3b067 0 = .ok (.iload_n 1, 1) := by decide +kernel
theorem dJ2_charAt_3b067_1 : decode cJ2_charAt_3b067 1 = .ok (.aload_n 0, 1) := by decide +kernel
theorem dJ2_charAt_3b067_2 : decode cJ2_charAt_3b067 2 = .ok (.invokestatic 67, 3) := by decide +kernel
theorem dJ2_charAt_3b067_5 : decode cJ2_charAt_3b067 5 = .ok (.aload_n 0, 1) := by decide +kernel
theorem dJ2_charAt_3b067_6 : decode cJ2_charAt_3b067 6 = .ok (.iload_n 1, 1) := by decide +kernel
theorem dJ2_charAt_3b067_7 : decode cJ2_charAt_3b067 7 = .ok (.invokestatic 71, 3) := by decide +kernel
theorem dJ2_charAt_3b067_10 : decode cJ2_charAt_3b067 10 = .ok (.ireturn, 1) := by decide +kernel
theorem dJ2_checkIndex_2214a_0 : decode cJ2_checkIndex_2214a 0 = .ok (.iload_n 0, 1) := by decide +kernel
theorem dJ2_checkIndex_2214a_1 : decode cJ2_checkIndex_2214a 1 = .ok (.aload_n 1, 1) := by decide +kernel
theorem dJ2_checkIndex_2214a_2 : decode cJ2_checkIndex_2214a 2 = .ok (.invokestatic 48, 3) := by decide +kernel
theorem dJ2_checkIndex_2214a_5 : decode cJ2_checkIndex_2214a 5 = .ok (.invokestatic 414, 3) := by decide +kernel
theorem dJ2_checkIndex_2214a_8 : decode cJ2_checkIndex_2214a 8 = .ok (.return_, 1) := by decide +kernel
theorem dJ3_checkIndex_8e157_0 : decode cJ3_checkIndex_8e157 0 = .ok (.iload_n 0, 1) := by decide +kernel
theorem dJ3_checkIndex_8e157_1 : decode cJ3_checkIndex_8e157 1 = .ok (.ifCond .lt 8, 3) := by decide +kernel
theorem dJ3_checkIndex_8e157_4 : decode cJ3_checkIndex_8e157 4 = .ok (.iload_n 0, 1) := by decide +kernel
theorem dJ3_checkIndex_8e157_5 : decode cJ3_checkIndex_8e157 5 = .ok (.iload_n 1, 1) := by decide +kernel
theorem dJ3_checkIndex_8e157_6 : decode cJ3_checkIndex_8e157 6 = .ok (.if_icmp .lt 10, 3) := by decide +kernel
theorem dJ3_checkIndex_8e157_9 : decode cJ3_checkIndex_8e157 9 = .ok (.aload_n 2, 1) := by decide +kernel
theorem dJ3_checkIndex_8e157_10 : decode cJ3_checkIndex_8e157 10 = .ok (.iload_n 0, 1) := by decide +kernel
theorem dJ3_checkIndex_8e157_11 : decode cJ3_checkIndex_8e157 11 = .ok (.iload_n 1, 1) := by decide +kernel
theorem dJ3_checkIndex_8e157_12 : decode cJ3_checkIndex_8e157 12 = .ok (.invokestatic 95, 3) := by decide +kernel
theorem dJ3_checkIndex_8e157_15 : decode cJ3_checkIndex_8e157 15 = .ok (.athrow, 1) := by decide +kernel
theorem dJ3_checkIndex_8e157_16 : decode cJ3_checkIndex_8e157 16 = .ok (.iload_n 0, 1) := by decide +kernel
theorem dJ3_checkIndex_8e157_17 : decode cJ3_checkIndex_8e157 17 = .ok (.ireturn, 1) := by decide +kernel
