theorem dX7_passRow_55 : decode cX7_passRow 55 = .ok (.getfield 53, 3) := by decide +kernel
theorem dX7_passRow_58 : decode cX7_passRow 58 = .ok (.bipush 10, 2) := by decide +kernel
theorem dX7_passRow_60 : decode cX7_passRow 60 = .ok (.imul, 1) := by decide +kernel
theorem dX7_passRow_61 : decode cX7_passRow 61 = .ok (.aload_n 0, 1) := by decide +kernel
theorem dX7_passRow_62 : decode cX7_passRow 62 = .ok (.getfield 9, 3) := by decide +kernel
theorem dX7_passRow_65 : decode cX7_passRow 65 = .ok (.aload_n 0, 1) := by decide +kernel
theorem dX7_passRow_66 : decode cX7_passRow 66 = .ok (.getfield 31, 3) := by decide +kernel
theorem dX7_passRow_69 : decode cX7_passRow 69 = .ok (.baload, 1) := by decide +kernel
theorem dX7_passRow_70 : decode cX7_passRow 70 = .ok (.iadd, 1) := by decide +kernel
theorem dX7_passRow_71 : decode cX7_passRow 71 = .ok (.bipush 48, 2) := by decide +kernel
theorem dX7_passRow_73 : decode cX7_passRow 73 = .ok (.isub, 1) := by decide +kernel
theorem dX7_passRow_74 : decode cX7_passRow 74 = .ok (.putfield 53, 3) := by decide +kernel
theorem dX7_passRow_77 : decode cX7_passRow 77 = .ok (.aload_n 0, 1) := by decide +kernel
theorem dX7_passRow_78 : decode cX7_passRow 78 = .ok (.dup, 1) := by decide +kernel
theorem dX7_passRow_79 : decode cX7_passRow 79 = .ok (.getfield 31, 3) := by decide +kernel
theorem dX7_passRow_82 : decode cX7_passRow 82 = .ok (.iconst 1, 1) := by decide +kernel
theorem dX7_passRow_83 : decode cX7_passRow 83 = .ok (.iadd, 1) := by decide +kernel
theorem dX7_passRow_84 : decode cX7_passRow 84 = .ok (.putfield 31, 3) := by decide +kernel
theorem dX7_passRow_87 : decode cX7_passRow 87 = .ok (.goto (-82), 3) := by decide +kernel
theorem dX7_passRow_90 : decode cX7_passRow 90 = .ok (.return_, 1) := by decide +kernel
theorem dX7_kindOf_0 : decode cX7_kindOf 0 = .ok (.iload_n 0, 1) := by decide +kernel
theorem dX7_kindOf_1 : decode cX7_kindOf 1 = .ok (.bipush 32, 2) := by decide +kernel
theorem dX7_kindOf_3 : decode cX7_kindOf 3 = .ok (.if_icmp .eq 9, 3) := by decide +kernel
theorem dX7_kindOf_6 : decode cX7_kindOf 6 = .ok (.iload_n 0, 1) := by decide +kernel
theorem dX7_kindOf_7 : decode cX7_kindOf 7 = .ok (.bipush 10, 2) := by decide +kernel
theorem dX7_kindOf_9 : decode cX7_kindOf 9 = .ok (.if_icmp .ne 5, 3) := by decide +kernel
theorem dX7_kindOf_12 : decode cX7_kindOf 12 = .ok (.iconst 1, 1) := by decide +kernel
theorem dX7_kindOf_13 : decode cX7_kindOf 13 = .ok (.ireturn, 1) := by decide +kernel
theorem dX7_kindOf_14 : decode cX7_kindOf 14 = .ok (.iload_n 0, 1) := by decide +kernel
theorem dX7_kindOf_15 : decode cX7_kindOf 15 = .ok (.bipush 97, 2) := by decide +kernel
theorem dX7_kindOf_17 : decode cX7_kindOf 17 = .ok (.if_icmp .lt 11, 3) := by decide +kernel
theorem dX7_kindOf_20 : decode cX7_kindOf 20 = .ok (.iload_n 0, 1) := by decide +kernel
theorem dX7_kindOf_21 : decode cX7_kindOf 21 = .ok (.bipush 122, 2) := by decide +kernel
theorem dX7_kindOf_23 : decode cX7_kindOf 23 = .ok (.if_icmp .gt 5, 3) := by decide +kernel
theorem dX7_kindOf_26 : decode cX7_kindOf 26 = .ok (.iconst 2, 1) := by decide +kernel
theorem dX7_kindOf_27 : decode cX7_kindOf 27 = .ok (.ireturn, 1) := by decide +kernel
theorem dX7_kindOf_28 : decode cX7_kindOf 28 = .ok (.iload_n 0, 1) := by decide +kernel
theorem dX7_kindOf_29 : decode cX7_kindOf 29 = .ok (.bipush 48, 2) := by decide +kernel
theorem dX7_kindOf_31 : decode cX7_kindOf 31 = .ok (.if_icmp .lt 13, 3) := by decide +kernel
theorem dX7_kindOf_34 : decode cX7_kindOf 34 = .ok (.iload_n 0, 1) := by decide +kernel
theorem dX7_kindOf_35 : decode cX7_kindOf 35 = .ok (.bipush 57, 2) := by decide +kernel
theorem dX7_kindOf_37 : decode cX7_kindOf 37 = .ok (.if_icmp .gt 7, 3) := by decide +kernel
theorem dX7_kindOf_40 : decode cX7_kindOf 40 = .ok (.iconst 3, 1) := by decide +kernel
theorem dX7_kindOf_41 : decode cX7_kindOf 41 = .ok (.goto 4, 3) := by decide +kernel
theorem dX7_kindOf_44 : decode cX7_kindOf 44 = .ok (.iconst 4, 1) := by decide +kernel
theorem dX7_kindOf_45 : decode cX7_kindOf 45 = .ok (.ireturn, 1) := by decide +kernel
theorem dX7_isWord_0 : decode cX7_isWord 0 = .ok (.aload_n 0, 1) := by decide +kernel
theorem dX7_isWord_1 : decode cX7_isWord 1 = .ok (.getfield 47, 3) := by decide +kernel
theorem dX7_isWord_4 : decode cX7_isWord 4 = .ok (.iconst 2, 1) := by decide +kernel
theorem dX7_isWord_5 : decode cX7_isWord 5 = .ok (.if_icmp .ne 19, 3) := by decide +kernel
theorem dX7_isWord_8 : decode cX7_isWord 8 = .ok (.aload_n 0, 1) := by decide +kernel
theorem dX7_isWord_9 : decode cX7_isWord 9 = .ok (.getfield 31, 3) := by decide +kernel
theorem dX7_isWord_12 : decode cX7_isWord 12 = .ok (.aload_n 0, 1) := by decide +kernel
theorem dX7_isWord_13 : decode cX7_isWord 13 = .ok (.getfield 40, 3) := by decide +kernel
theorem dX7_isWord_16 : decode cX7_isWord 16 = .ok (.isub, 1) := by decide +kernel
theorem dX7_isWord_17 : decode cX7_isWord 17 = .ok (.aload_n 1, 1) := by decide +kernel
theorem dX7_isWord_18 : decode cX7_isWord 18 = .ok (.invokevirtual 56, 3) := by decide +kernel
theorem dX7_isWord_21 : decode cX7_isWord 21 = .ok (.if_icmp .eq 5, 3) := by decide +kernel
theorem dX7_isWord_24 : decode cX7_isWord 24 = .ok (.iconst 0, 1) := by decide +kernel
theorem dX7_isWord_25 : decode cX7_isWord 25 = .ok (.ireturn, 1) := by decide +kernel
theorem dX7_isWord_26 : decode cX7_isWord 26 = .ok (.iconst 0, 1) := by decide +kernel
theorem dX7_isWord_27 : decode cX7_isWord 27 = .ok (.istore_n 2, 1) := by decide +kernel
theorem dX7_isWord_28 : decode cX7_isWord 28 = .ok (.iload_n 2, 1) := by decide +kernel
theorem dX7_isWord_29 : decode cX7_isWord 29 = .ok (.aload_n 1, 1) := by decide +kernel
theorem dX7_isWord_30 : decode cX7_isWord 30 = .ok (.invokevirtual 56, 3) := by decide +kernel
theorem dX7_isWord_33 : decode cX7_isWord 33 = .ok (.if_icmp .ge 30, 3) := by decide +kernel
theorem dX7_isWord_36 : decode cX7_isWord 36 = .ok (.aload_n 0, 1) := by decide +kernel
theorem dX7_isWord_37 : decode cX7_isWord 37 = .ok (.getfield 9, 3) := by decide +kernel
theorem dX7_isWord_40 : decode cX7_isWord 40 = .ok (.aload_n 0, 1) := by decide +kernel
theorem dX7_isWord_41 : decode cX7_isWord 41 = .ok (.getfield 40, 3) := by decide +kernel
theorem dX7_isWord_44 : decode cX7_isWord 44 = .ok (.iload_n 2, 1) := by decide +kernel
theorem dX7_isWord_45 : decode cX7_isWord 45 = .ok (.iadd, 1) := by decide +kernel
theorem dX7_isWord_46 : decode cX7_isWord 46 = .ok (.baload, 1) := by decide +kernel
theorem dX7_isWord_47 : decode cX7_isWord 47 = .ok (.aload_n 1, 1) := by decide +kernel
theorem dX7_isWord_48 : decode cX7_isWord 48 = .ok (.iload_n 2, 1) := by decide +kernel
theorem dX7_isWord_49 : decode cX7_isWord 49 = .ok (.invokevirtual 61, 3) := by decide +kernel
theorem dX7_isWord_52 : decode cX7_isWord 52 = .ok (.if_icmp .eq 5, 3) := by decide +kernel
theorem dX7_isWord_55 : decode cX7_isWord 55 = .ok (.iconst 0, 1) := by decide +kernel
theorem dX7_isWord_56 : decode cX7_isWord 56 = .ok (.ireturn, 1) := by decide +kernel
theorem dX7_isWord_57 : decode cX7_isWord 57 = .ok (.iinc 2 1, 3) := by decide +kernel
theorem dX7_isWord_60 : decode cX7_isWord 60 = .ok (.goto (-32), 3) := by decide +kernel
theorem dX7_isWord_63 : decode cX7_isWord 63 = .ok (.iconst 1, 1) := by decide +kernel
theorem dX7_isWord_64 : decode cX7_isWord 64 = .ok (.ireturn, 1) := by decide +kernel
theorem dX7_isSign_0 : decode cX7_isSign 0 = .ok (.aload_n 0, 1) := by decide +kernel
theorem dX7_isSign_1 : decode cX7_isSign 1 = .ok (.getfield 47, 3) := by decide +kernel
theorem dX7_isSign_4 : decode cX7_isSign 4 = .ok (.iconst 4, 1) := by decide +kernel
theorem dX7_isSign_5 : decode cX7_isSign 5 = .ok (.if_icmp .ne 20, 3) := by decide +kernel
theorem dX7_isSign_8 : decode cX7_isSign 8 = .ok (.aload_n 0, 1) := by decide +kernel
theorem dX7_isSign_9 : decode cX7_isSign 9 = .ok (.getfield 9, 3) := by decide +kernel
theorem dX7_isSign_12 : decode cX7_isSign 12 = .ok (.aload_n 0, 1) := by decide +kernel
theorem dX7_isSign_13 : decode cX7_isSign 13 = .ok (.getfield 40, 3) := by decide +kernel
theorem dX7_isSign_16 : decode cX7_isSign 16 = .ok (.baload, 1) := by decide +kernel
theorem dX7_isSign_17 : decode cX7_isSign 17 = .ok (.iload_n 1, 1) := by decide +kernel
theorem dX7_isSign_18 : decode cX7_isSign 18 = .ok (.if_icmp .ne 7, 3) := by decide +kernel
theorem dX7_isSign_21 : decode cX7_isSign 21 = .ok (.iconst 1, 1) := by decide +kernel
theorem dX7_isSign_22 : decode cX7_isSign 22 = .ok (.goto 4, 3) := by decide +kernel
theorem dX7_isSign_25 : decode cX7_isSign 25 = .ok (.iconst 0, 1) := by decide +kernel
theorem dX7_isSign_26 : decode cX7_isSign 26 = .ok (.ireturn, 1) := by decide +kernel
theorem dX7_isName_0 : decode cX7_isName 0 = .ok (.aload_n 0, 1) := by decide +kernel
theorem dX7_isName_1 : decode cX7_isName 1 = .ok (.getfield 47, 3) := by decide +kernel
theorem dX7_isName_4 : decode cX7_isName 4 = .ok (.iconst 2, 1) := by decide +kernel
theorem dX7_isName_5 : decode cX7_isName 5 = .ok (.if_icmp .ne 30, 3) := by decide +kernel
theorem dX7_isName_8 : decode cX7_isName 8 = .ok (.aload_n 0, 1) := by decide +kernel
theorem dX7_isName_9 : decode cX7_isName 9 = .ok (.getfield 31, 3) := by decide +kernel
theorem dX7_isName_12 : decode cX7_isName 12 = .ok (.aload_n 0, 1) := by decide +kernel
theorem dX7_isName_13 : decode cX7_isName 13 = .ok (.getfield 40, 3) := by decide +kernel
theorem dX7_isName_16 : decode cX7_isName 16 = .ok (.isub, 1) := by decide +kernel
theorem dX7_isName_17 : decode cX7_isName 17 = .ok (.bipush 6, 2) := by decide +kernel
theorem dX7_isName_19 : decode cX7_isName 19 = .ok (.if_icmp .gt 16, 3) := by decide +kernel
theorem dX7_isName_22 : decode cX7_isName 22 = .ok (.aload_n 0, 1) := by decide +kernel
theorem dX7_isName_23 : decode cX7_isName 23 = .ok (.ldc 65, 2) := by decide +kernel
theorem dX7_isName_25 : decode cX7_isName 25 = .ok (.invokevirtual 67, 3) := by decide +kernel
theorem dX7_isName_28 : decode cX7_isName 28 = .ok (.ifCond .ne 7, 3) := by decide +kernel
theorem dX7_isName_31 : decode cX7_isName 31 = .ok (.iconst 1, 1) := by decide +kernel
theorem dX7_isName_32 : decode cX7_isName 32 = .ok (.goto 4, 3) := by decide +kernel
theorem dX7_isName_35 : decode cX7_isName 35 = .ok (.iconst 0, 1) := by decide +kernel
theorem dX7_isName_36 : decode cX7_isName 36 = .ok (.ireturn, 1) := by decide +kernel
theorem dX7_letterOf_0 : decode cX7_letterOf 0 = .ok (.aload_n 0, 1) := by decide +kernel
theorem dX7_letterOf_1 : decode cX7_letterOf 1 = .ok (.getfield 47, 3) := by decide +kernel
theorem dX7_letterOf_4 : decode cX7_letterOf 4 = .ok (.iconst 2, 1) := by decide +kernel
theorem dX7_letterOf_5 : decode cX7_letterOf 5 = .ok (.if_icmp .ne 39, 3) := by decide +kernel
theorem dX7_letterOf_8 : decode cX7_letterOf 8 = .ok (.iload_n 1, 1) := by decide +kernel
theorem dX7_letterOf_9 : decode cX7_letterOf 9 = .ok (.ifCond .lt 35, 3) := by decide +kernel
theorem dX7_letterOf_12 : decode cX7_letterOf 12 = .ok (.iload_n 1, 1) := by decide +kernel
theorem dX7_letterOf_13 : decode cX7_letterOf 13 = .ok (.aload_n 0, 1) := by decide +kernel
theorem dX7_letterOf_14 : decode cX7_letterOf 14 = .ok (.getfield 31, 3) := by decide +kernel
theorem dX7_letterOf_17 : decode cX7_letterOf 17 = .ok (.aload_n 0, 1) := by decide +kernel
theorem dX7_letterOf_18 : decode cX7_letterOf 18 = .ok (.getfield 40, 3) := by decide +kernel
theorem dX7_letterOf_21 : decode cX7_letterOf 21 = .ok (.isub, 1) := by decide +kernel
theorem dX7_letterOf_22 : decode cX7_letterOf 22 = .ok (.if_icmp .ge 22, 3) := by decide +kernel
theorem dX7_letterOf_25 : decode cX7_letterOf 25 = .ok (.aload_n 0, 1) := by decide +kernel
theorem dX7_letterOf_26 : decode cX7_letterOf 26 = .ok (.getfield 9, 3) := by decide +kernel
theorem dX7_letterOf_29 : decode cX7_letterOf 29 = .ok (.aload_n 0, 1) := by decide +kernel
theorem dX7_letterOf_30 : decode cX7_letterOf 30 = .ok (.getfield 40, 3) := by decide +kernel
theorem dX7_letterOf_33 : decode cX7_letterOf 33 = .ok (.iload_n 1, 1) := by decide +kernel
theorem dX7_letterOf_34 : decode cX7_letterOf 34 = .ok (.iadd, 1) := by decide +kernel
theorem dX7_letterOf_35 : decode cX7_letterOf 35 = .ok (.baload, 1) := by decide +kernel
theorem dX7_letterOf_36 : decode cX7_letterOf 36 = .ok (.bipush 97, 2) := by decide +kernel
theorem dX7_letterOf_38 : decode cX7_letterOf 38 = .ok (.isub, 1) := by decide +kernel
theorem dX7_letterOf_39 : decode cX7_letterOf 39 = .ok (.iconst 1, 1) := by decide +kernel
theorem dX7_letterOf_40 : decode cX7_letterOf 40 = .ok (.iadd, 1) := by decide +kernel
theorem dX7_letterOf_41 : decode cX7_letterOf 41 = .ok (.goto 4, 3) := by decide +kernel
theorem dX7_letterOf_44 : decode cX7_letterOf 44 = .ok (.iconst 0, 1) := by decide +kernel
theorem dX7_letterOf_45 : decode cX7_letterOf 45 = .ok (.ireturn, 1) := by decide +kernel
theorem dX7_passSign_0 : decode cX7_passSign 0 = .ok (.aload_n 0, 1) := by decide +kernel
theorem dX7_passSign_1 : decode cX7_passSign 1 = .ok (.iload_n 1, 1) := by decide +kernel
theorem dX7_passSign_2 : decode cX7_passSign 2 = .ok (.invokevirtual 71, 3) := by decide +kernel
theorem dX7_passSign_5 : decode cX7_passSign 5 = .ok (.ifCond .ne 8, 3) := by decide +kernel
theorem dX7_passSign_8 : decode cX7_passSign 8 = .ok (.aload_n 0, 1) := by decide +kernel
theorem dX7_passSign_9 : decode cX7_passSign 9 = .ok (.iconst 1, 1) := by decide +kernel
theorem dX7_passSign_10 : decode cX7_passSign 10 = .ok (.invokevirtual 75, 3) := by decide +kernel
theorem dX7_passSign_13 : decode cX7_passSign 13 = .ok (.aload_n 0, 1) := by decide +kernel
theorem dX7_passSign_14 : decode cX7_passSign 14 = .ok (.invokevirtual 37, 3) := by decide +kernel
theorem dX7_passSign_17 : decode cX7_passSign 17 = .ok (.return_, 1) := by decide +kernel
theorem dX8_init_0 : decode cX8_init 0 = .ok (.aload_n 0, 1) := by decide +kernel
theorem dX8_init_1 : decode cX8_init 1 = .ok (.invokespecial 3, 3) := by decide +kernel
theorem dX8_init_4 : decode cX8_init 4 = .ok (.aload_n 0, 1) := by decide +kernel
theorem dX8_init_5 : decode cX8_init 5 = .ok (.aload_n 1, 1) := by decide +kernel
theorem dX8_init_6 : decode cX8_init 6 = .ok (.putfield 9, 3) := by decide +kernel
theorem dX8_init_9 : decode cX8_init 9 = .ok (.aload_n 0, 1) := by decide +kernel
theorem dX8_init_10 : decode cX8_init 10 = .ok (.aload_n 2, 1) := by decide +kernel
theorem dX8_init_11 : decode cX8_init 11 = .ok (.putfield 15, 3) := by decide +kernel
theorem dX8_init_14 : decode cX8_init 14 = .ok (.return_, 1) := by decide +kernel
theorem dX8_read_0 : decode cX8_read 0 = .ok (.aload_n 0, 1) := by decide +kernel
theorem dX8_read_1 : decode cX8_read 1 = .ok (.getfield 15, 3) := by decide +kernel
theorem dX8_read_4 : decode cX8_read 4 = .ok (.invokevirtual 19, 3) := by decide +kernel
theorem dX8_read_7 : decode cX8_read 7 = .ok (.aload_n 0, 1) := by decide +kernel
theorem dX8_read_8 : decode cX8_read 8 = .ok (.getfield 9, 3) := by decide +kernel
theorem dX8_read_11 : decode cX8_read 11 = .ok (.iload_n 1, 1) := by decide +kernel
theorem dX8_read_12 : decode cX8_read 12 = .ok (.invokevirtual 24, 3) := by decide +kernel
theorem dX8_read_15 : decode cX8_read 15 = .ok (.sipush 600, 3) := by decide +kernel
theorem dX8_read_18 : decode cX8_read 18 = .ok (.istore_n 2, 1) := by decide +kernel
theorem dX8_read_19 : decode cX8_read 19 = .ok (.iload_n 2, 1) := by decide +kernel
theorem dX8_read_20 : decode cX8_read 20 = .ok (.ifCond .le 42, 3) := by decide +kernel
theorem dX8_read_23 : decode cX8_read 23 = .ok (.aload_n 0, 1) := by decide +kernel
theorem dX8_read_24 : decode cX8_read 24 = .ok (.getfield 9, 3) := by decide +kernel
theorem dX8_read_27 : decode cX8_read 27 = .ok (.getfield 30, 3) := by decide +kernel
theorem dX8_read_30 : decode cX8_read 30 = .ok (.ifCond .ne 32, 3) := by decide +kernel
theorem dX8_read_33 : decode cX8_read 33 = .ok (.aload_n 0, 1) := by decide +kernel
theorem dX8_read_34 : decode cX8_read 34 = .ok (.getfield 9, 3) := by decide +kernel
theorem dX8_read_37 : decode cX8_read 37 = .ok (.getfield 34, 3) := by decide +kernel
theorem dX8_read_40 : decode cX8_read 40 = .ok (.ifCond .eq 22, 3) := by decide +kernel
theorem dX8_read_43 : decode cX8_read 43 = .ok (.aload_n 0, 1) := by decide +kernel
theorem dX8_read_44 : decode cX8_read 44 = .ok (.invokevirtual 37, 3) := by decide +kernel
theorem dX8_read_47 : decode cX8_read 47 = .ok (.aload_n 0, 1) := by decide +kernel
theorem dX8_read_48 : decode cX8_read 48 = .ok (.getfield 9, 3) := by decide +kernel
theorem dX8_read_51 : decode cX8_read 51 = .ok (.bipush 59, 2) := by decide +kernel
theorem dX8_read_53 : decode cX8_read 53 = .ok (.invokevirtual 40, 3) := by decide +kernel
theorem dX8_read_56 : decode cX8_read 56 = .ok (.iinc 2 (-1), 3) := by decide +kernel
theorem dX8_read_59 : decode cX8_read 59 = .ok (.goto (-40), 3) := by decide +kernel
theorem dX8_read_62 : decode cX8_read 62 = .ok (.return_, 1) := by decide +kernel
theorem dX8_readLine_0 : decode cX8_readLine 0 = .ok (.aload_n 0, 1) := by decide +kernel
theorem dX8_readLine_1 : decode cX8_readLine 1 = .ok (.getfield 9, 3) := by decide +kernel
theorem dX8_readLine_4 : decode cX8_readLine 4 = .ok (.ldc 44, 2) := by decide +kernel
theorem dX8_readLine_6 : decode cX8_readLine 6 = .ok (.invokevirtual 46, 3) := by decide +kernel
theorem dX8_readLine_9 : decode cX8_readLine 9 = .ok (.ifCond .eq 10, 3) := by decide +kernel
theorem dX8_readLine_12 : decode cX8_readLine 12 = .ok (.aload_n 0, 1) := by decide +kernel
theorem dX8_readLine_13 : decode cX8_readLine 13 = .ok (.invokevirtual 50, 3) := by decide +kernel
theorem dX8_readLine_16 : decode cX8_readLine 16 = .ok (.goto 168, 3) := by decide +kernel
theorem dX8_readLine_19 : decode cX8_readLine 19 = .ok (.aload_n 0, 1) := by decide +kernel
theorem dX8_readLine_20 : decode cX8_readLine 20 = .ok (.getfield 9, 3) := by decide +kernel
theorem dX8_readLine_23 : decode cX8_readLine 23 = .ok (.ldc 53, 2) := by decide +kernel
theorem dX8_readLine_25 : decode cX8_readLine 25 = .ok (.invokevirtual 46, 3) := by decide +kernel
theorem dX8_readLine_28 : decode cX8_readLine 28 = .ok (.ifCond .eq 11, 3) := by decide +kernel
theorem dX8_readLine_31 : decode cX8_readLine 31 = .ok (.aload_n 0, 1) := by decide +kernel
theorem dX8_readLine_32 : decode cX8_readLine 32 = .ok (.iconst 0, 1) := by decide +kernel
theorem dX8_readLine_33 : decode cX8_readLine 33 = .ok (.invokevirtual 55, 3) := by decide +kernel
theorem dX8_readLine_36 : decode cX8_readLine 36 = .ok (.goto 148, 3) := by decide +kernel
theorem dX8_readLine_39 : decode cX8_readLine 39 = .ok (.aload_n 0, 1) := by decide +kernel
theorem dX8_readLine_40 : decode cX8_readLine 40 = .ok (.getfield 9, 3) := by decide +kernel
theorem dX8_readLine_43 : decode cX8_readLine 43 = .ok (.ldc 59, 2) := by decide +kernel
theorem dX8_readLine_45 : decode cX8_readLine 45 = .ok (.invokevirtual 46, 3) := by decide +kernel
theorem dX8_readLine_48 : decode cX8_readLine 48 = .ok (.ifCond .eq 11, 3) := by decide +kernel
theorem dX8_readLine_51 : decode cX8_readLine 51 = .ok (.aload_n 0, 1) := by decide +kernel
theorem dX8_readLine_52 : decode cX8_readLine 52 = .ok (.iconst 1, 1) := by decide +kernel
theorem dX8_readLine_53 : decode cX8_readLine 53 = .ok (.invokevirtual 55, 3) := by decide +kernel
theorem dX8_readLine_56 : decode cX8_readLine 56 = .ok (.goto 128, 3) := by decide +kernel
theorem dX8_readLine_59 : decode cX8_readLine 59 = .ok (.aload_n 0, 1) := by decide +kernel
theorem dX8_readLine_60 : decode cX8_readLine 60 = .ok (.getfield 9, 3) := by decide +kernel
theorem dX8_readLine_63 : decode cX8_readLine 63 = .ok (.ldc 61, 2) := by decide +kernel
theorem dX8_readLine_65 : decode cX8_readLine 65 = .ok (.invokevirtual 46, 3) := by decide +kernel
theorem dX8_readLine_68 : decode cX8_readLine 68 = .ok (.ifCond .eq 10, 3) := by decide +kernel
theorem dX8_readLine_71 : decode cX8_readLine 71 = .ok (.aload_n 0, 1) := by decide +kernel
theorem dX8_readLine_72 : decode cX8_readLine 72 = .ok (.invokevirtual 63, 3) := by decide +kernel
theorem dX8_readLine_75 : decode cX8_readLine 75 = .ok (.goto 109, 3) := by decide +kernel
theorem dX8_readLine_78 : decode cX8_readLine 78 = .ok (.aload_n 0, 1) := by decide +kernel
theorem dX8_readLine_79 : decode cX8_readLine 79 = .ok (.getfield 9, 3) := by decide +kernel
theorem dX8_readLine_82 : decode cX8_readLine 82 = .ok (.ldc 66, 2) := by decide +kernel
theorem dX8_readLine_84 : decode cX8_readLine 84 = .ok (.invokevirtual 46, 3) := by decide +kernel
theorem dX8_readLine_87 : decode cX8_readLine 87 = .ok (.ifCond .eq 10, 3) := by decide +kernel
theorem dX8_readLine_90 : decode cX8_readLine 90 = .ok (.aload_n 0, 1) := by decide +kernel
theorem dX8_readLine_91 : decode cX8_readLine 91 = .ok (.invokevirtual 68, 3) := by decide +kernel
theorem dX8_readLine_94 : decode cX8_readLine 94 = .ok (.goto 90, 3) := by decide +kernel
theorem dX8_readLine_97 : decode cX8_readLine 97 = .ok (.aload_n 0, 1) := by decide +kernel
theorem dX8_readLine_98 : decode cX8_readLine 98 = .ok (.getfield 9, 3) := by decide +kernel
theorem dX8_readLine_101 : decode cX8_readLine 101 = .ok (.ldc 71, 2) := by decide +kernel
theorem dX8_readLine_103 : decode cX8_readLine 103 = .ok (.invokevirtual 46, 3) := by decide +kernel
theorem dX8_readLine_106 : decode cX8_readLine 106 = .ok (.ifCond .eq 10, 3) := by decide +kernel
theorem dX8_readLine_109 : decode cX8_readLine 109 = .ok (.aload_n 0, 1) := by decide +kernel
theorem dX8_readLine_110 : decode cX8_readLine 110 = .ok (.invokevirtual 73, 3) := by decide +kernel
theorem dX8_readLine_113 : decode cX8_readLine 113 = .ok (.goto 71, 3) := by decide +kernel
theorem dX8_readLine_116 : decode cX8_readLine 116 = .ok (.aload_n 0, 1) := by decide +kernel
theorem dX8_readLine_117 : decode cX8_readLine 117 = .ok (.getfield 9, 3) := by decide +kernel
theorem dX8_readLine_120 : decode cX8_readLine 120 = .ok (.ldc 76, 2) := by decide +kernel
theorem dX8_readLine_122 : decode cX8_readLine 122 = .ok (.invokevirtual 46, 3) := by decide +kernel
theorem dX8_readLine_125 : decode cX8_readLine 125 = .ok (.ifCond .eq 11, 3) := by decide +kernel
theorem dX8_readLine_128 : decode cX8_readLine 128 = .ok (.aload_n 0, 1) := by decide +kernel
theorem dX8_readLine_129 : decode cX8_readLine 129 = .ok (.iconst 0, 1) := by decide +kernel
theorem dX8_readLine_130 : decode cX8_readLine 130 = .ok (.invokevirtual 78, 3) := by decide +kernel
theorem dX8_readLine_133 : decode cX8_readLine 133 = .ok (.goto 51, 3) := by decide +kernel
theorem dX8_readLine_136 : decode cX8_readLine 136 = .ok (.aload_n 0, 1) := by decide +kernel
theorem dX8_readLine_137 : decode cX8_readLine 137 = .ok (.getfield 9, 3) := by decide +kernel
theorem dX8_readLine_140 : decode cX8_readLine 140 = .ok (.ldc 81, 2) := by decide +kernel
theorem dX8_readLine_142 : decode cX8_readLine 142 = .ok (.invokevirtual 46, 3) := by decide +kernel
theorem dX8_readLine_145 : decode cX8_readLine 145 = .ok (.ifCond .eq 11, 3) := by decide +kernel
theorem dX8_readLine_148 : decode cX8_readLine 148 = .ok (.aload_n 0, 1) := by decide +kernel
theorem dX8_readLine_149 : decode cX8_readLine 149 = .ok (.iconst 1, 1) := by decide +kernel
theorem dX8_readLine_150 : decode cX8_readLine 150 = .ok (.invokevirtual 78, 3) := by decide +kernel
theorem dX8_readLine_153 : decode cX8_readLine 153 = .ok (.goto 31, 3) := by decide +kernel
theorem dX8_readLine_156 : decode cX8_readLine 156 = .ok (.aload_n 0, 1) := by decide +kernel
theorem dX8_readLine_157 : decode cX8_readLine 157 = .ok (.getfield 9, 3) := by decide +kernel
theorem dX8_readLine_160 : decode cX8_readLine 160 = .ok (.ldc 83, 2) := by decide +kernel
theorem dX8_readLine_162 : decode cX8_readLine 162 = .ok (.invokevirtual 46, 3) := by decide +kernel
theorem dX8_readLine_165 : decode cX8_readLine 165 = .ok (.ifCond .eq 11, 3) := by decide +kernel
theorem dX8_readLine_168 : decode cX8_readLine 168 = .ok (.aload_n 0, 1) := by decide +kernel
theorem dX8_readLine_169 : decode cX8_readLine 169 = .ok (.iconst 2, 1) := by decide +kernel
theorem dX8_readLine_170 : decode cX8_readLine 170 = .ok (.invokevirtual 78, 3) := by decide +kernel
theorem dX8_readLine_173 : decode cX8_readLine 173 = .ok (.goto 11, 3) := by decide +kernel
theorem dX8_readLine_176 : decode cX8_readLine 176 = .ok (.aload_n 0, 1) := by decide +kernel
theorem dX8_readLine_177 : decode cX8_readLine 177 = .ok (.getfield 9, 3) := by decide +kernel
theorem dX8_readLine_180 : decode cX8_readLine 180 = .ok (.iconst 1, 1) := by decide +kernel
theorem dX8_readLine_181 : decode cX8_readLine 181 = .ok (.invokevirtual 85, 3) := by decide +kernel
theorem dX8_readLine_184 : decode cX8_readLine 184 = .ok (.return_, 1) := by decide +kernel
theorem dX8_readPerson_0 : decode cX8_readPerson 0 = .ok (.aload_n 0, 1) := by decide +kernel
theorem dX8_readPerson_1 : decode cX8_readPerson 1 = .ok (.getfield 15, 3) := by decide +kernel
theorem dX8_readPerson_4 : decode cX8_readPerson 4 = .ok (.getfield 88, 3) := by decide +kernel
theorem dX8_readPerson_7 : decode cX8_readPerson 7 = .ok (.bipush 12, 2) := by decide +kernel
theorem dX8_readPerson_9 : decode cX8_readPerson 9 = .ok (.if_icmp .lt 12, 3) := by decide +kernel
theorem dX8_readPerson_12 : decode cX8_readPerson 12 = .ok (.aload_n 0, 1) := by decide +kernel
theorem dX8_readPerson_13 : decode cX8_readPerson 13 = .ok (.getfield 9, 3) := by decide +kernel
theorem dX8_readPerson_16 : decode cX8_readPerson 16 = .ok (.iconst 4, 1) := by decide +kernel
theorem dX8_readPerson_17 : decode cX8_readPerson 17 = .ok (.invokevirtual 85, 3) := by decide +kernel
theorem dX8_readPerson_20 : decode cX8_readPerson 20 = .ok (.return_, 1) := by decide +kernel
theorem dX8_readPerson_21 : decode cX8_readPerson 21 = .ok (.aload_n 0, 1) := by decide +kernel
theorem dX8_readPerson_22 : decode cX8_readPerson 22 = .ok (.getfield 9, 3) := by decide +kernel
theorem dX8_readPerson_25 : decode cX8_readPerson 25 = .ok (.invokevirtual 91, 3) := by decide +kernel
theorem dX8_readPerson_28 : decode cX8_readPerson 28 = .ok (.aload_n 0, 1) := by decide +kernel
theorem dX8_readPerson_29 : decode cX8_readPerson 29 = .ok (.getfield 9, 3) := by decide +kernel
theorem dX8_readPerson_32 : decode cX8_readPerson 32 = .ok (.invokevirtual 94, 3) := by decide +kernel
theorem dX8_readPerson_35 : decode cX8_readPerson 35 = .ok (.ifCond .ne 12, 3) := by decide +kernel
theorem dX8_readPerson_38 : decode cX8_readPerson 38 = .ok (.aload_n 0, 1) := by decide +kernel
theorem dX8_readPerson_39 : decode cX8_readPerson 39 = .ok (.getfield 9, 3) := by decide +kernel
theorem dX8_readPerson_42 : decode cX8_readPerson 42 = .ok (.iconst 1, 1) := by decide +kernel
theorem dX8_readPerson_43 : decode cX8_readPerson 43 = .ok (.invokevirtual 85, 3) := by decide +kernel
theorem dX8_readPerson_46 : decode cX8_readPerson 46 = .ok (.return_, 1) := by decide +kernel
theorem dX8_readPerson_47 : decode cX8_readPerson 47 = .ok (.aload_n 0, 1) := by decide +kernel
theorem dX8_readPerson_48 : decode cX8_readPerson 48 = .ok (.invokevirtual 98, 3) := by decide +kernel
theorem dX8_readPerson_51 : decode cX8_readPerson 51 = .ok (.iconst (-1), 1) := by decide +kernel
theorem dX8_readPerson_52 : decode cX8_readPerson 52 = .ok (.if_icmp .eq 12, 3) := by decide +kernel
theorem dX8_readPerson_55 : decode cX8_readPerson 55 = .ok (.aload_n 0, 1) := by decide +kernel
theorem dX8_readPerson_56 : decode cX8_readPerson 56 = .ok (.getfield 9, 3) := by decide +kernel
theorem dX8_readPerson_59 : decode cX8_readPerson 59 = .ok (.iconst 3, 1) := by decide +kernel
theorem dX8_readPerson_60 : decode cX8_readPerson 60 = .ok (.invokevirtual 85, 3) := by decide +kernel
theorem dX8_readPerson_63 : decode cX8_readPerson 63 = .ok (.return_, 1) := by decide +kernel
theorem dX8_readPerson_64 : decode cX8_readPerson 64 = .ok (.iconst 0, 1) := by decide +kernel
theorem dX8_readPerson_65 : decode cX8_readPerson 65 = .ok (.istore_n 1, 1) := by decide +kernel
theorem dX8_readPerson_66 : decode cX8_readPerson 66 = .ok (.iload_n 1, 1) := by decide +kernel
theorem dX8_readPerson_67 : decode cX8_readPerson 67 = .ok (.bipush 6, 2) := by decide +kernel
theorem dX8_readPerson_69 : decode cX8_readPerson 69 = .ok (.if_icmp .ge 37, 3) := by decide +kernel
theorem dX8_readPerson_72 : decode cX8_readPerson 72 = .ok (.aload_n 0, 1) := by decide +kernel
theorem dX8_readPerson_73 : decode cX8_readPerson 73 = .ok (.getfield 15, 3) := by decide +kernel
theorem dX8_readPerson_76 : decode cX8_readPerson 76 = .ok (.getfield 102, 3) := by decide +kernel
theorem dX8_readPerson_79 : decode cX8_readPerson 79 = .ok (.aload_n 0, 1) := by decide +kernel
theorem dX8_readPerson_80 : decode cX8_readPerson 80 = .ok (.getfield 15, 3) := by decide +kernel
theorem dX8_readPerson_83 : decode cX8_readPerson 83 = .ok (.getfield 88, 3) := by decide +kernel
theorem dX8_readPerson_86 : decode cX8_readPerson 86 = .ok (.bipush 6, 2) := by decide +kernel
theorem dX8_readPerson_88 : decode cX8_readPerson 88 = .ok (.imul, 1) := by decide +kernel
theorem dX8_readPerson_89 : decode cX8_readPerson 89 = .ok (.iload_n 1, 1) := by decide +kernel
theorem dX8_readPerson_90 : decode cX8_readPerson 90 = .ok (.iadd, 1) := by decide +kernel
theorem dX8_readPerson_91 : decode cX8_readPerson 91 = .ok (.aload_n 0, 1) := by decide +kernel
theorem dX8_readPerson_92 : decode cX8_readPerson 92 = .ok (.getfield 9, 3) := by decide +kernel
theorem dX8_readPerson_95 : decode cX8_readPerson 95 = .ok (.iload_n 1, 1) := by decide +kernel
theorem dX8_readPerson_96 : decode cX8_readPerson 96 = .ok (.invokevirtual 106, 3) := by decide +kernel
theorem dX8_readPerson_99 : decode cX8_readPerson 99 = .ok (.iastore, 1) := by decide +kernel
theorem dX8_readPerson_100 : decode cX8_readPerson 100 = .ok (.iinc 1 1, 3) := by decide +kernel
theorem dX8_readPerson_103 : decode cX8_readPerson 103 = .ok (.goto (-37), 3) := by decide +kernel
theorem dX8_readPerson_106 : decode cX8_readPerson 106 = .ok (.aload_n 0, 1) := by decide +kernel
theorem dX8_readPerson_107 : decode cX8_readPerson 107 = .ok (.getfield 15, 3) := by decide +kernel
theorem dX8_readPerson_110 : decode cX8_readPerson 110 = .ok (.dup, 1) := by decide +kernel
theorem dX8_readPerson_111 : decode cX8_readPerson 111 = .ok (.getfield 88, 3) := by decide +kernel
theorem dX8_readPerson_114 : decode cX8_readPerson 114 = .ok (.iconst 1, 1) := by decide +kernel
theorem dX8_readPerson_115 : decode cX8_readPerson 115 = .ok (.iadd, 1) := by decide +kernel
theorem dX8_readPerson_116 : decode cX8_readPerson 116 = .ok (.putfield 88, 3) := by decide +kernel
theorem dX8_readPerson_119 : decode cX8_readPerson 119 = .ok (.aload_n 0, 1) := by decide +kernel
theorem dX8_readPerson_120 : decode cX8_readPerson 120 = .ok (.getfield 9, 3) := by decide +kernel
theorem dX8_readPerson_123 : decode cX8_readPerson 123 = .ok (.invokevirtual 91, 3) := by decide +kernel
theorem dX8_readPerson_126 : decode cX8_readPerson 126 = .ok (.return_, 1) := by decide +kernel
theorem dX8_readLink_0 : decode cX8_readLink 0 = .ok (.aload_n 0, 1) := by decide +kernel
theorem dX8_readLink_1 : decode cX8_readLink 1 = .ok (.getfield 15, 3) := by decide +kernel
theorem dX8_readLink_4 : decode cX8_readLink 4 = .ok (.getfield 110, 3) := by decide +kernel
theorem dX8_readLink_7 : decode cX8_readLink 7 = .ok (.bipush 24, 2) := by decide +kernel
theorem dX8_readLink_9 : decode cX8_readLink 9 = .ok (.if_icmp .lt 12, 3) := by decide +kernel
theorem dX8_readLink_12 : decode cX8_readLink 12 = .ok (.aload_n 0, 1) := by decide +kernel
theorem dX8_readLink_13 : decode cX8_readLink 13 = .ok (.getfield 9, 3) := by decide +kernel
theorem dX8_readLink_16 : decode cX8_readLink 16 = .ok (.iconst 4, 1) := by decide +kernel
theorem dX8_readLink_17 : decode cX8_readLink 17 = .ok (.invokevirtual 85, 3) := by decide +kernel
theorem dX8_readLink_20 : decode cX8_readLink 20 = .ok (.return_, 1) := by decide +kernel
theorem dX8_readLink_21 : decode cX8_readLink 21 = .ok (.aload_n 0, 1) := by decide +kernel
theorem dX8_readLink_22 : decode cX8_readLink 22 = .ok (.getfield 9, 3) := by decide +kernel
theorem dX8_readLink_25 : decode cX8_readLink 25 = .ok (.invokevirtual 91, 3) := by decide +kernel
theorem dX8_readLink_28 : decode cX8_readLink 28 = .ok (.aload_n 0, 1) := by decide +kernel
theorem dX8_readLink_29 : decode cX8_readLink 29 = .ok (.iconst (-1), 1) := by decide +kernel
theorem dX8_readLink_30 : decode cX8_readLink 30 = .ok (.invokevirtual 113, 3) := by decide +kernel
theorem dX8_readLink_33 : decode cX8_readLink 33 = .ok (.istore_n 2, 1) := by decide +kernel
theorem dX8_readLink_34 : decode cX8_readLink 34 = .ok (.aload_n 0, 1) := by decide +kernel
theorem dX8_readLink_35 : decode cX8_readLink 35 = .ok (.iload_n 2, 1) := by decide +kernel
theorem dX8_readLink_36 : decode cX8_readLink 36 = .ok (.invokevirtual 113, 3) := by decide +kernel
theorem dX8_readLink_39 : decode cX8_readLink 39 = .ok (.istore_n 3, 1) := by decide +kernel
theorem dX8_readLink_40 : decode cX8_readLink 40 = .ok (.aload_n 0, 1) := by decide +kernel
theorem dX8_readLink_41 : decode cX8_readLink 41 = .ok (.iconst 0, 1) := by decide +kernel
theorem dX8_readLink_42 : decode cX8_readLink 42 = .ok (.sipush 9999, 3) := by decide +kernel
theorem dX8_readLink_45 : decode cX8_readLink 45 = .ok (.invokevirtual 116, 3) := by decide +kernel
theorem dX8_readLink_48 : decode cX8_readLink 48 = .ok (.istore 4, 2) := by decide +kernel
theorem dX8_readLink_50 : decode cX8_readLink 50 = .ok (.iload_n 1, 1) := by decide +kernel
theorem dX8_readLink_51 : decode cX8_readLink 51 = .ok (.ifCond .eq 15, 3) := by decide +kernel
theorem dX8_readLink_54 : decode cX8_readLink 54 = .ok (.aload_n 0, 1) := by decide +kernel
theorem dX8_readLink_55 : decode cX8_readLink 55 = .ok (.iload 4, 2) := by decide +kernel
theorem dX8_readLink_57 : decode cX8_readLink 57 = .ok (.sipush 9999, 3) := by decide +kernel
theorem dX8_readLink_60 : decode cX8_readLink 60 = .ok (.invokevirtual 116, 3) := by decide +kernel
theorem dX8_readLink_63 : decode cX8_readLink 63 = .ok (.goto 4, 3) := by decide +kernel
theorem dX8_readLink_66 : decode cX8_readLink 66 = .ok (.iconst (-1), 1) := by decide +kernel
theorem dX8_readLink_67 : decode cX8_readLink 67 = .ok (.istore 5, 2) := by decide +kernel
theorem dX8_readLink_69 : decode cX8_readLink 69 = .ok (.aload_n 0, 1) := by decide +kernel
theorem dX8_readLink_70 : decode cX8_readLink 70 = .ok (.getfield 9, 3) := by decide +kernel
theorem dX8_readLink_73 : decode cX8_readLink 73 = .ok (.getfield 30, 3) := by decide +kernel
theorem dX8_readLink_76 : decode cX8_readLink 76 = .ok (.ifCond .ne 23, 3) := by decide +kernel
theorem dX8_readLink_79 : decode cX8_readLink 79 = .ok (.aload_n 0, 1) := by decide +kernel
theorem dX8_readLink_80 : decode cX8_readLink 80 = .ok (.getfield 15, 3) := by decide +kernel
theorem dX8_readLink_83 : decode cX8_readLink 83 = .ok (.aload_n 0, 1) := by decide +kernel
theorem dX8_readLink_84 : decode cX8_readLink 84 = .ok (.getfield 15, 3) := by decide +kernel
theorem dX8_readLink_87 : decode cX8_readLink 87 = .ok (.getfield 110, 3) := by decide +kernel
theorem dX8_readLink_90 : decode cX8_readLink 90 = .ok (.iload_n 2, 1) := by decide +kernel
theorem dX8_readLink_91 : decode cX8_readLink 91 = .ok (.iload_n 3, 1) := by decide +kernel
theorem dX8_readLink_92 : decode cX8_readLink 92 = .ok (.iload 4, 2) := by decide +kernel
theorem dX8_readLink_94 : decode cX8_readLink 94 = .ok (.iload 5, 2) := by decide +kernel
theorem dX8_readLink_96 : decode cX8_readLink 96 = .ok (.invokevirtual 120, 3) := by decide +kernel
theorem dX8_readLink_99 : decode cX8_readLink 99 = .ok (.return_, 1) := by decide +kernel
theorem dX8_readSuit_0 : decode cX8_readSuit 0 = .ok (.aload_n 0, 1) := by decide +kernel
theorem dX8_readSuit_1 : decode cX8_readSuit 1 = .ok (.getfield 15, 3) := by decide +kernel
theorem dX8_readSuit_4 : decode cX8_readSuit 4 = .ok (.getfield 124, 3) := by decide +kernel
theorem dX8_readSuit_7 : decode cX8_readSuit 7 = .ok (.bipush 10, 2) := by decide +kernel
theorem dX8_readSuit_9 : decode cX8_readSuit 9 = .ok (.if_icmp .lt 12, 3) := by decide +kernel
theorem dX8_readSuit_12 : decode cX8_readSuit 12 = .ok (.aload_n 0, 1) := by decide +kernel
theorem dX8_readSuit_13 : decode cX8_readSuit 13 = .ok (.getfield 9, 3) := by decide +kernel
theorem dX8_readSuit_16 : decode cX8_readSuit 16 = .ok (.iconst 4, 1) := by decide +kernel
theorem dX8_readSuit_17 : decode cX8_readSuit 17 = .ok (.invokevirtual 85, 3) := by decide +kernel
theorem dX8_readSuit_20 : decode cX8_readSuit 20 = .ok (.return_, 1) := by decide +kernel
theorem dX8_readSuit_21 : decode cX8_readSuit 21 = .ok (.aload_n 0, 1) := by decide +kernel
theorem dX8_readSuit_22 : decode cX8_readSuit 22 = .ok (.getfield 9, 3) := by decide +kernel
theorem dX8_readSuit_25 : decode cX8_readSuit 25 = .ok (.invokevirtual 91, 3) := by decide +kernel
theorem dX8_readSuit_28 : decode cX8_readSuit 28 = .ok (.aload_n 0, 1) := by decide +kernel
theorem dX8_readSuit_29 : decode cX8_readSuit 29 = .ok (.getfield 15, 3) := by decide +kernel
theorem dX8_readSuit_32 : decode cX8_readSuit 32 = .ok (.getfield 127, 3) := by decide +kernel
theorem dX8_readSuit_35 : decode cX8_readSuit 35 = .ok (.aload_n 0, 1) := by decide +kernel
theorem dX8_readSuit_36 : decode cX8_readSuit 36 = .ok (.getfield 15, 3) := by decide +kernel
theorem dX8_readSuit_39 : decode cX8_readSuit 39 = .ok (.getfield 124, 3) := by decide +kernel
theorem dX8_readSuit_42 : decode cX8_readSuit 42 = .ok (.aaload, 1) := by decide +kernel
theorem dX8_readSuit_43 : decode cX8_readSuit 43 = .ok (.astore_n 1, 1) := by decide +kernel
theorem dX8_readSuit_44 : decode cX8_readSuit 44 = .ok (.aload_n 1, 1) := by decide +kernel
theorem dX8_readSuit_45 : decode cX8_readSuit 45 = .ok (.iconst (-1), 1) := by decide +kernel
theorem dX8_readSuit_46 : decode cX8_readSuit 46 = .ok (.iconst 0, 1) := by decide +kernel
theorem dX8_readSuit_47 : decode cX8_readSuit 47 = .ok (.invokevirtual 131, 3) := by decide +kernel
theorem dX8_readSuit_50 : decode cX8_readSuit 50 = .ok (.aload_n 1, 1) := by decide +kernel
theorem dX8_readSuit_51 : decode cX8_readSuit 51 = .ok (.aload_n 0, 1) := by decide +kernel
theorem dX8_readSuit_52 : decode cX8_readSuit 52 = .ok (.iconst (-1), 1) := by decide +kernel
theorem dX8_readSuit_53 : decode cX8_readSuit 53 = .ok (.invokevirtual 113, 3) := by decide +kernel
theorem dX8_readSuit_56 : decode cX8_readSuit 56 = .ok (.putfield 137, 3) := by decide +kernel
theorem dX8_readSuit_59 : decode cX8_readSuit 59 = .ok (.aload_n 1, 1) := by decide +kernel
theorem dX8_readSuit_60 : decode cX8_readSuit 60 = .ok (.aload_n 0, 1) := by decide +kernel
theorem dX8_readSuit_61 : decode cX8_readSuit 61 = .ok (.aload_n 1, 1) := by decide +kernel
theorem dX8_readSuit_62 : decode cX8_readSuit 62 = .ok (.getfield 137, 3) := by decide +kernel
theorem dX8_readSuit_65 : decode cX8_readSuit 65 = .ok (.invokevirtual 113, 3) := by decide +kernel
theorem dX8_readSuit_68 : decode cX8_readSuit 68 = .ok (.putfield 140, 3) := by decide +kernel
theorem dX8_readSuit_71 : decode cX8_readSuit 71 = .ok (.aload_n 1, 1) := by decide +kernel
theorem dX8_readSuit_72 : decode cX8_readSuit 72 = .ok (.aload_n 0, 1) := by decide +kernel
theorem dX8_readSuit_73 : decode cX8_readSuit 73 = .ok (.iconst 0, 1) := by decide +kernel
theorem dX8_readSuit_74 : decode cX8_readSuit 74 = .ok (.sipush 9999, 3) := by decide +kernel
theorem dX8_readSuit_77 : decode cX8_readSuit 77 = .ok (.invokevirtual 116, 3) := by decide +kernel
theorem dX8_readSuit_80 : decode cX8_readSuit 80 = .ok (.putfield 143, 3) := by decide +kernel
theorem dX8_readSuit_83 : decode cX8_readSuit 83 = .ok (.aload_n 1, 1) := by decide +kernel
theorem dX8_readSuit_84 : decode cX8_readSuit 84 = .ok (.aload_n 0, 1) := by decide +kernel
theorem dX8_readSuit_85 : decode cX8_readSuit 85 = .ok (.ldc 146, 2) := by decide +kernel
theorem dX8_readSuit_87 : decode cX8_readSuit 87 = .ok (.ldc 148, 2) := by decide +kernel
theorem dX8_readSuit_89 : decode cX8_readSuit 89 = .ok (.invokevirtual 149, 3) := by decide +kernel
theorem dX8_readSuit_92 : decode cX8_readSuit 92 = .ok (.putfield 153, 3) := by decide +kernel
theorem dX8_readSuit_95 : decode cX8_readSuit 95 = .ok (.aload_n 1, 1) := by decide +kernel
theorem dX8_readSuit_96 : decode cX8_readSuit 96 = .ok (.aload_n 0, 1) := by decide +kernel
theorem dX8_readSuit_97 : decode cX8_readSuit 97 = .ok (.ldc 155, 2) := by decide +kernel
theorem dX8_readSuit_99 : decode cX8_readSuit 99 = .ok (.ldc 148, 2) := by decide +kernel
theorem dX8_readSuit_101 : decode cX8_readSuit 101 = .ok (.invokevirtual 149, 3) := by decide +kernel
theorem dX8_readSuit_104 : decode cX8_readSuit 104 = .ok (.putfield 157, 3) := by decide +kernel
theorem dX8_readSuit_107 : decode cX8_readSuit 107 = .ok (.aload_n 1, 1) := by decide +kernel
theorem dX8_readSuit_108 : decode cX8_readSuit 108 = .ok (.aload_n 0, 1) := by decide +kernel
theorem dX8_readSuit_109 : decode cX8_readSuit 109 = .ok (.ldc 159, 2) := by decide +kernel
theorem dX8_readSuit_111 : decode cX8_readSuit 111 = .ok (.ldc 148, 2) := by decide +kernel
theorem dX8_readSuit_113 : decode cX8_readSuit 113 = .ok (.aload_n 1, 1) := by decide +kernel
theorem dX8_readSuit_114 : decode cX8_readSuit 114 = .ok (.getfield 157, 3) := by decide +kernel
theorem dX8_readSuit_117 : decode cX8_readSuit 117 = .ok (.iconst (-1), 1) := by decide +kernel
theorem dX8_readSuit_118 : decode cX8_readSuit 118 = .ok (.ixor, 1) := by decide +kernel
theorem dX8_readSuit_119 : decode cX8_readSuit 119 = .ok (.iand, 1) := by decide +kernel
theorem dX8_readSuit_120 : decode cX8_readSuit 120 = .ok (.invokevirtual 149, 3) := by decide +kernel
theorem dX8_readSuit_123 : decode cX8_readSuit 123 = .ok (.putfield 161, 3) := by decide +kernel
theorem dX8_readSuit_126 : decode cX8_readSuit 126 = .ok (.aload_n 0, 1) := by decide +kernel
theorem dX8_readSuit_127 : decode cX8_readSuit 127 = .ok (.getfield 9, 3) := by decide +kernel
theorem dX8_readSuit_130 : decode cX8_readSuit 130 = .ok (.getfield 30, 3) := by decide +kernel
theorem dX8_readSuit_133 : decode cX8_readSuit 133 = .ok (.ifCond .ne 16, 3) := by decide +kernel
theorem dX8_readSuit_136 : decode cX8_readSuit 136 = .ok (.aload_n 0, 1) := by decide +kernel
theorem dX8_readSuit_137 : decode cX8_readSuit 137 = .ok (.getfield 15, 3) := by decide +kernel
theorem dX8_readSuit_140 : decode cX8_readSuit 140 = .ok (.dup, 1) := by decide +kernel
theorem dX8_readSuit_141 : decode cX8_readSuit 141 = .ok (.getfield 124, 3) := by decide +kernel
theorem dX8_readSuit_144 : decode cX8_readSuit 144 = .ok (.iconst 1, 1) := by decide +kernel
theorem dX8_readSuit_145 : decode cX8_readSuit 145 = .ok (.iadd, 1) := by decide +kernel
theorem dX8_readSuit_146 : decode cX8_readSuit 146 = .ok (.putfield 124, 3) := by decide +kernel
theorem dX8_readSuit_149 : decode cX8_readSuit 149 = .ok (.return_, 1) := by decide +kernel
theorem dX8_readJudged_0 : decode cX8_readJudged 0 = .ok (.aload_n 0, 1) := by decide +kernel
theorem dX8_readJudged_1 : decode cX8_readJudged 1 = .ok (.getfield 9, 3) := by decide +kernel
theorem dX8_readJudged_4 : decode cX8_readJudged 4 = .ok (.invokevirtual 91, 3) := by decide +kernel
theorem dX8_readJudged_7 : decode cX8_readJudged 7 = .ok (.aload_n 0, 1) := by decide +kernel
theorem dX8_readJudged_8 : decode cX8_readJudged 8 = .ok (.iconst 0, 1) := by decide +kernel
theorem dX8_readJudged_9 : decode cX8_readJudged 9 = .ok (.invokevirtual 163, 3) := by decide +kernel
theorem dX8_readJudged_12 : decode cX8_readJudged 12 = .ok (.astore_n 1, 1) := by decide +kernel
theorem dX8_readJudged_13 : decode cX8_readJudged 13 = .ok (.aload_n 1, 1) := by decide +kernel
theorem dX8_readJudged_14 : decode cX8_readJudged 14 = .ok (.ifnonnull 4, 3) := by decide +kernel
theorem dX8_readJudged_17 : decode cX8_readJudged 17 = .ok (.return_, 1) := by decide +kernel
theorem dX8_readJudged_18 : decode cX8_readJudged 18 = .ok (.aload_n 0, 1) := by decide +kernel
theorem dX8_readJudged_19 : decode cX8_readJudged 19 = .ok (.aload_n 1, 1) := by decide +kernel
theorem dX8_readJudged_20 : decode cX8_readJudged 20 = .ok (.getfield 143, 3) := by decide +kernel
theorem dX8_readJudged_23 : decode cX8_readJudged 23 = .ok (.sipush 9999, 3) := by decide +kernel
theorem dX8_readJudged_26 : decode cX8_readJudged 26 = .ok (.invokevirtual 116, 3) := by decide +kernel
theorem dX8_readJudged_29 : decode cX8_readJudged 29 = .ok (.istore_n 2, 1) := by decide +kernel
theorem dX8_readJudged_30 : decode cX8_readJudged 30 = .ok (.aload_n 0, 1) := by decide +kernel
theorem dX8_readJudged_31 : decode cX8_readJudged 31 = .ok (.getfield 9, 3) := by decide +kernel
theorem dX8_readJudged_34 : decode cX8_readJudged 34 = .ok (.ldc 167, 2) := by decide +kernel
theorem dX8_readJudged_36 : decode cX8_readJudged 36 = .ok (.invokevirtual 46, 3) := by decide +kernel
theorem dX8_readJudged_39 : decode cX8_readJudged 39 = .ok (.istore_n 3, 1) := by decide +kernel
theorem dX8_readJudged_40 : decode cX8_readJudged 40 = .ok (.iload_n 3, 1) := by decide +kernel
theorem dX8_readJudged_41 : decode cX8_readJudged 41 = .ok (.ifCond .ne 23, 3) := by decide +kernel
theorem dX8_readJudged_44 : decode cX8_readJudged 44 = .ok (.aload_n 0, 1) := by decide +kernel
theorem dX8_readJudged_45 : decode cX8_readJudged 45 = .ok (.getfield 9, 3) := by decide +kernel
theorem dX8_readJudged_48 : decode cX8_readJudged 48 = .ok (.ldc 169, 2) := by decide +kernel
theorem dX8_readJudged_50 : decode cX8_readJudged 50 = .ok (.invokevirtual 46, 3) := by decide +kernel
theorem dX8_readJudged_53 : decode cX8_readJudged 53 = .ok (.ifCond .ne 11, 3) := by decide +kernel
theorem dX8_readJudged_56 : decode cX8_readJudged 56 = .ok (.aload_n 0, 1) := by decide +kernel
theorem dX8_readJudged_57 : decode cX8_readJudged 57 = .ok (.getfield 9, 3) := by decide +kernel
theorem dX8_readJudged_60 : decode cX8_readJudged 60 = .ok (.iconst 1, 1) := by decide +kernel
theorem dX8_readJudged_61 : decode cX8_readJudged 61 = .ok (.invokevirtual 85, 3) := by decide +kernel
theorem dX8_readJudged_64 : decode cX8_readJudged 64 = .ok (.aload_n 0, 1) := by decide +kernel
theorem dX8_readJudged_65 : decode cX8_readJudged 65 = .ok (.getfield 9, 3) := by decide +kernel
theorem dX8_readJudged_68 : decode cX8_readJudged 68 = .ok (.getfield 30, 3) := by decide +kernel
theorem dX8_readJudged_71 : decode cX8_readJudged 71 = .ok (.ifCond .eq 4, 3) := by decide +kernel
theorem dX8_readJudged_74 : decode cX8_readJudged 74 = .ok (.return_, 1) := by decide +kernel
theorem dX8_readJudged_75 : decode cX8_readJudged 75 = .ok (.aload_n 1, 1) := by decide +kernel
theorem dX8_readJudged_76 : decode cX8_readJudged 76 = .ok (.iload_n 2, 1) := by decide +kernel
theorem dX8_readJudged_77 : decode cX8_readJudged 77 = .ok (.iload_n 3, 1) := by decide +kernel
theorem dX8_readJudged_78 : decode cX8_readJudged 78 = .ok (.invokevirtual 131, 3) := by decide +kernel
theorem dX8_readJudged_81 : decode cX8_readJudged 81 = .ok (.aload_n 0, 1) := by decide +kernel
theorem dX8_readJudged_82 : decode cX8_readJudged 82 = .ok (.getfield 9, 3) := by decide +kernel
theorem dX8_readJudged_85 : decode cX8_readJudged 85 = .ok (.invokevirtual 91, 3) := by decide +kernel
theorem dX8_readJudged_88 : decode cX8_readJudged 88 = .ok (.aload_n 1, 1) := by decide +kernel
theorem dX8_readJudged_89 : decode cX8_readJudged 89 = .ok (.aload_n 0, 1) := by decide +kernel
theorem dX8_readJudged_90 : decode cX8_readJudged 90 = .ok (.ldc 171, 2) := by decide +kernel
theorem dX8_readJudged_92 : decode cX8_readJudged 92 = .ok (.aload_n 1, 1) := by decide +kernel
theorem dX8_readJudged_93 : decode cX8_readJudged 93 = .ok (.invokevirtual 173, 3) := by decide +kernel
theorem dX8_readJudged_96 : decode cX8_readJudged 96 = .ok (.invokevirtual 149, 3) := by decide +kernel
theorem dX8_readJudged_99 : decode cX8_readJudged 99 = .ok (.putfield 176, 3) := by decide +kernel
theorem dX8_readJudged_102 : decode cX8_readJudged 102 = .ok (.aload_n 1, 1) := by decide +kernel
theorem dX8_readJudged_103 : decode cX8_readJudged 103 = .ok (.aload_n 0, 1) := by decide +kernel
theorem dX8_readJudged_104 : decode cX8_readJudged 104 = .ok (.ldc 178, 2) := by decide +kernel
theorem dX8_readJudged_106 : decode cX8_readJudged 106 = .ok (.aload_n 1, 1) := by decide +kernel
theorem dX8_readJudged_107 : decode cX8_readJudged 107 = .ok (.invokevirtual 173, 3) := by decide +kernel
theorem dX8_readJudged_110 : decode cX8_readJudged 110 = .ok (.aload_n 1, 1) := by decide +kernel
theorem dX8_readJudged_111 : decode cX8_readJudged 111 = .ok (.getfield 176, 3) := by decide +kernel
theorem dX8_readJudged_114 : decode cX8_readJudged 114 = .ok (.iconst (-1), 1) := by decide +kernel
theorem dX8_readJudged_115 : decode cX8_readJudged 115 = .ok (.ixor, 1) := by decide +kernel
theorem dX8_readJudged_116 : decode cX8_readJudged 116 = .ok (.iand, 1) := by decide +kernel
theorem dX8_readJudged_117 : decode cX8_readJudged 117 = .ok (.invokevirtual 149, 3) := by decide +kernel
theorem dX8_readJudged_120 : decode cX8_readJudged 120 = .ok (.putfield 180, 3) := by decide +kernel
theorem dX8_readJudged_123 : decode cX8_readJudged 123 = .ok (.aload_n 1, 1) := by decide +kernel
theorem dX8_readJudged_124 : decode cX8_readJudged 124 = .ok (.aload_n 0, 1) := by decide +kernel
theorem dX8_readJudged_125 : decode cX8_readJudged 125 = .ok (.ldc 182, 2) := by decide +kernel
theorem dX8_readJudged_127 : decode cX8_readJudged 127 = .ok (.aload_n 1, 1) := by decide +kernel
theorem dX8_readJudged_128 : decode cX8_readJudged 128 = .ok (.getfield 176, 3) := by decide +kernel
theorem dX8_readJudged_131 : decode cX8_readJudged 131 = .ok (.aload_n 1, 1) := by decide +kernel
theorem dX8_readJudged_132 : decode cX8_readJudged 132 = .ok (.getfield 180, 3) := by decide +kernel
theorem dX8_readJudged_135 : decode cX8_readJudged 135 = .ok (.ior, 1) := by decide +kernel
theorem dX8_readJudged_136 : decode cX8_readJudged 136 = .ok (.invokevirtual 149, 3) := by decide +kernel
theorem dX8_readJudged_139 : decode cX8_readJudged 139 = .ok (.putfield 184, 3) := by decide +kernel
theorem dX8_readJudged_142 : decode cX8_readJudged 142 = .ok (.return_, 1) := by decide +kernel
theorem dX8_readReversed_0 : decode cX8_readReversed 0 = .ok (.aload_n 0, 1) := by decide +kernel
theorem dX8_readReversed_1 : decode cX8_readReversed 1 = .ok (.getfield 9, 3) := by decide +kernel
theorem dX8_readReversed_4 : decode cX8_readReversed 4 = .ok (.invokevirtual 91, 3) := by decide +kernel
theorem dX8_readReversed_7 : decode cX8_readReversed 7 = .ok (.aload_n 0, 1) := by decide +kernel
theorem dX8_readReversed_8 : decode cX8_readReversed 8 = .ok (.iconst 1, 1) := by decide +kernel
theorem dX8_readReversed_9 : decode cX8_readReversed 9 = .ok (.invokevirtual 163, 3) := by decide +kernel
theorem dX8_readReversed_12 : decode cX8_readReversed 12 = .ok (.astore_n 1, 1) := by decide +kernel
theorem dX8_readReversed_13 : decode cX8_readReversed 13 = .ok (.aload_n 1, 1) := by decide +kernel
theorem dX8_readReversed_14 : decode cX8_readReversed 14 = .ok (.ifnull 8, 3) := by decide +kernel
theorem dX8_readReversed_17 : decode cX8_readReversed 17 = .ok (.aload_n 1, 1) := by decide +kernel
theorem dX8_readReversed_18 : decode cX8_readReversed 18 = .ok (.iconst 1, 1) := by decide +kernel
theorem dX8_readReversed_19 : decode cX8_readReversed 19 = .ok (.putfield 186, 3) := by decide +kernel
theorem dX8_readReversed_22 : decode cX8_readReversed 22 = .ok (.return_, 1) := by decide +kernel
theorem dX8_readRule_0 : decode cX8_readRule 0 = .ok (.aload_n 0, 1) := by decide +kernel
theorem dX8_readRule_1 : decode cX8_readRule 1 = .ok (.getfield 9, 3) := by decide +kernel
theorem dX8_readRule_4 : decode cX8_readRule 4 = .ok (.invokevirtual 91, 3) := by decide +kernel
theorem dX8_readRule_7 : decode cX8_readRule 7 = .ok (.aload_n 0, 1) := by decide +kernel
theorem dX8_readRule_8 : decode cX8_readRule 8 = .ok (.iload_n 1, 1) := by decide +kernel
theorem dX8_readRule_9 : decode cX8_readRule 9 = .ok (.invokestatic 189, 3) := by decide +kernel
theorem dX8_readRule_12 : decode cX8_readRule 12 = .ok (.iload_n 1, 1) := by decide +kernel
theorem dX8_readRule_13 : decode cX8_readRule 13 = .ok (.invokestatic 192, 3) := by decide +kernel
theorem dX8_readRule_16 : decode cX8_readRule 16 = .ok (.invokevirtual 116, 3) := by decide +kernel
theorem dX8_readRule_19 : decode cX8_readRule 19 = .ok (.istore_n 2, 1) := by decide +kernel
theorem dX8_readRule_20 : decode cX8_readRule 20 = .ok (.aload_n 0, 1) := by decide +kernel
theorem dX8_readRule_21 : decode cX8_readRule 21 = .ok (.getfield 9, 3) := by decide +kernel
theorem dX8_readRule_24 : decode cX8_readRule 24 = .ok (.getfield 30, 3) := by decide +kernel
theorem dX8_readRule_27 : decode cX8_readRule 27 = .ok (.ifCond .ne 13, 3) := by decide +kernel
theorem dX8_readRule_30 : decode cX8_readRule 30 = .ok (.aload_n 0, 1) := by decide +kernel
theorem dX8_readRule_31 : decode cX8_readRule 31 = .ok (.getfield 15, 3) := by decide +kernel
theorem dX8_readRule_34 : decode cX8_readRule 34 = .ok (.getfield 195, 3) := by decide +kernel
theorem dX8_readRule_37 : decode cX8_readRule 37 = .ok (.iload_n 1, 1) := by decide +kernel
theorem dX8_readRule_38 : decode cX8_readRule 38 = .ok (.iload_n 2, 1) := by decide +kernel
theorem dX8_readRule_39 : decode cX8_readRule 39 = .ok (.iastore, 1) := by decide +kernel
theorem dX8_readRule_40 : decode cX8_readRule 40 = .ok (.return_, 1) := by decide +kernel
theorem dX8_passName_0 : decode cX8_passName 0 = .ok (.aload_n 0, 1) := by decide +kernel
theorem dX8_passName_1 : decode cX8_passName 1 = .ok (.getfield 9, 3) := by decide +kernel
theorem dX8_passName_4 : decode cX8_passName 4 = .ok (.getfield 30, 3) := by decide +kernel
theorem dX8_passName_7 : decode cX8_passName 7 = .ok (.ifCond .ne 21, 3) := by decide +kernel
theorem dX8_passName_10 : decode cX8_passName 10 = .ok (.aload_n 0, 1) := by decide +kernel
theorem dX8_passName_11 : decode cX8_passName 11 = .ok (.getfield 9, 3) := by decide +kernel
theorem dX8_passName_14 : decode cX8_passName 14 = .ok (.invokevirtual 94, 3) := by decide +kernel
theorem dX8_passName_17 : decode cX8_passName 17 = .ok (.ifCond .ne 11, 3) := by decide +kernel
theorem dX8_passName_20 : decode cX8_passName 20 = .ok (.aload_n 0, 1) := by decide +kernel
theorem dX8_passName_21 : decode cX8_passName 21 = .ok (.getfield 9, 3) := by decide +kernel
theorem dX8_passName_24 : decode cX8_passName 24 = .ok (.iconst 1, 1) := by decide +kernel
theorem dX8_passName_25 : decode cX8_passName 25 = .ok (.invokevirtual 85, 3) := by decide +kernel
theorem dX8_passName_28 : decode cX8_passName 28 = .ok (.aload_n 0, 1) := by decide +kernel
theorem dX8_passName_29 : decode cX8_passName 29 = .ok (.getfield 9, 3) := by decide +kernel
theorem dX8_passName_32 : decode cX8_passName 32 = .ok (.getfield 30, 3) := by decide +kernel
theorem dX8_passName_35 : decode cX8_passName 35 = .ok (.ifCond .eq 5, 3) := by decide +kernel
theorem dX8_passName_38 : decode cX8_passName 38 = .ok (.iconst (-1), 1) := by decide +kernel
theorem dX8_passName_39 : decode cX8_passName 39 = .ok (.ireturn, 1) := by decide +kernel
theorem dX8_passName_40 : decode cX8_passName 40 = .ok (.aload_n 0, 1) := by decide +kernel
theorem dX8_passName_41 : decode cX8_passName 41 = .ok (.invokevirtual 98, 3) := by decide +kernel
theorem dX8_passName_44 : decode cX8_passName 44 = .ok (.istore_n 2, 1) := by decide +kernel
theorem dX8_passName_45 : decode cX8_passName 45 = .ok (.iload_n 2, 1) := by decide +kernel
theorem dX8_passName_46 : decode cX8_passName 46 = .ok (.iconst (-1), 1) := by decide +kernel
theorem dX8_passName_47 : decode cX8_passName 47 = .ok (.if_icmp .eq 8, 3) := by decide +kernel
theorem dX8_passName_50 : decode cX8_passName 50 = .ok (.iload_n 2, 1) := by decide +kernel
theorem dX8_passName_51 : decode cX8_passName 51 = .ok (.iload_n 1, 1) := by decide +kernel
theorem dX8_passName_52 : decode cX8_passName 52 = .ok (.if_icmp .ne 13, 3) := by decide +kernel
theorem dX8_passName_55 : decode cX8_passName 55 = .ok (.aload_n 0, 1) := by decide +kernel
theorem dX8_passName_56 : decode cX8_passName 56 = .ok (.getfield 9, 3) := by decide +kernel
theorem dX8_passName_59 : decode cX8_passName 59 = .ok (.iconst 3, 1) := by decide +kernel
theorem dX8_passName_60 : decode cX8_passName 60 = .ok (.invokevirtual 85, 3) := by decide +kernel
theorem dX8_passName_63 : decode cX8_passName 63 = .ok (.iconst (-1), 1) := by decide +kernel
theorem dX8_passName_64 : decode cX8_passName 64 = .ok (.ireturn, 1) := by decide +kernel
theorem dX8_passName_65 : decode cX8_passName 65 = .ok (.aload_n 0, 1) := by decide +kernel
theorem dX8_passName_66 : decode cX8_passName 66 = .ok (.getfield 9, 3) := by decide +kernel
theorem dX8_passName_69 : decode cX8_passName 69 = .ok (.invokevirtual 91, 3) := by decide +kernel
theorem dX8_passName_72 : decode cX8_passName 72 = .ok (.iload_n 2, 1) := by decide +kernel
theorem dX8_passName_73 : decode cX8_passName 73 = .ok (.ireturn, 1) := by decide +kernel
theorem dX8_passNumber_0 : decode cX8_passNumber 0 = .ok (.aload_n 0, 1) := by decide +kernel
theorem dX8_passNumber_1 : decode cX8_passNumber 1 = .ok (.getfield 9, 3) := by decide +kernel
theorem dX8_passNumber_4 : decode cX8_passNumber 4 = .ok (.getfield 30, 3) := by decide +kernel
theorem dX8_passNumber_7 : decode cX8_passNumber 7 = .ok (.ifCond .ne 22, 3) := by decide +kernel
theorem dX8_passNumber_10 : decode cX8_passNumber 10 = .ok (.aload_n 0, 1) := by decide +kernel
theorem dX8_passNumber_11 : decode cX8_passNumber 11 = .ok (.getfield 9, 3) := by decide +kernel
theorem dX8_passNumber_14 : decode cX8_passNumber 14 = .ok (.getfield 34, 3) := by decide +kernel
theorem dX8_passNumber_17 : decode cX8_passNumber 17 = .ok (.iconst 3, 1) := by decide +kernel
theorem dX8_passNumber_18 : decode cX8_passNumber 18 = .ok (.if_icmp .eq 11, 3) := by decide +kernel
theorem dX8_passNumber_21 : decode cX8_passNumber 21 = .ok (.aload_n 0, 1) := by decide +kernel
theorem dX8_passNumber_22 : decode cX8_passNumber 22 = .ok (.getfield 9, 3) := by decide +kernel
theorem dX8_passNumber_25 : decode cX8_passNumber 25 = .ok (.iconst 1, 1) := by decide +kernel
theorem dX8_passNumber_26 : decode cX8_passNumber 26 = .ok (.invokevirtual 85, 3) := by decide +kernel
theorem dX8_passNumber_29 : decode cX8_passNumber 29 = .ok (.aload_n 0, 1) := by decide +kernel
theorem dX8_passNumber_30 : decode cX8_passNumber 30 = .ok (.getfield 9, 3) := by decide +kernel
theorem dX8_passNumber_33 : decode cX8_passNumber 33 = .ok (.getfield 30, 3) := by decide +kernel
theorem dX8_passNumber_36 : decode cX8_passNumber 36 = .ok (.ifCond .ne 33, 3) := by decide +kernel
theorem dX8_passNumber_39 : decode cX8_passNumber 39 = .ok (.aload_n 0, 1) := by decide +kernel
theorem dX8_passNumber_40 : decode cX8_passNumber 40 = .ok (.getfield 9, 3) := by decide +kernel
theorem dX8_passNumber_43 : decode cX8_passNumber 43 = .ok (.getfield 198, 3) := by decide +kernel
theorem dX8_passNumber_46 : decode cX8_passNumber 46 = .ok (.iload_n 1, 1) := by decide +kernel
theorem dX8_passNumber_47 : decode cX8_passNumber 47 = .ok (.if_icmp .lt 14, 3) := by decide +kernel
theorem dX8_passNumber_50 : decode cX8_passNumber 50 = .ok (.aload_n 0, 1) := by decide +kernel
theorem dX8_passNumber_51 : decode cX8_passNumber 51 = .ok (.getfield 9, 3) := by decide +kernel
theorem dX8_passNumber_54 : decode cX8_passNumber 54 = .ok (.getfield 198, 3) := by decide +kernel
theorem dX8_passNumber_57 : decode cX8_passNumber 57 = .ok (.iload_n 2, 1) := by decide +kernel
theorem dX8_passNumber_58 : decode cX8_passNumber 58 = .ok (.if_icmp .le 11, 3) := by decide +kernel
theorem dX8_passNumber_61 : decode cX8_passNumber 61 = .ok (.aload_n 0, 1) := by decide +kernel
theorem dX8_passNumber_62 : decode cX8_passNumber 62 = .ok (.getfield 9, 3) := by decide +kernel
theorem dX8_passNumber_65 : decode cX8_passNumber 65 = .ok (.iconst 2, 1) := by decide +kernel
theorem dX8_passNumber_66 : decode cX8_passNumber 66 = .ok (.invokevirtual 85, 3) := by decide +kernel
theorem dX8_passNumber_69 : decode cX8_passNumber 69 = .ok (.aload_n 0, 1) := by decide +kernel
theorem dX8_passNumber_70 : decode cX8_passNumber 70 = .ok (.getfield 9, 3) := by decide +kernel
theorem dX8_passNumber_73 : decode cX8_passNumber 73 = .ok (.getfield 30, 3) := by decide +kernel
theorem dX8_passNumber_76 : decode cX8_passNumber 76 = .ok (.ifCond .eq 5, 3) := by decide +kernel
theorem dX8_passNumber_79 : decode cX8_passNumber 79 = .ok (.iconst (-1), 1) := by decide +kernel
theorem dX8_passNumber_80 : decode cX8_passNumber 80 = .ok (.ireturn, 1) := by decide +kernel
theorem dX8_passNumber_81 : decode cX8_passNumber 81 = .ok (.aload_n 0, 1) := by decide +kernel
theorem dX8_passNumber_82 : decode cX8_passNumber 82 = .ok (.getfield 9, 3) := by decide +kernel
theorem dX8_passNumber_85 : decode cX8_passNumber 85 = .ok (.getfield 198, 3) := by decide +kernel
theorem dX8_passNumber_88 : decode cX8_passNumber 88 = .ok (.istore_n 3, 1) := by decide +kernel
theorem dX8_passNumber_89 : decode cX8_passNumber 89 = .ok (.aload_n 0, 1) := by decide +kernel
theorem dX8_passNumber_90 : decode cX8_passNumber 90 = .ok (.getfield 9, 3) := by decide +kernel
theorem dX8_passNumber_93 : decode cX8_passNumber 93 = .ok (.invokevirtual 91, 3) := by decide +kernel
theorem dX8_passNumber_96 : decode cX8_passNumber 96 = .ok (.iload_n 3, 1) := by decide +kernel
theorem dX8_passNumber_97 : decode cX8_passNumber 97 = .ok (.ireturn, 1) := by decide +kernel
theorem dX8_passSuit_0 : decode cX8_passSuit 0 = .ok (.aload_n 0, 1) := by decide +kernel
theorem dX8_passSuit_1 : decode cX8_passSuit 1 = .ok (.getfield 9, 3) := by decide +kernel
theorem dX8_passSuit_4 : decode cX8_passSuit 4 = .ok (.getfield 30, 3) := by decide +kernel
theorem dX8_passSuit_7 : decode cX8_passSuit 7 = .ok (.ifCond .ne 84, 3) := by decide +kernel
theorem dX8_passSuit_10 : decode cX8_passSuit 10 = .ok (.aload_n 0, 1) := by decide +kernel
theorem dX8_passSuit_11 : decode cX8_passSuit 11 = .ok (.getfield 9, 3) := by decide +kernel
theorem dX8_passSuit_14 : decode cX8_passSuit 14 = .ok (.getfield 34, 3) := by decide +kernel
theorem dX8_passSuit_17 : decode cX8_passSuit 17 = .ok (.iconst 3, 1) := by decide +kernel
theorem dX8_passSuit_18 : decode cX8_passSuit 18 = .ok (.if_icmp .ne 73, 3) := by decide +kernel
theorem dX8_passSuit_21 : decode cX8_passSuit 21 = .ok (.aload_n 0, 1) := by decide +kernel
theorem dX8_passSuit_22 : decode cX8_passSuit 22 = .ok (.getfield 9, 3) := by decide +kernel
theorem dX8_passSuit_25 : decode cX8_passSuit 25 = .ok (.getfield 198, 3) := by decide +kernel
theorem dX8_passSuit_28 : decode cX8_passSuit 28 = .ok (.aload_n 0, 1) := by decide +kernel
theorem dX8_passSuit_29 : decode cX8_passSuit 29 = .ok (.getfield 15, 3) := by decide +kernel
theorem dX8_passSuit_32 : decode cX8_passSuit 32 = .ok (.getfield 124, 3) := by decide +kernel
theorem dX8_passSuit_35 : decode cX8_passSuit 35 = .ok (.if_icmp .ge 56, 3) := by decide +kernel
theorem dX8_passSuit_38 : decode cX8_passSuit 38 = .ok (.aload_n 0, 1) := by decide +kernel
theorem dX8_passSuit_39 : decode cX8_passSuit 39 = .ok (.getfield 15, 3) := by decide +kernel
theorem dX8_passSuit_42 : decode cX8_passSuit 42 = .ok (.getfield 127, 3) := by decide +kernel
theorem dX8_passSuit_45 : decode cX8_passSuit 45 = .ok (.aload_n 0, 1) := by decide +kernel
theorem dX8_passSuit_46 : decode cX8_passSuit 46 = .ok (.getfield 9, 3) := by decide +kernel
theorem dX8_passSuit_49 : decode cX8_passSuit 49 = .ok (.getfield 198, 3) := by decide +kernel
theorem dX8_passSuit_52 : decode cX8_passSuit 52 = .ok (.aaload, 1) := by decide +kernel
theorem dX8_passSuit_53 : decode cX8_passSuit 53 = .ok (.astore_n 2, 1) := by decide +kernel
theorem dX8_passSuit_54 : decode cX8_passSuit 54 = .ok (.iload_n 1, 1) := by decide +kernel
theorem dX8_passSuit_55 : decode cX8_passSuit 55 = .ok (.ifCond .eq 10, 3) := by decide +kernel
theorem dX8_passSuit_58 : decode cX8_passSuit 58 = .ok (.aload_n 2, 1) := by decide +kernel
theorem dX8_passSuit_59 : decode cX8_passSuit 59 = .ok (.invokevirtual 201, 3) := by decide +kernel
theorem dX8_passSuit_62 : decode cX8_passSuit 62 = .ok (.goto 15, 3) := by decide +kernel
theorem dX8_passSuit_65 : decode cX8_passSuit 65 = .ok (.aload_n 2, 1) := by decide +kernel
theorem dX8_passSuit_66 : decode cX8_passSuit 66 = .ok (.invokevirtual 204, 3) := by decide +kernel
theorem dX8_passSuit_69 : decode cX8_passSuit 69 = .ok (.ifCond .ne 7, 3) := by decide +kernel
theorem dX8_passSuit_72 : decode cX8_passSuit 72 = .ok (.iconst 1, 1) := by decide +kernel
theorem dX8_passSuit_73 : decode cX8_passSuit 73 = .ok (.goto 4, 3) := by decide +kernel
theorem dX8_passSuit_76 : decode cX8_passSuit 76 = .ok (.iconst 0, 1) := by decide +kernel
theorem dX8_passSuit_77 : decode cX8_passSuit 77 = .ok (.istore_n 3, 1) := by decide +kernel
theorem dX8_passSuit_78 : decode cX8_passSuit 78 = .ok (.iload_n 3, 1) := by decide +kernel
theorem dX8_passSuit_79 : decode cX8_passSuit 79 = .ok (.ifCond .eq 12, 3) := by decide +kernel
theorem dX8_passSuit_82 : decode cX8_passSuit 82 = .ok (.aload_n 0, 1) := by decide +kernel
theorem dX8_passSuit_83 : decode cX8_passSuit 83 = .ok (.getfield 9, 3) := by decide +kernel
theorem dX8_passSuit_86 : decode cX8_passSuit 86 = .ok (.invokevirtual 91, 3) := by decide +kernel
theorem dX8_passSuit_89 : decode cX8_passSuit 89 = .ok (.aload_n 2, 1) := by decide +kernel
theorem dX8_passSuit_90 : decode cX8_passSuit 90 = .ok (.areturn, 1) := by decide +kernel
theorem dX8_passSuit_91 : decode cX8_passSuit 91 = .ok (.aload_n 0, 1) := by decide +kernel
theorem dX8_passSuit_92 : decode cX8_passSuit 92 = .ok (.getfield 9, 3) := by decide +kernel
theorem dX8_passSuit_95 : decode cX8_passSuit 95 = .ok (.aload_n 0, 1) := by decide +kernel
theorem dX8_passSuit_96 : decode cX8_passSuit 96 = .ok (.getfield 9, 3) := by decide +kernel
theorem dX8_passSuit_99 : decode cX8_passSuit 99 = .ok (.getfield 34, 3) := by decide +kernel
theorem dX8_passSuit_102 : decode cX8_passSuit 102 = .ok (.iconst 3, 1) := by decide +kernel
theorem dX8_passSuit_103 : decode cX8_passSuit 103 = .ok (.if_icmp .ne 7, 3) := by decide +kernel
theorem dX8_passSuit_106 : decode cX8_passSuit 106 = .ok (.iconst 2, 1) := by decide +kernel
theorem dX8_passSuit_107 : decode cX8_passSuit 107 = .ok (.goto 4, 3) := by decide +kernel
theorem dX8_passSuit_110 : decode cX8_passSuit 110 = .ok (.iconst 1, 1) := by decide +kernel
theorem dX8_passSuit_111 : decode cX8_passSuit 111 = .ok (.invokevirtual 85, 3) := by decide +kernel
theorem dX8_passSuit_114 : decode cX8_passSuit 114 = .ok (.aconst_null, 1) := by decide +kernel
theorem dX8_passSuit_115 : decode cX8_passSuit 115 = .ok (.areturn, 1) := by decide +kernel
theorem dX8_passSet_0 : decode cX8_passSet 0 = .ok (.aload_n 0, 1) := by decide +kernel
theorem dX8_passSet_1 : decode cX8_passSet 1 = .ok (.getfield 9, 3) := by decide +kernel
theorem dX8_passSet_4 : decode cX8_passSet 4 = .ok (.getfield 30, 3) := by decide +kernel
theorem dX8_passSet_7 : decode cX8_passSet 7 = .ok (.ifCond .ne 14, 3) := by decide +kernel
theorem dX8_passSet_10 : decode cX8_passSet 10 = .ok (.aload_n 0, 1) := by decide +kernel
theorem dX8_passSet_11 : decode cX8_passSet 11 = .ok (.getfield 9, 3) := by decide +kernel
theorem dX8_passSet_14 : decode cX8_passSet 14 = .ok (.aload_n 1, 1) := by decide +kernel
theorem dX8_passSet_15 : decode cX8_passSet 15 = .ok (.invokevirtual 46, 3) := by decide +kernel
theorem dX8_passSet_18 : decode cX8_passSet 18 = .ok (.ifCond .ne 5, 3) := by decide +kernel
theorem dX8_passSet_21 : decode cX8_passSet 21 = .ok (.iconst 0, 1) := by decide +kernel
theorem dX8_passSet_22 : decode cX8_passSet 22 = .ok (.ireturn, 1) := by decide +kernel
theorem dX8_passSet_23 : decode cX8_passSet 23 = .ok (.aload_n 0, 1) := by decide +kernel
theorem dX8_passSet_24 : decode cX8_passSet 24 = .ok (.getfield 9, 3) := by decide +kernel
theorem dX8_passSet_27 : decode cX8_passSet 27 = .ok (.invokevirtual 91, 3) := by decide +kernel
theorem dX8_passSet_30 : decode cX8_passSet 30 = .ok (.iconst 0, 1) := by decide +kernel
theorem dX8_passSet_31 : decode cX8_passSet 31 = .ok (.istore_n 3, 1) := by decide +kernel
theorem dX8_passSet_32 : decode cX8_passSet 32 = .ok (.sipush 600, 3) := by decide +kernel
theorem dX8_passSet_35 : decode cX8_passSet 35 = .ok (.istore 4, 2) := by decide +kernel
theorem dX8_passSet_37 : decode cX8_passSet 37 = .ok (.iload 4, 2) := by decide +kernel
theorem dX8_passSet_39 : decode cX8_passSet 39 = .ok (.ifCond .le 73, 3) := by decide +kernel
theorem dX8_passSet_42 : decode cX8_passSet 42 = .ok (.aload_n 0, 1) := by decide +kernel
theorem dX8_passSet_43 : decode cX8_passSet 43 = .ok (.getfield 9, 3) := by decide +kernel
theorem dX8_passSet_46 : decode cX8_passSet 46 = .ok (.getfield 34, 3) := by decide +kernel
theorem dX8_passSet_49 : decode cX8_passSet 49 = .ok (.iconst 3, 1) := by decide +kernel
theorem dX8_passSet_50 : decode cX8_passSet 50 = .ok (.if_icmp .ne 62, 3) := by decide +kernel
theorem dX8_passSet_53 : decode cX8_passSet 53 = .ok (.aload_n 0, 1) := by decide +kernel
theorem dX8_passSet_54 : decode cX8_passSet 54 = .ok (.getfield 9, 3) := by decide +kernel
theorem dX8_passSet_57 : decode cX8_passSet 57 = .ok (.getfield 198, 3) := by decide +kernel
theorem dX8_passSet_60 : decode cX8_passSet 60 = .ok (.istore 5, 2) := by decide +kernel
theorem dX8_passSet_62 : decode cX8_passSet 62 = .ok (.iload 5, 2) := by decide +kernel
theorem dX8_passSet_64 : decode cX8_passSet 64 = .ok (.bipush 31, 2) := by decide +kernel
theorem dX8_passSet_66 : decode cX8_passSet 66 = .ok (.if_icmp .ge 16, 3) := by decide +kernel
theorem dX8_passSet_69 : decode cX8_passSet 69 = .ok (.iload_n 2, 1) := by decide +kernel
theorem dX8_passSet_70 : decode cX8_passSet 70 = .ok (.iload_n 3, 1) := by decide +kernel
theorem dX8_passSet_71 : decode cX8_passSet 71 = .ok (.iconst (-1), 1) := by decide +kernel
theorem dX8_passSet_72 : decode cX8_passSet 72 = .ok (.ixor, 1) := by decide +kernel
theorem dX8_passSet_73 : decode cX8_passSet 73 = .ok (.iand, 1) := by decide +kernel
theorem dX8_passSet_74 : decode cX8_passSet 74 = .ok (.iload 5, 2) := by decide +kernel
theorem dX8_passSet_76 : decode cX8_passSet 76 = .ok (.ishr, 1) := by decide +kernel
theorem dX8_passSet_77 : decode cX8_passSet 77 = .ok (.iconst 1, 1) := by decide +kernel
theorem dX8_passSet_78 : decode cX8_passSet 78 = .ok (.iand, 1) := by decide +kernel
theorem dX8_passSet_79 : decode cX8_passSet 79 = .ok (.ifCond .ne 13, 3) := by decide +kernel
theorem dX8_passSet_82 : decode cX8_passSet 82 = .ok (.aload_n 0, 1) := by decide +kernel
theorem dX8_passSet_83 : decode cX8_passSet 83 = .ok (.getfield 9, 3) := by decide +kernel
theorem dX8_passSet_86 : decode cX8_passSet 86 = .ok (.iconst 2, 1) := by decide +kernel
theorem dX8_passSet_87 : decode cX8_passSet 87 = .ok (.invokevirtual 85, 3) := by decide +kernel
theorem dX8_passSet_90 : decode cX8_passSet 90 = .ok (.iconst 0, 1) := by decide +kernel
theorem dX8_passSet_91 : decode cX8_passSet 91 = .ok (.ireturn, 1) := by decide +kernel
theorem dX8_passSet_92 : decode cX8_passSet 92 = .ok (.iload_n 3, 1) := by decide +kernel
theorem dX8_passSet_93 : decode cX8_passSet 93 = .ok (.iconst 1, 1) := by decide +kernel
theorem dX8_passSet_94 : decode cX8_passSet 94 = .ok (.iload 5, 2) := by decide +kernel
theorem dX8_passSet_96 : decode cX8_passSet 96 = .ok (.ishl, 1) := by decide +kernel
theorem dX8_passSet_97 : decode cX8_passSet 97 = .ok (.ior, 1) := by decide +kernel
theorem dX8_passSet_98 : decode cX8_passSet 98 = .ok (.istore_n 3, 1) := by decide +kernel
theorem dX8_passSet_99 : decode cX8_passSet 99 = .ok (.aload_n 0, 1) := by decide +kernel
theorem dX8_passSet_100 : decode cX8_passSet 100 = .ok (.getfield 9, 3) := by decide +kernel
theorem dX8_passSet_103 : decode cX8_passSet 103 = .ok (.invokevirtual 91, 3) := by decide +kernel
theorem dX8_passSet_106 : decode cX8_passSet 106 = .ok (.iinc 4 (-1), 3) := by decide +kernel
theorem dX8_passSet_109 : decode cX8_passSet 109 = .ok (.goto (-72), 3) := by decide +kernel
theorem dX8_passSet_112 : decode cX8_passSet 112 = .ok (.iload_n 3, 1) := by decide +kernel
theorem dX8_passSet_113 : decode cX8_passSet 113 = .ok (.ireturn, 1) := by decide +kernel
theorem dX8_personNamed_0 : decode cX8_personNamed 0 = .ok (.iconst 0, 1) := by decide +kernel
theorem dX8_personNamed_1 : decode cX8_personNamed 1 = .ok (.istore_n 1, 1) := by decide +kernel
theorem dX8_personNamed_2 : decode cX8_personNamed 2 = .ok (.iload_n 1, 1) := by decide +kernel
theorem dX8_personNamed_3 : decode cX8_personNamed 3 = .ok (.aload_n 0, 1) := by decide +kernel
theorem dX8_personNamed_4 : decode cX8_personNamed 4 = .ok (.getfield 15, 3) := by decide +kernel
theorem dX8_personNamed_7 : decode cX8_personNamed 7 = .ok (.getfield 88, 3) := by decide +kernel
theorem dX8_personNamed_10 : decode cX8_personNamed 10 = .ok (.if_icmp .ge 66, 3) := by decide +kernel
theorem dX8_personNamed_13 : decode cX8_personNamed 13 = .ok (.iconst 1, 1) := by decide +kernel
theorem dX8_personNamed_14 : decode cX8_personNamed 14 = .ok (.istore_n 2, 1) := by decide +kernel
theorem dX8_personNamed_15 : decode cX8_personNamed 15 = .ok (.iconst 0, 1) := by decide +kernel
theorem dX8_personNamed_16 : decode cX8_personNamed 16 = .ok (.istore_n 3, 1) := by decide +kernel
theorem dX8_personNamed_17 : decode cX8_personNamed 17 = .ok (.iload_n 3, 1) := by decide +kernel
theorem dX8_personNamed_18 : decode cX8_personNamed 18 = .ok (.bipush 6, 2) := by decide +kernel
theorem dX8_personNamed_20 : decode cX8_personNamed 20 = .ok (.if_icmp .ge 44, 3) := by decide +kernel
theorem dX8_personNamed_23 : decode cX8_personNamed 23 = .ok (.iload_n 2, 1) := by decide +kernel
theorem dX8_personNamed_24 : decode cX8_personNamed 24 = .ok (.ifCond .eq 40, 3) := by decide +kernel
theorem dX8_personNamed_27 : decode cX8_personNamed 27 = .ok (.aload_n 0, 1) := by decide +kernel
theorem dX8_personNamed_28 : decode cX8_personNamed 28 = .ok (.getfield 15, 3) := by decide +kernel
theorem dX8_personNamed_31 : decode cX8_personNamed 31 = .ok (.getfield 102, 3) := by decide +kernel
theorem dX8_personNamed_34 : decode cX8_personNamed 34 = .ok (.iload_n 1, 1) := by decide +kernel
theorem dX8_personNamed_35 : decode cX8_personNamed 35 = .ok (.bipush 6, 2) := by decide +kernel
theorem dX8_personNamed_37 : decode cX8_personNamed 37 = .ok (.imul, 1) := by decide +kernel
theorem dX8_personNamed_38 : decode cX8_personNamed 38 = .ok (.iload_n 3, 1) := by decide +kernel
theorem dX8_personNamed_39 : decode cX8_personNamed 39 = .ok (.iadd, 1) := by decide +kernel
theorem dX8_personNamed_40 : decode cX8_personNamed 40 = .ok (.iaload, 1) := by decide +kernel
theorem dX8_personNamed_41 : decode cX8_personNamed 41 = .ok (.aload_n 0, 1) := by decide +kernel
theorem dX8_personNamed_42 : decode cX8_personNamed 42 = .ok (.getfield 9, 3) := by decide +kernel
theorem dX8_personNamed_45 : decode cX8_personNamed 45 = .ok (.iload_n 3, 1) := by decide +kernel
theorem dX8_personNamed_46 : decode cX8_personNamed 46 = .ok (.invokevirtual 106, 3) := by decide +kernel
theorem dX8_personNamed_49 : decode cX8_personNamed 49 = .ok (.if_icmp .ne 7, 3) := by decide +kernel
theorem dX8_personNamed_52 : decode cX8_personNamed 52 = .ok (.iconst 1, 1) := by decide +kernel
theorem dX8_personNamed_53 : decode cX8_personNamed 53 = .ok (.goto 4, 3) := by decide +kernel
theorem dX8_personNamed_56 : decode cX8_personNamed 56 = .ok (.iconst 0, 1) := by decide +kernel
theorem dX8_personNamed_57 : decode cX8_personNamed 57 = .ok (.istore_n 2, 1) := by decide +kernel
theorem dX8_personNamed_58 : decode cX8_personNamed 58 = .ok (.iinc 3 1, 3) := by decide +kernel
theorem dX8_personNamed_61 : decode cX8_personNamed 61 = .ok (.goto (-44), 3) := by decide +kernel
theorem dX8_personNamed_64 : decode cX8_personNamed 64 = .ok (.iload_n 2, 1) := by decide +kernel
theorem dX8_personNamed_65 : decode cX8_personNamed 65 = .ok (.ifCond .eq 5, 3) := by decide +kernel
theorem dX8_personNamed_68 : decode cX8_personNamed 68 = .ok (.iload_n 1, 1) := by decide +kernel
theorem dX8_personNamed_69 : decode cX8_personNamed 69 = .ok (.ireturn, 1) := by decide +kernel
theorem dX8_personNamed_70 : decode cX8_personNamed 70 = .ok (.iinc 1 1, 3) := by decide +kernel
theorem dX8_personNamed_73 : decode cX8_personNamed 73 = .ok (.goto (-71), 3) := by decide +kernel
theorem dX8_personNamed_76 : decode cX8_personNamed 76 = .ok (.iconst (-1), 1) := by decide +kernel
theorem dX8_personNamed_77 : decode cX8_personNamed 77 = .ok (.ireturn, 1) := by decide +kernel
theorem dX9_init_0 : decode cX9_init 0 = .ok (.aload_n 0, 1) := by decide +kernel
theorem dX9_init_1 : decode cX9_init 1 = .ok (.invokespecial 3, 3) := by decide +kernel
theorem dX9_init_4 : decode cX9_init 4 = .ok (.aload_n 0, 1) := by decide +kernel
theorem dX9_init_5 : decode cX9_init 5 = .ok (.new 9, 3) := by decide +kernel
theorem dX9_init_8 : decode cX9_init 8 = .ok (.dup, 1) := by decide +kernel
theorem dX9_init_9 : decode cX9_init 9 = .ok (.invokespecial 11, 3) := by decide +kernel
theorem dX9_init_12 : decode cX9_init 12 = .ok (.putfield 12, 3) := by decide +kernel
theorem dX9_init_15 : decode cX9_init 15 = .ok (.aload_n 0, 1) := by decide +kernel
theorem dX9_init_16 : decode cX9_init 16 = .ok (.new 18, 3) := by decide +kernel
theorem dX9_init_19 : decode cX9_init 19 = .ok (.dup, 1) := by decide +kernel
theorem dX9_init_20 : decode cX9_init 20 = .ok (.invokespecial 20, 3) := by decide +kernel
theorem dX9_init_23 : decode cX9_init 23 = .ok (.putfield 21, 3) := by decide +kernel
theorem dX9_init_26 : decode cX9_init 26 = .ok (.aload_n 0, 1) := by decide +kernel
theorem dX9_init_27 : decode cX9_init 27 = .ok (.new 18, 3) := by decide +kernel
theorem dX9_init_30 : decode cX9_init 30 = .ok (.dup, 1) := by decide +kernel
theorem dX9_init_31 : decode cX9_init 31 = .ok (.invokespecial 20, 3) := by decide +kernel
theorem dX9_init_34 : decode cX9_init 34 = .ok (.putfield 25, 3) := by decide +kernel
theorem dX9_init_37 : decode cX9_init 37 = .ok (.aload_n 0, 1) := by decide +kernel
theorem dX9_init_38 : decode cX9_init 38 = .ok (.new 18, 3) := by decide +kernel
theorem dX9_init_41 : decode cX9_init 41 = .ok (.dup, 1) := by decide +kernel
theorem dX9_init_42 : decode cX9_init 42 = .ok (.invokespecial 20, 3) := by decide +kernel
theorem dX9_init_45 : decode cX9_init 45 = .ok (.putfield 28, 3) := by decide +kernel
theorem dX9_init_48 : decode cX9_init 48 = .ok (.aload_n 0, 1) := by decide +kernel
theorem dX9_init_49 : decode cX9_init 49 = .ok (.new 31, 3) := by decide +kernel
theorem dX9_init_52 : decode cX9_init 52 = .ok (.dup, 1) := by decide +kernel
theorem dX9_init_53 : decode cX9_init 53 = .ok (.aload_n 0, 1) := by decide +kernel
theorem dX9_init_54 : decode cX9_init 54 = .ok (.getfield 12, 3) := by decide +kernel
theorem dX9_init_57 : decode cX9_init 57 = .ok (.aload_n 0, 1) := by decide +kernel
theorem dX9_init_58 : decode cX9_init 58 = .ok (.getfield 25, 3) := by decide +kernel
theorem dX9_init_61 : decode cX9_init 61 = .ok (.invokespecial 33, 3) := by decide +kernel
theorem dX9_init_64 : decode cX9_init 64 = .ok (.putfield 36, 3) := by decide +kernel
theorem dX9_init_67 : decode cX9_init 67 = .ok (.aload_n 0, 1) := by decide +kernel
theorem dX9_init_68 : decode cX9_init 68 = .ok (.new 40, 3) := by decide +kernel
theorem dX9_init_71 : decode cX9_init 71 = .ok (.dup, 1) := by decide +kernel
theorem dX9_init_72 : decode cX9_init 72 = .ok (.aload_n 0, 1) := by decide +kernel
theorem dX9_init_73 : decode cX9_init 73 = .ok (.getfield 21, 3) := by decide +kernel
theorem dX9_init_76 : decode cX9_init 76 = .ok (.invokespecial 42, 3) := by decide +kernel
theorem dX9_init_79 : decode cX9_init 79 = .ok (.putfield 45, 3) := by decide +kernel
theorem dX9_init_82 : decode cX9_init 82 = .ok (.aload_n 0, 1) := by decide +kernel
theorem dX9_init_83 : decode cX9_init 83 = .ok (.new 49, 3) := by decide +kernel
theorem dX9_init_86 : decode cX9_init 86 = .ok (.dup, 1) := by decide +kernel
theorem dX9_init_87 : decode cX9_init 87 = .ok (.aload_n 0, 1) := by decide +kernel
theorem dX9_init_88 : decode cX9_init 88 = .ok (.getfield 12, 3) := by decide +kernel
theorem dX9_init_91 : decode cX9_init 91 = .ok (.invokespecial 51, 3) := by decide +kernel
theorem dX9_init_94 : decode cX9_init 94 = .ok (.putfield 54, 3) := by decide +kernel
theorem dX9_init_97 : decode cX9_init 97 = .ok (.aload_n 0, 1) := by decide +kernel
theorem dX9_init_98 : decode cX9_init 98 = .ok (.new 58, 3) := by decide +kernel
theorem dX9_init_101 : decode cX9_init 101 = .ok (.dup, 1) := by decide +kernel
theorem dX9_init_102 : decode cX9_init 102 = .ok (.invokespecial 60, 3) := by decide +kernel
theorem dX9_init_105 : decode cX9_init 105 = .ok (.putfield 61, 3) := by decide +kernel
theorem dX9_init_108 : decode cX9_init 108 = .ok (.aload_n 0, 1) := by decide +kernel
theorem dX9_init_109 : decode cX9_init 109 = .ok (.new 65, 3) := by decide +kernel
theorem dX9_init_112 : decode cX9_init 112 = .ok (.dup, 1) := by decide +kernel
theorem dX9_init_113 : decode cX9_init 113 = .ok (.invokespecial 67, 3) := by decide +kernel
theorem dX9_init_116 : decode cX9_init 116 = .ok (.putfield 68, 3) := by decide +kernel
theorem dX9_init_119 : decode cX9_init 119 = .ok (.aload_n 0, 1) := by decide +kernel
theorem dX9_init_120 : decode cX9_init 120 = .ok (.new 72, 3) := by decide +kernel
theorem dX9_init_123 : decode cX9_init 123 = .ok (.dup, 1) := by decide +kernel
theorem dX9_init_124 : decode cX9_init 124 = .ok (.iconst (-1), 1) := by decide +kernel
theorem dX9_init_125 : decode cX9_init 125 = .ok (.invokespecial 74, 3) := by decide +kernel
theorem dX9_init_128 : decode cX9_init 128 = .ok (.putfield 77, 3) := by decide +kernel
theorem dX9_init_131 : decode cX9_init 131 = .ok (.aload_n 0, 1) := by decide +kernel
theorem dX9_init_132 : decode cX9_init 132 = .ok (.iconst 0, 1) := by decide +kernel
theorem dX9_init_133 : decode cX9_init 133 = .ok (.putfield 81, 3) := by decide +kernel
theorem dX9_init_136 : decode cX9_init 136 = .ok (.return_, 1) := by decide +kernel
theorem dX9_feed_0 : decode cX9_feed 0 = .ok (.aload_n 0, 1) := by decide +kernel
theorem dX9_feed_1 : decode cX9_feed 1 = .ok (.getfield 12, 3) := by decide +kernel
theorem dX9_feed_4 : decode cX9_feed 4 = .ok (.getfield 85, 3) := by decide +kernel
theorem dX9_feed_7 : decode cX9_feed 7 = .ok (.sipush 580, 3) := by decide +kernel
theorem dX9_feed_10 : decode cX9_feed 10 = .ok (.if_icmp .le 5, 3) := by decide +kernel
theorem dX9_feed_13 : decode cX9_feed 13 = .ok (.iconst (-1), 1) := by decide +kernel
theorem dX9_feed_14 : decode cX9_feed 14 = .ok (.ireturn, 1) := by decide +kernel
theorem dX9_feed_15 : decode cX9_feed 15 = .ok (.aload_n 0, 1) := by decide +kernel
theorem dX9_feed_16 : decode cX9_feed 16 = .ok (.getfield 12, 3) := by decide +kernel
theorem dX9_feed_19 : decode cX9_feed 19 = .ok (.iload_n 1, 1) := by decide +kernel
theorem dX9_feed_20 : decode cX9_feed 20 = .ok (.invokevirtual 89, 3) := by decide +kernel
theorem dX9_feed_23 : decode cX9_feed 23 = .ok (.aload_n 0, 1) := by decide +kernel
theorem dX9_feed_24 : decode cX9_feed 24 = .ok (.getfield 12, 3) := by decide +kernel
theorem dX9_feed_27 : decode cX9_feed 27 = .ok (.iload_n 2, 1) := by decide +kernel
theorem dX9_feed_28 : decode cX9_feed 28 = .ok (.invokevirtual 89, 3) := by decide +kernel
theorem dX9_feed_31 : decode cX9_feed 31 = .ok (.aload_n 0, 1) := by decide +kernel
theorem dX9_feed_32 : decode cX9_feed 32 = .ok (.getfield 12, 3) := by decide +kernel
theorem dX9_feed_35 : decode cX9_feed 35 = .ok (.iload_n 3, 1) := by decide +kernel
theorem dX9_feed_36 : decode cX9_feed 36 = .ok (.invokevirtual 89, 3) := by decide +kernel
theorem dX9_feed_39 : decode cX9_feed 39 = .ok (.aload_n 0, 1) := by decide +kernel
theorem dX9_feed_40 : decode cX9_feed 40 = .ok (.getfield 12, 3) := by decide +kernel
theorem dX9_feed_43 : decode cX9_feed 43 = .ok (.iload 4, 2) := by decide +kernel
theorem dX9_feed_45 : decode cX9_feed 45 = .ok (.invokevirtual 89, 3) := by decide +kernel
theorem dX9_feed_48 : decode cX9_feed 48 = .ok (.aload_n 0, 1) := by decide +kernel
theorem dX9_feed_49 : decode cX9_feed 49 = .ok (.getfield 12, 3) := by decide +kernel
theorem dX9_feed_52 : decode cX9_feed 52 = .ok (.iload 5, 2) := by decide +kernel
theorem dX9_feed_54 : decode cX9_feed 54 = .ok (.invokevirtual 89, 3) := by decide +kernel
theorem dX9_feed_57 : decode cX9_feed 57 = .ok (.aload_n 0, 1) := by decide +kernel
theorem dX9_feed_58 : decode cX9_feed 58 = .ok (.getfield 12, 3) := by decide +kernel
theorem dX9_feed_61 : decode cX9_feed 61 = .ok (.getfield 85, 3) := by decide +kernel
theorem dX9_feed_64 : decode cX9_feed 64 = .ok (.ireturn, 1) := by decide +kernel
theorem dX9_desk_0 : decode cX9_desk 0 = .ok (.iload_n 1, 1) := by decide +kernel
theorem dX9_desk_1 : decode cX9_desk 1 = .ok (.ifCond .lt 14, 3) := by decide +kernel
theorem dX9_desk_4 : decode cX9_desk 4 = .ok (.iload_n 1, 1) := by decide +kernel
theorem dX9_desk_5 : decode cX9_desk 5 = .ok (.aload_n 0, 1) := by decide +kernel
theorem dX9_desk_6 : decode cX9_desk 6 = .ok (.getfield 12, 3) := by decide +kernel
theorem dX9_desk_9 : decode cX9_desk 9 = .ok (.getfield 85, 3) := by decide +kernel
theorem dX9_desk_12 : decode cX9_desk 12 = .ok (.if_icmp .le 13, 3) := by decide +kernel
theorem dX9_desk_15 : decode cX9_desk 15 = .ok (.new 92, 3) := by decide +kernel
theorem dX9_desk_18 : decode cX9_desk 18 = .ok (.dup, 1) := by decide +kernel
theorem dX9_desk_19 : decode cX9_desk 19 = .ok (.ldc 94, 2) := by decide +kernel
theorem dX9_desk_21 : decode cX9_desk 21 = .ok (.invokespecial 96, 3) := by decide +kernel
theorem dX9_desk_24 : decode cX9_desk 24 = .ok (.athrow, 1) := by decide +kernel
theorem dX9_desk_25 : decode cX9_desk 25 = .ok (.aload_n 0, 1) := by decide +kernel
theorem dX9_desk_26 : decode cX9_desk 26 = .ok (.getfield 36, 3) := by decide +kernel
theorem dX9_desk_29 : decode cX9_desk 29 = .ok (.iload_n 1, 1) := by decide +kernel
theorem dX9_desk_30 : decode cX9_desk 30 = .ok (.invokevirtual 99, 3) := by decide +kernel
theorem dX9_desk_33 : decode cX9_desk 33 = .ok (.aload_n 0, 1) := by decide +kernel
theorem dX9_desk_34 : decode cX9_desk 34 = .ok (.getfield 12, 3) := by decide +kernel
theorem dX9_desk_37 : decode cX9_desk 37 = .ok (.getfield 102, 3) := by decide +kernel
theorem dX9_desk_40 : decode cX9_desk 40 = .ok (.ifCond .eq 14, 3) := by decide +kernel
theorem dX9_desk_43 : decode cX9_desk 43 = .ok (.bipush (-10), 2) := by decide +kernel
theorem dX9_desk_45 : decode cX9_desk 45 = .ok (.aload_n 0, 1) := by decide +kernel
theorem dX9_desk_46 : decode cX9_desk 46 = .ok (.getfield 12, 3) := by decide +kernel
theorem dX9_desk_49 : decode cX9_desk 49 = .ok (.getfield 102, 3) := by decide +kernel
theorem dX9_desk_52 : decode cX9_desk 52 = .ok (.isub, 1) := by decide +kernel
theorem dX9_desk_53 : decode cX9_desk 53 = .ok (.ireturn, 1) := by decide +kernel
theorem dX9_desk_54 : decode cX9_desk 54 = .ok (.aload_n 0, 1) := by decide +kernel
theorem dX9_desk_55 : decode cX9_desk 55 = .ok (.aload_n 0, 1) := by decide +kernel
theorem dX9_desk_56 : decode cX9_desk 56 = .ok (.getfield 25, 3) := by decide +kernel
theorem dX9_desk_59 : decode cX9_desk 59 = .ok (.invokevirtual 105, 3) := by decide +kernel
theorem dX9_desk_62 : decode cX9_desk 62 = .ok (.aload_n 0, 1) := by decide +kernel
theorem dX9_desk_63 : decode cX9_desk 63 = .ok (.getfield 21, 3) := by decide +kernel
theorem dX9_desk_66 : decode cX9_desk 66 = .ok (.getfield 108, 3) := by decide +kernel
theorem dX9_desk_69 : decode cX9_desk 69 = .ok (.ireturn, 1) := by decide +kernel
theorem dX9_fault_0 : decode cX9_fault 0 = .ok (.aload_n 0, 1) := by decide +kernel
theorem dX9_fault_1 : decode cX9_fault 1 = .ok (.getfield 12, 3) := by decide +kernel
theorem dX9_fault_4 : decode cX9_fault 4 = .ok (.getfield 111, 3) := by decide +kernel
theorem dX9_fault_7 : decode cX9_fault 7 = .ok (.ireturn, 1) := by decide +kernel
theorem dX9_count_0 : decode cX9_count 0 = .ok (.iload_n 1, 1) := by decide +kernel
theorem dX9_count_1 : decode cX9_count 1 = .ok (.tableswitch 153 0 10 #[59, 67, 75, 83, 91, 99, 109, 119, 129, 137, 145], 59) := by decide +kernel
theorem dX9_count_60 : decode cX9_count 60 = .ok (.aload_n 0, 1) := by decide +kernel
theorem dX9_count_61 : decode cX9_count 61 = .ok (.getfield 21, 3) := by decide +kernel
theorem dX9_count_64 : decode cX9_count 64 = .ok (.getfield 114, 3) := by decide +kernel
theorem dX9_count_67 : decode cX9_count 67 = .ok (.ireturn, 1) := by decide +kernel
theorem dX9_count_68 : decode cX9_count 68 = .ok (.aload_n 0, 1) := by decide +kernel
theorem dX9_count_69 : decode cX9_count 69 = .ok (.getfield 21, 3) := by decide +kernel
theorem dX9_count_72 : decode cX9_count 72 = .ok (.getfield 117, 3) := by decide +kernel
theorem dX9_count_75 : decode cX9_count 75 = .ok (.ireturn, 1) := by decide +kernel
theorem dX9_count_76 : decode cX9_count 76 = .ok (.aload_n 0, 1) := by decide +kernel
theorem dX9_count_77 : decode cX9_count 77 = .ok (.getfield 21, 3) := by decide +kernel
theorem dX9_count_80 : decode cX9_count 80 = .ok (.getfield 108, 3) := by decide +kernel
theorem dX9_count_83 : decode cX9_count 83 = .ok (.ireturn, 1) := by decide +kernel
theorem dX9_count_84 : decode cX9_count 84 = .ok (.aload_n 0, 1) := by decide +kernel
theorem dX9_count_85 : decode cX9_count 85 = .ok (.getfield 21, 3) := by decide +kernel
theorem dX9_count_88 : decode cX9_count 88 = .ok (.invokevirtual 120, 3) := by decide +kernel
theorem dX9_count_91 : decode cX9_count 91 = .ok (.ireturn, 1) := by decide +kernel
theorem dX9_count_92 : decode cX9_count 92 = .ok (.aload_n 0, 1) := by decide +kernel
theorem dX9_count_93 : decode cX9_count 93 = .ok (.getfield 21, 3) := by decide +kernel
theorem dX9_count_96 : decode cX9_count 96 = .ok (.invokevirtual 124, 3) := by decide +kernel
theorem dX9_count_99 : decode cX9_count 99 = .ok (.ireturn, 1) := by decide +kernel
theorem dX9_count_100 : decode cX9_count 100 = .ok (.aload_n 0, 1) := by decide +kernel
theorem dX9_count_101 : decode cX9_count 101 = .ok (.getfield 21, 3) := by decide +kernel
theorem dX9_count_104 : decode cX9_count 104 = .ok (.getfield 127, 3) := by decide +kernel
theorem dX9_count_107 : decode cX9_count 107 = .ok (.iconst 0, 1) := by decide +kernel
theorem dX9_count_108 : decode cX9_count 108 = .ok (.iaload, 1) := by decide +kernel
theorem dX9_count_109 : decode cX9_count 109 = .ok (.ireturn, 1) := by decide +kernel
theorem dX9_count_110 : decode cX9_count 110 = .ok (.aload_n 0, 1) := by decide +kernel
theorem dX9_count_111 : decode cX9_count 111 = .ok (.getfield 21, 3) := by decide +kernel
theorem dX9_count_114 : decode cX9_count 114 = .ok (.getfield 127, 3) := by decide +kernel
theorem dX9_count_117 : decode cX9_count 117 = .ok (.iconst 1, 1) := by decide +kernel
theorem dX9_count_118 : decode cX9_count 118 = .ok (.iaload, 1) := by decide +kernel
theorem dX9_count_119 : decode cX9_count 119 = .ok (.ireturn, 1) := by decide +kernel
theorem dX9_count_120 : decode cX9_count 120 = .ok (.aload_n 0, 1) := by decide +kernel
theorem dX9_count_121 : decode cX9_count 121 = .ok (.getfield 21, 3) := by decide +kernel
theorem dX9_count_124 : decode cX9_count 124 = .ok (.getfield 127, 3) := by decide +kernel
theorem dX9_count_127 : decode cX9_count 127 = .ok (.iconst 2, 1) := by decide +kernel
theorem dX9_count_128 : decode cX9_count 128 = .ok (.iaload, 1) := by decide +kernel
theorem dX9_count_129 : decode cX9_count 129 = .ok (.ireturn, 1) := by decide +kernel
theorem dX9_count_130 : decode cX9_count 130 = .ok (.aload_n 0, 1) := by decide +kernel
theorem dX9_count_131 : decode cX9_count 131 = .ok (.getfield 61, 3) := by decide +kernel
theorem dX9_count_134 : decode cX9_count 134 = .ok (.getfield 131, 3) := by decide +kernel
theorem dX9_count_137 : decode cX9_count 137 = .ok (.ireturn, 1) := by decide +kernel
theorem dX9_count_138 : decode cX9_count 138 = .ok (.aload_n 0, 1) := by decide +kernel
theorem dX9_count_139 : decode cX9_count 139 = .ok (.getfield 12, 3) := by decide +kernel
theorem dX9_count_142 : decode cX9_count 142 = .ok (.getfield 85, 3) := by decide +kernel
theorem dX9_count_145 : decode cX9_count 145 = .ok (.ireturn, 1) := by decide +kernel
theorem dX9_count_146 : decode cX9_count 146 = .ok (.aload_n 0, 1) := by decide +kernel
theorem dX9_count_147 : decode cX9_count 147 = .ok (.getfield 45, 3) := by decide +kernel
theorem dX9_count_150 : decode cX9_count 150 = .ok (.invokevirtual 134, 3) := by decide +kernel
theorem dX9_count_153 : decode cX9_count 153 = .ok (.ireturn, 1) := by decide +kernel
theorem dX9_count_154 : decode cX9_count 154 = .ok (.new 137, 3) := by decide +kernel
theorem dX9_count_157 : decode cX9_count 157 = .ok (.dup, 1) := by decide +kernel
theorem dX9_count_158 : decode cX9_count 158 = .ok (.ldc 139, 2) := by decide +kernel
theorem dX9_count_160 : decode cX9_count 160 = .ok (.invokespecial 141, 3) := by decide +kernel
theorem dX9_count_163 : decode cX9_count 163 = .ok (.athrow, 1) := by decide +kernel
theorem dX9_letter_0 : decode cX9_letter 0 = .ok (.aload_n 0, 1) := by decide +kernel
theorem dX9_letter_1 : decode cX9_letter 1 = .ok (.iload_n 1, 1) := by decide +kernel
theorem dX9_letter_2 : decode cX9_letter 2 = .ok (.invokevirtual 142, 3) := by decide +kernel
theorem dX9_letter_5 : decode cX9_letter 5 = .ok (.iload_n 2, 1) := by decide +kernel
theorem dX9_letter_6 : decode cX9_letter 6 = .ok (.ifCond .lt 9, 3) := by decide +kernel
theorem dX9_letter_9 : decode cX9_letter 9 = .ok (.iload_n 2, 1) := by decide +kernel
theorem dX9_letter_10 : decode cX9_letter 10 = .ok (.bipush 6, 2) := by decide +kernel
theorem dX9_letter_12 : decode cX9_letter 12 = .ok (.if_icmp .lt 13, 3) := by decide +kernel
theorem dX9_letter_15 : decode cX9_letter 15 = .ok (.new 137, 3) := by decide +kernel
theorem dX9_letter_18 : decode cX9_letter 18 = .ok (.dup, 1) := by decide +kernel
theorem dX9_letter_19 : decode cX9_letter 19 = .ok (.ldc 145, 2) := by decide +kernel
theorem dX9_letter_21 : decode cX9_letter 21 = .ok (.invokespecial 141, 3) := by decide +kernel
theorem dX9_letter_24 : decode cX9_letter 24 = .ok (.athrow, 1) := by decide +kernel
theorem dX9_letter_25 : decode cX9_letter 25 = .ok (.aload_n 0, 1) := by decide +kernel
theorem dX9_letter_26 : decode cX9_letter 26 = .ok (.getfield 21, 3) := by decide +kernel
theorem dX9_letter_29 : decode cX9_letter 29 = .ok (.getfield 147, 3) := by decide +kernel
theorem dX9_letter_32 : decode cX9_letter 32 = .ok (.iload_n 1, 1) := by decide +kernel
theorem dX9_letter_33 : decode cX9_letter 33 = .ok (.bipush 6, 2) := by decide +kernel
theorem dX9_letter_35 : decode cX9_letter 35 = .ok (.imul, 1) := by decide +kernel
theorem dX9_letter_36 : decode cX9_letter 36 = .ok (.iload_n 2, 1) := by decide +kernel
theorem dX9_letter_37 : decode cX9_letter 37 = .ok (.iadd, 1) := by decide +kernel
theorem dX9_letter_38 : decode cX9_letter 38 = .ok (.iaload, 1) := by decide +kernel
theorem dX9_letter_39 : decode cX9_letter 39 = .ok (.ireturn, 1) := by decide +kernel
theorem dX9_link_0 : decode cX9_link 0 = .ok (.aload_n 0, 1) := by decide +kernel
theorem dX9_link_1 : decode cX9_link 1 = .ok (.iload_n 1, 1) := by decide +kernel
theorem dX9_link_2 : decode cX9_link 2 = .ok (.invokevirtual 150, 3) := by decide +kernel
theorem dX9_link_5 : decode cX9_link 5 = .ok (.aload_n 0, 1) := by decide +kernel
theorem dX9_link_6 : decode cX9_link 6 = .ok (.getfield 21, 3) := by decide +kernel
theorem dX9_link_9 : decode cX9_link 9 = .ok (.getfield 153, 3) := by decide +kernel
theorem dX9_link_12 : decode cX9_link 12 = .ok (.iload_n 1, 1) := by decide +kernel
theorem dX9_link_13 : decode cX9_link 13 = .ok (.aaload, 1) := by decide +kernel
theorem dX9_link_14 : decode cX9_link 14 = .ok (.astore_n 3, 1) := by decide +kernel
theorem dX9_link_15 : decode cX9_link 15 = .ok (.iload_n 2, 1) := by decide +kernel
theorem dX9_link_16 : decode cX9_link 16 = .ok (.tableswitch 82 0 4 #[36, 41, 46, 59, 64], 36) := by decide +kernel
theorem dX9_link_52 : decode cX9_link 52 = .ok (.aload_n 3, 1) := by decide +kernel
theorem dX9_link_53 : decode cX9_link 53 = .ok (.getfield 157, 3) := by decide +kernel
theorem dX9_link_56 : decode cX9_link 56 = .ok (.ireturn, 1) := by decide +kernel
theorem dX9_link_57 : decode cX9_link 57 = .ok (.aload_n 3, 1) := by decide +kernel
theorem dX9_link_58 : decode cX9_link 58 = .ok (.getfield 162, 3) := by decide +kernel
theorem dX9_link_61 : decode cX9_link 61 = .ok (.ireturn, 1) := by decide +kernel
theorem dX9_link_62 : decode cX9_link 62 = .ok (.aload_n 3, 1) := by decide +kernel
theorem dX9_link_63 : decode cX9_link 63 = .ok (.invokevirtual 165, 3) := by decide +kernel
theorem dX9_link_66 : decode cX9_link 66 = .ok (.ifCond .eq 7, 3) := by decide +kernel
theorem dX9_link_69 : decode cX9_link 69 = .ok (.iconst 1, 1) := by decide +kernel
theorem dX9_link_70 : decode cX9_link 70 = .ok (.goto 4, 3) := by decide +kernel
theorem dX9_link_73 : decode cX9_link 73 = .ok (.iconst 0, 1) := by decide +kernel
theorem dX9_link_74 : decode cX9_link 74 = .ok (.ireturn, 1) := by decide +kernel
theorem dX9_link_75 : decode cX9_link 75 = .ok (.aload_n 3, 1) := by decide +kernel
theorem dX9_link_76 : decode cX9_link 76 = .ok (.getfield 169, 3) := by decide +kernel
theorem dX9_link_79 : decode cX9_link 79 = .ok (.ireturn, 1) := by decide +kernel
theorem dX9_link_80 : decode cX9_link 80 = .ok (.aload_n 3, 1) := by decide +kernel
theorem dX9_link_81 : decode cX9_link 81 = .ok (.invokevirtual 165, 3) := by decide +kernel
theorem dX9_link_84 : decode cX9_link 84 = .ok (.ifCond .eq 10, 3) := by decide +kernel
theorem dX9_link_87 : decode cX9_link 87 = .ok (.aload_n 3, 1) := by decide +kernel
theorem dX9_link_88 : decode cX9_link 88 = .ok (.getfield 172, 3) := by decide +kernel
theorem dX9_link_91 : decode cX9_link 91 = .ok (.goto 6, 3) := by decide +kernel
theorem dX9_link_94 : decode cX9_link 94 = .ok (.sipush 9999, 3) := by decide +kernel
theorem dX9_link_97 : decode cX9_link 97 = .ok (.ireturn, 1) := by decide +kernel
theorem dX9_link_98 : decode cX9_link 98 = .ok (.new 137, 3) := by decide +kernel
theorem dX9_link_101 : decode cX9_link 101 = .ok (.dup, 1) := by decide +kernel
theorem dX9_link_102 : decode cX9_link 102 = .ok (.ldc 175, 2) := by decide +kernel
theorem dX9_link_104 : decode cX9_link 104 = .ok (.invokespecial 141, 3) := by decide +kernel
theorem dX9_link_107 : decode cX9_link 107 = .ok (.athrow, 1) := by decide +kernel
theorem dX9_suit_0 : decode cX9_suit 0 = .ok (.aload_n 0, 1) := by decide +kernel
theorem dX9_suit_1 : decode cX9_suit 1 = .ok (.iload_n 1, 1) := by decide +kernel
theorem dX9_suit_2 : decode cX9_suit 2 = .ok (.invokevirtual 177, 3) := by decide +kernel
theorem dX9_suit_5 : decode cX9_suit 5 = .ok (.astore_n 3, 1) := by decide +kernel
theorem dX9_suit_6 : decode cX9_suit 6 = .ok (.iload_n 2, 1) := by decide +kernel
theorem dX9_suit_7 : decode cX9_suit 7 = .ok (.tableswitch 178 0 14 #[73, 78, 83, 88, 93, 98, 103, 108, 121, 134, 139, 144, 149, 154, 168], 73) := by decide +kernel
theorem dX9_suit_80 : decode cX9_suit 80 = .ok (.aload_n 3, 1) := by decide +kernel
theorem dX9_suit_81 : decode cX9_suit 81 = .ok (.getfield 181, 3) := by decide +kernel
theorem dX9_suit_84 : decode cX9_suit 84 = .ok (.ireturn, 1) := by decide +kernel
theorem dX9_suit_85 : decode cX9_suit 85 = .ok (.aload_n 3, 1) := by decide +kernel
theorem dX9_suit_86 : decode cX9_suit 86 = .ok (.getfield 184, 3) := by decide +kernel
theorem dX9_suit_89 : decode cX9_suit 89 = .ok (.ireturn, 1) := by decide +kernel
theorem dX9_suit_90 : decode cX9_suit 90 = .ok (.aload_n 3, 1) := by decide +kernel
theorem dX9_suit_91 : decode cX9_suit 91 = .ok (.getfield 187, 3) := by decide +kernel
theorem dX9_suit_94 : decode cX9_suit 94 = .ok (.ireturn, 1) := by decide +kernel
theorem dX9_suit_95 : decode cX9_suit 95 = .ok (.aload_n 3, 1) := by decide +kernel
theorem dX9_suit_96 : decode cX9_suit 96 = .ok (.getfield 190, 3) := by decide +kernel
theorem dX9_suit_99 : decode cX9_suit 99 = .ok (.ireturn, 1) := by decide +kernel
theorem dX9_suit_100 : decode cX9_suit 100 = .ok (.aload_n 3, 1) := by decide +kernel
theorem dX9_suit_101 : decode cX9_suit 101 = .ok (.getfield 193, 3) := by decide +kernel
theorem dX9_suit_104 : decode cX9_suit 104 = .ok (.ireturn, 1) := by decide +kernel
theorem dX9_suit_105 : decode cX9_suit 105 = .ok (.aload_n 3, 1) := by decide +kernel
theorem dX9_suit_106 : decode cX9_suit 106 = .ok (.getfield 196, 3) := by decide +kernel
theorem dX9_suit_109 : decode cX9_suit 109 = .ok (.ireturn, 1) := by decide +kernel
theorem dX9_suit_110 : decode cX9_suit 110 = .ok (.aload_n 3, 1) := by decide +kernel
theorem dX9_suit_111 : decode cX9_suit 111 = .ok (.getfield 199, 3) := by decide +kernel
theorem dX9_suit_114 : decode cX9_suit 114 = .ok (.ireturn, 1) := by decide +kernel
theorem dX9_suit_115 : decode cX9_suit 115 = .ok (.aload_n 3, 1) := by decide +kernel
theorem dX9_suit_116 : decode cX9_suit 116 = .ok (.getfield 202, 3) := by decide +kernel
theorem dX9_suit_119 : decode cX9_suit 119 = .ok (.ifCond .eq 7, 3) := by decide +kernel
theorem dX9_suit_122 : decode cX9_suit 122 = .ok (.iconst 1, 1) := by decide +kernel
theorem dX9_suit_123 : decode cX9_suit 123 = .ok (.goto 4, 3) := by decide +kernel
theorem dX9_suit_126 : decode cX9_suit 126 = .ok (.iconst 0, 1) := by decide +kernel
theorem dX9_suit_127 : decode cX9_suit 127 = .ok (.ireturn, 1) := by decide +kernel
theorem dX9_suit_128 : decode cX9_suit 128 = .ok (.aload_n 3, 1) := by decide +kernel
theorem dX9_suit_129 : decode cX9_suit 129 = .ok (.getfield 205, 3) := by decide +kernel
theorem dX9_suit_132 : decode cX9_suit 132 = .ok (.ifCond .eq 7, 3) := by decide +kernel
theorem dX9_suit_135 : decode cX9_suit 135 = .ok (.iconst 1, 1) := by decide +kernel
theorem dX9_suit_136 : decode cX9_suit 136 = .ok (.goto 4, 3) := by decide +kernel
theorem dX9_suit_139 : decode cX9_suit 139 = .ok (.iconst 0, 1) := by decide +kernel
theorem dX9_suit_140 : decode cX9_suit 140 = .ok (.ireturn, 1) := by decide +kernel
theorem dX9_suit_141 : decode cX9_suit 141 = .ok (.aload_n 3, 1) := by decide +kernel
theorem dX9_suit_142 : decode cX9_suit 142 = .ok (.getfield 208, 3) := by decide +kernel
theorem dX9_suit_145 : decode cX9_suit 145 = .ok (.ireturn, 1) := by decide +kernel
theorem dX9_suit_146 : decode cX9_suit 146 = .ok (.aload_n 3, 1) := by decide +kernel
theorem dX9_suit_147 : decode cX9_suit 147 = .ok (.getfield 211, 3) := by decide +kernel
theorem dX9_suit_150 : decode cX9_suit 150 = .ok (.ireturn, 1) := by decide +kernel
theorem dX9_suit_151 : decode cX9_suit 151 = .ok (.aload_n 3, 1) := by decide +kernel
theorem dX9_suit_152 : decode cX9_suit 152 = .ok (.getfield 214, 3) := by decide +kernel
theorem dX9_suit_155 : decode cX9_suit 155 = .ok (.ireturn, 1) := by decide +kernel
theorem dX9_suit_156 : decode cX9_suit 156 = .ok (.aload_n 3, 1) := by decide +kernel
theorem dX9_suit_157 : decode cX9_suit 157 = .ok (.invokevirtual 217, 3) := by decide +kernel
theorem dX9_suit_160 : decode cX9_suit 160 = .ok (.ireturn, 1) := by decide +kernel
theorem dX9_suit_161 : decode cX9_suit 161 = .ok (.aload_n 3, 1) := by decide +kernel
theorem dX9_suit_162 : decode cX9_suit 162 = .ok (.aload_n 0, 1) := by decide +kernel
theorem dX9_suit_163 : decode cX9_suit 163 = .ok (.getfield 21, 3) := by decide +kernel
theorem dX9_suit_166 : decode cX9_suit 166 = .ok (.getfield 127, 3) := by decide +kernel
theorem dX9_suit_169 : decode cX9_suit 169 = .ok (.iconst 2, 1) := by decide +kernel
theorem dX9_suit_170 : decode cX9_suit 170 = .ok (.iaload, 1) := by decide +kernel
theorem dX9_suit_171 : decode cX9_suit 171 = .ok (.invokevirtual 220, 3) := by decide +kernel
theorem dX9_suit_174 : decode cX9_suit 174 = .ok (.ireturn, 1) := by decide +kernel
theorem dX9_suit_175 : decode cX9_suit 175 = .ok (.aload_n 3, 1) := by decide +kernel
theorem dX9_suit_176 : decode cX9_suit 176 = .ok (.getfield 224, 3) := by decide +kernel
theorem dX9_suit_179 : decode cX9_suit 179 = .ok (.aload_n 3, 1) := by decide +kernel
theorem dX9_suit_180 : decode cX9_suit 180 = .ok (.getfield 227, 3) := by decide +kernel
theorem dX9_suit_183 : decode cX9_suit 183 = .ok (.ior, 1) := by decide +kernel
theorem dX9_suit_184 : decode cX9_suit 184 = .ok (.ireturn, 1) := by decide +kernel
theorem dX9_suit_185 : decode cX9_suit 185 = .ok (.new 137, 3) := by decide +kernel
theorem dX9_suit_188 : decode cX9_suit 188 = .ok (.dup, 1) := by decide +kernel
theorem dX9_suit_189 : decode cX9_suit 189 = .ok (.ldc 230, 2) := by decide +kernel
theorem dX9_suit_191 : decode cX9_suit 191 = .ok (.invokespecial 141, 3) := by decide +kernel
theorem dX9_suit_194 : decode cX9_suit 194 = .ok (.athrow, 1) := by decide +kernel
theorem dX9_isBound_0 : decode cX9_isBound 0 = .ok (.aload_n 0, 1) := by decide +kernel
theorem dX9_isBound_1 : decode cX9_isBound 1 = .ok (.iload_n 1, 1) := by decide +kernel
theorem dX9_isBound_2 : decode cX9_isBound 2 = .ok (.invokevirtual 177, 3) := by decide +kernel
theorem dX9_isBound_5 : decode cX9_isBound 5 = .ok (.astore 4, 2) := by decide +kernel
theorem dX9_isBound_7 : decode cX9_isBound 7 = .ok (.aload_n 0, 1) := by decide +kernel
theorem dX9_isBound_8 : decode cX9_isBound 8 = .ok (.iload_n 3, 1) := by decide +kernel
theorem dX9_isBound_9 : decode cX9_isBound 9 = .ok (.invokevirtual 142, 3) := by decide +kernel
theorem dX9_isBound_12 : decode cX9_isBound 12 = .ok (.aload_n 0, 1) := by decide +kernel
theorem dX9_isBound_13 : decode cX9_isBound 13 = .ok (.iload_n 2, 1) := by decide +kernel
theorem dX9_isBound_14 : decode cX9_isBound 14 = .ok (.invokevirtual 232, 3) := by decide +kernel
theorem dX9_isBound_17 : decode cX9_isBound 17 = .ok (.aload 4, 2) := by decide +kernel
theorem dX9_isBound_19 : decode cX9_isBound 19 = .ok (.iload_n 2, 1) := by decide +kernel
theorem dX9_isBound_20 : decode cX9_isBound 20 = .ok (.invokevirtual 235, 3) := by decide +kernel
theorem dX9_isBound_23 : decode cX9_isBound 23 = .ok (.iload_n 3, 1) := by decide +kernel
theorem dX9_isBound_24 : decode cX9_isBound 24 = .ok (.ishr, 1) := by decide +kernel
theorem dX9_isBound_25 : decode cX9_isBound 25 = .ok (.iconst 1, 1) := by decide +kernel
theorem dX9_isBound_26 : decode cX9_isBound 26 = .ok (.iand, 1) := by decide +kernel
theorem dX9_isBound_27 : decode cX9_isBound 27 = .ok (.iconst 1, 1) := by decide +kernel
theorem dX9_isBound_28 : decode cX9_isBound 28 = .ok (.if_icmp .ne 7, 3) := by decide +kernel
theorem dX9_isBound_31 : decode cX9_isBound 31 = .ok (.iconst 1, 1) := by decide +kernel
theorem dX9_isBound_32 : decode cX9_isBound 32 = .ok (.goto 4, 3) := by decide +kernel
theorem dX9_isBound_35 : decode cX9_isBound 35 = .ok (.iconst 0, 1) := by decide +kernel
theorem dX9_isBound_36 : decode cX9_isBound 36 = .ok (.ireturn, 1) := by decide +kernel
theorem dX9_chain_0 : decode cX9_chain 0 = .ok (.aload_n 0, 1) := by decide +kernel
theorem dX9_chain_1 : decode cX9_chain 1 = .ok (.iload_n 1, 1) := by decide +kernel
theorem dX9_chain_2 : decode cX9_chain 2 = .ok (.invokevirtual 177, 3) := by decide +kernel
theorem dX9_chain_5 : decode cX9_chain 5 = .ok (.astore 5, 2) := by decide +kernel
theorem dX9_chain_7 : decode cX9_chain 7 = .ok (.aload_n 0, 1) := by decide +kernel
theorem dX9_chain_8 : decode cX9_chain 8 = .ok (.iload_n 3, 1) := by decide +kernel
theorem dX9_chain_9 : decode cX9_chain 9 = .ok (.invokevirtual 142, 3) := by decide +kernel
theorem dX9_chain_12 : decode cX9_chain 12 = .ok (.aload_n 0, 1) := by decide +kernel
theorem dX9_chain_13 : decode cX9_chain 13 = .ok (.iload_n 2, 1) := by decide +kernel
theorem dX9_chain_14 : decode cX9_chain 14 = .ok (.invokevirtual 232, 3) := by decide +kernel
theorem dX9_chain_17 : decode cX9_chain 17 = .ok (.aload 5, 2) := by decide +kernel
theorem dX9_chain_19 : decode cX9_chain 19 = .ok (.iload_n 2, 1) := by decide +kernel
theorem dX9_chain_20 : decode cX9_chain 20 = .ok (.invokevirtual 235, 3) := by decide +kernel
theorem dX9_chain_23 : decode cX9_chain 23 = .ok (.iload_n 3, 1) := by decide +kernel
theorem dX9_chain_24 : decode cX9_chain 24 = .ok (.ishr, 1) := by decide +kernel
theorem dX9_chain_25 : decode cX9_chain 25 = .ok (.iconst 1, 1) := by decide +kernel
theorem dX9_chain_26 : decode cX9_chain 26 = .ok (.iand, 1) := by decide +kernel
theorem dX9_chain_27 : decode cX9_chain 27 = .ok (.ifCond .ne 5, 3) := by decide +kernel
theorem dX9_chain_30 : decode cX9_chain 30 = .ok (.iconst (-1), 1) := by decide +kernel
theorem dX9_chain_31 : decode cX9_chain 31 = .ok (.ireturn, 1) := by decide +kernel
theorem dX9_chain_32 : decode cX9_chain 32 = .ok (.aload_n 0, 1) := by decide +kernel
theorem dX9_chain_33 : decode cX9_chain 33 = .ok (.getfield 45, 3) := by decide +kernel
theorem dX9_chain_36 : decode cX9_chain 36 = .ok (.aload 5, 2) := by decide +kernel
theorem dX9_chain_38 : decode cX9_chain 38 = .ok (.iload_n 2, 1) := by decide +kernel
theorem dX9_chain_39 : decode cX9_chain 39 = .ok (.iload_n 3, 1) := by decide +kernel
theorem dX9_chain_40 : decode cX9_chain 40 = .ok (.invokevirtual 238, 3) := by decide +kernel
theorem dX9_chain_43 : decode cX9_chain 43 = .ok (.istore 6, 2) := by decide +kernel
theorem dX9_chain_45 : decode cX9_chain 45 = .ok (.iload 4, 2) := by decide +kernel
theorem dX9_chain_47 : decode cX9_chain 47 = .ok (.iconst (-1), 1) := by decide +kernel
theorem dX9_chain_48 : decode cX9_chain 48 = .ok (.if_icmp .ne 6, 3) := by decide +kernel
theorem dX9_chain_51 : decode cX9_chain 51 = .ok (.iload 6, 2) := by decide +kernel
theorem dX9_chain_53 : decode cX9_chain 53 = .ok (.ireturn, 1) := by decide +kernel
theorem dX9_chain_54 : decode cX9_chain 54 = .ok (.iload 4, 2) := by decide +kernel
theorem dX9_chain_56 : decode cX9_chain 56 = .ok (.ifCond .lt 10, 3) := by decide +kernel
theorem dX9_chain_59 : decode cX9_chain 59 = .ok (.iload 4, 2) := by decide +kernel
theorem dX9_chain_61 : decode cX9_chain 61 = .ok (.iload 6, 2) := by decide +kernel
theorem dX9_chain_63 : decode cX9_chain 63 = .ok (.if_icmp .lt 13, 3) := by decide +kernel
theorem dX9_chain_66 : decode cX9_chain 66 = .ok (.new 137, 3) := by decide +kernel
theorem dX9_chain_69 : decode cX9_chain 69 = .ok (.dup, 1) := by decide +kernel
theorem dX9_chain_70 : decode cX9_chain 70 = .ok (.ldc 242, 2) := by decide +kernel
theorem dX9_chain_72 : decode cX9_chain 72 = .ok (.invokespecial 141, 3) := by decide +kernel
theorem dX9_chain_75 : decode cX9_chain 75 = .ok (.athrow, 1) := by decide +kernel
theorem dX9_chain_76 : decode cX9_chain 76 = .ok (.aload_n 0, 1) := by decide +kernel
theorem dX9_chain_77 : decode cX9_chain 77 = .ok (.getfield 45, 3) := by decide +kernel
theorem dX9_chain_80 : decode cX9_chain 80 = .ok (.iload 6, 2) := by decide +kernel
theorem dX9_chain_82 : decode cX9_chain 82 = .ok (.iload 4, 2) := by decide +kernel
theorem dX9_chain_84 : decode cX9_chain 84 = .ok (.invokevirtual 244, 3) := by decide +kernel
theorem dX9_chain_87 : decode cX9_chain 87 = .ok (.ireturn, 1) := by decide +kernel
theorem dX9_two_0 : decode cX9_two 0 = .ok (.aload_n 0, 1) := by decide +kernel
theorem dX9_two_1 : decode cX9_two 1 = .ok (.iload_n 1, 1) := by decide +kernel
theorem dX9_two_2 : decode cX9_two 2 = .ok (.invokevirtual 177, 3) := by decide +kernel
theorem dX9_two_5 : decode cX9_two 5 = .ok (.astore 4, 2) := by decide +kernel
theorem dX9_two_7 : decode cX9_two 7 = .ok (.aload_n 0, 1) := by decide +kernel
theorem dX9_two_8 : decode cX9_two 8 = .ok (.iload_n 2, 1) := by decide +kernel
theorem dX9_two_9 : decode cX9_two 9 = .ok (.invokevirtual 177, 3) := by decide +kernel
theorem dX9_two_12 : decode cX9_two 12 = .ok (.astore 5, 2) := by decide +kernel
theorem dX9_two_14 : decode cX9_two 14 = .ok (.iload_n 3, 1) := by decide +kernel
theorem dX9_two_15 : decode cX9_two 15 = .ok (.tableswitch 132 0 5 #[37, 49, 69, 83, 103, 117], 37) := by decide +kernel
theorem dX9_two_52 : decode cX9_two 52 = .ok (.aload 4, 2) := by decide +kernel
theorem dX9_two_54 : decode cX9_two 54 = .ok (.getfield 190, 3) := by decide +kernel
theorem dX9_two_57 : decode cX9_two 57 = .ok (.aload 5, 2) := by decide +kernel
theorem dX9_two_59 : decode cX9_two 59 = .ok (.getfield 190, 3) := by decide +kernel
theorem dX9_two_62 : decode cX9_two 62 = .ok (.iand, 1) := by decide +kernel
theorem dX9_two_63 : decode cX9_two 63 = .ok (.ireturn, 1) := by decide +kernel
theorem dX9_two_64 : decode cX9_two 64 = .ok (.aload_n 0, 1) := by decide +kernel
theorem dX9_two_65 : decode cX9_two 65 = .ok (.getfield 45, 3) := by decide +kernel
theorem dX9_two_68 : decode cX9_two 68 = .ok (.aload 4, 2) := by decide +kernel
theorem dX9_two_70 : decode cX9_two 70 = .ok (.aload 5, 2) := by decide +kernel
theorem dX9_two_72 : decode cX9_two 72 = .ok (.invokevirtual 248, 3) := by decide +kernel
theorem dX9_two_75 : decode cX9_two 75 = .ok (.ifCond .eq 7, 3) := by decide +kernel
theorem dX9_two_78 : decode cX9_two 78 = .ok (.iconst 1, 1) := by decide +kernel
theorem dX9_two_79 : decode cX9_two 79 = .ok (.goto 4, 3) := by decide +kernel
theorem dX9_two_82 : decode cX9_two 82 = .ok (.iconst 0, 1) := by decide +kernel
theorem dX9_two_83 : decode cX9_two 83 = .ok (.ireturn, 1) := by decide +kernel
theorem dX9_two_84 : decode cX9_two 84 = .ok (.aload_n 0, 1) := by decide +kernel
theorem dX9_two_85 : decode cX9_two 85 = .ok (.getfield 45, 3) := by decide +kernel
theorem dX9_two_88 : decode cX9_two 88 = .ok (.aload 4, 2) := by decide +kernel
theorem dX9_two_90 : decode cX9_two 90 = .ok (.invokevirtual 252, 3) := by decide +kernel
theorem dX9_two_93 : decode cX9_two 93 = .ok (.iload_n 2, 1) := by decide +kernel
theorem dX9_two_94 : decode cX9_two 94 = .ok (.ishr, 1) := by decide +kernel
theorem dX9_two_95 : decode cX9_two 95 = .ok (.iconst 1, 1) := by decide +kernel
theorem dX9_two_96 : decode cX9_two 96 = .ok (.iand, 1) := by decide +kernel
theorem dX9_two_97 : decode cX9_two 97 = .ok (.ireturn, 1) := by decide +kernel
theorem dX9_two_98 : decode cX9_two 98 = .ok (.aload_n 0, 1) := by decide +kernel
theorem dX9_two_99 : decode cX9_two 99 = .ok (.getfield 45, 3) := by decide +kernel
theorem dX9_two_102 : decode cX9_two 102 = .ok (.aload 4, 2) := by decide +kernel
theorem dX9_two_104 : decode cX9_two 104 = .ok (.aload 5, 2) := by decide +kernel
theorem dX9_two_106 : decode cX9_two 106 = .ok (.invokevirtual 256, 3) := by decide +kernel
theorem dX9_two_109 : decode cX9_two 109 = .ok (.ifCond .eq 7, 3) := by decide +kernel
theorem dX9_two_112 : decode cX9_two 112 = .ok (.iconst 1, 1) := by decide +kernel
theorem dX9_two_113 : decode cX9_two 113 = .ok (.goto 4, 3) := by decide +kernel
theorem dX9_two_116 : decode cX9_two 116 = .ok (.iconst 0, 1) := by decide +kernel
theorem dX9_two_117 : decode cX9_two 117 = .ok (.ireturn, 1) := by decide +kernel
theorem dX9_two_118 : decode cX9_two 118 = .ok (.aload_n 0, 1) := by decide +kernel
theorem dX9_two_119 : decode cX9_two 119 = .ok (.getfield 45, 3) := by decide +kernel
theorem dX9_two_122 : decode cX9_two 122 = .ok (.aload 4, 2) := by decide +kernel
theorem dX9_two_124 : decode cX9_two 124 = .ok (.invokevirtual 259, 3) := by decide +kernel
theorem dX9_two_127 : decode cX9_two 127 = .ok (.iload_n 2, 1) := by decide +kernel
theorem dX9_two_128 : decode cX9_two 128 = .ok (.ishr, 1) := by decide +kernel
theorem dX9_two_129 : decode cX9_two 129 = .ok (.iconst 1, 1) := by decide +kernel
theorem dX9_two_130 : decode cX9_two 130 = .ok (.iand, 1) := by decide +kernel
theorem dX9_two_131 : decode cX9_two 131 = .ok (.ireturn, 1) := by decide +kernel
theorem dX9_two_132 : decode cX9_two 132 = .ok (.aload_n 0, 1) := by decide +kernel
theorem dX9_two_133 : decode cX9_two 133 = .ok (.getfield 45, 3) := by decide +kernel
theorem dX9_two_136 : decode cX9_two 136 = .ok (.aload 4, 2) := by decide +kernel
theorem dX9_two_138 : decode cX9_two 138 = .ok (.aload 5, 2) := by decide +kernel
theorem dX9_two_140 : decode cX9_two 140 = .ok (.invokevirtual 262, 3) := by decide +kernel
theorem dX9_two_143 : decode cX9_two 143 = .ok (.invokestatic 266, 3) := by decide +kernel
theorem dX9_two_146 : decode cX9_two 146 = .ok (.ireturn, 1) := by decide +kernel
theorem dX9_two_147 : decode cX9_two 147 = .ok (.new 137, 3) := by decide +kernel
theorem dX9_two_150 : decode cX9_two 150 = .ok (.dup, 1) := by decide +kernel
theorem dX9_two_151 : decode cX9_two 151 = .ok (.ldc_w 269, 3) := by decide +kernel
theorem dX9_two_154 : decode cX9_two 154 = .ok (.invokespecial 141, 3) := by decide +kernel
theorem dX9_two_157 : decode cX9_two 157 = .ok (.athrow, 1) := by decide +kernel
theorem dX9_barred_0 : decode cX9_barred 0 = .ok (.aload_n 0, 1) := by decide +kernel
theorem dX9_barred_1 : decode cX9_barred 1 = .ok (.getfield 45, 3) := by decide +kernel
theorem dX9_barred_4 : decode cX9_barred 4 = .ok (.aload_n 0, 1) := by decide +kernel
theorem dX9_barred_5 : decode cX9_barred 5 = .ok (.iload_n 1, 1) := by decide +kernel
theorem dX9_barred_6 : decode cX9_barred 6 = .ok (.invokevirtual 177, 3) := by decide +kernel
theorem dX9_barred_9 : decode cX9_barred 9 = .ok (.invokevirtual 252, 3) := by decide +kernel
theorem dX9_barred_12 : decode cX9_barred 12 = .ok (.ireturn, 1) := by decide +kernel
theorem dX9_held_0 : decode cX9_held 0 = .ok (.aload_n 0, 1) := by decide +kernel
theorem dX9_held_1 : decode cX9_held 1 = .ok (.iload_n 1, 1) := by decide +kernel
theorem dX9_held_2 : decode cX9_held 2 = .ok (.invokevirtual 177, 3) := by decide +kernel
theorem dX9_held_5 : decode cX9_held 5 = .ok (.astore 4, 2) := by decide +kernel
theorem dX9_held_7 : decode cX9_held 7 = .ok (.aload_n 0, 1) := by decide +kernel
theorem dX9_held_8 : decode cX9_held 8 = .ok (.aload 4, 2) := by decide +kernel
theorem dX9_held_10 : decode cX9_held 10 = .ok (.iload_n 2, 1) := by decide +kernel
theorem dX9_held_11 : decode cX9_held 11 = .ok (.invokevirtual 271, 3) := by decide +kernel
theorem dX9_held_14 : decode cX9_held 14 = .ok (.iload_n 3, 1) := by decide +kernel
theorem dX9_held_15 : decode cX9_held 15 = .ok (.ifCond .lt 8, 3) := by decide +kernel
theorem dX9_held_18 : decode cX9_held 18 = .ok (.iload_n 3, 1) := by decide +kernel
theorem dX9_held_19 : decode cX9_held 19 = .ok (.iconst 2, 1) := by decide +kernel
theorem dX9_held_20 : decode cX9_held 20 = .ok (.if_icmp .le 14, 3) := by decide +kernel
theorem dX9_held_23 : decode cX9_held 23 = .ok (.new 137, 3) := by decide +kernel
theorem dX9_held_26 : decode cX9_held 26 = .ok (.dup, 1) := by decide +kernel
theorem dX9_held_27 : decode cX9_held 27 = .ok (.ldc_w 275, 3) := by decide +kernel
theorem dX9_held_30 : decode cX9_held 30 = .ok (.invokespecial 141, 3) := by decide +kernel
theorem dX9_held_33 : decode cX9_held 33 = .ok (.athrow, 1) := by decide +kernel
theorem dX9_held_34 : decode cX9_held 34 = .ok (.iload_n 3, 1) := by decide +kernel
theorem dX9_held_35 : decode cX9_held 35 = .ok (.iconst 2, 1) := by decide +kernel
theorem dX9_held_36 : decode cX9_held 36 = .ok (.if_icmp .ne 14, 3) := by decide +kernel
theorem dX9_held_39 : decode cX9_held 39 = .ok (.aload_n 0, 1) := by decide +kernel
theorem dX9_held_40 : decode cX9_held 40 = .ok (.getfield 45, 3) := by decide +kernel
theorem dX9_held_43 : decode cX9_held 43 = .ok (.aload 4, 2) := by decide +kernel
theorem dX9_held_45 : decode cX9_held 45 = .ok (.iload_n 2, 1) := by decide +kernel
theorem dX9_held_46 : decode cX9_held 46 = .ok (.invokevirtual 277, 3) := by decide +kernel
theorem dX9_held_49 : decode cX9_held 49 = .ok (.ireturn, 1) := by decide +kernel
theorem dX9_held_50 : decode cX9_held 50 = .ok (.aload_n 0, 1) := by decide +kernel
theorem dX9_held_51 : decode cX9_held 51 = .ok (.getfield 45, 3) := by decide +kernel
theorem dX9_held_54 : decode cX9_held 54 = .ok (.aload 4, 2) := by decide +kernel
theorem dX9_held_56 : decode cX9_held 56 = .ok (.invokevirtual 281, 3) := by decide +kernel
theorem dX9_held_59 : decode cX9_held 59 = .ok (.aload_n 0, 1) := by decide +kernel
theorem dX9_held_60 : decode cX9_held 60 = .ok (.getfield 45, 3) := by decide +kernel
theorem dX9_held_63 : decode cX9_held 63 = .ok (.getfield 285, 3) := by decide +kernel
theorem dX9_held_66 : decode cX9_held 66 = .ok (.iload_n 2, 1) := by decide +kernel
theorem dX9_held_67 : decode cX9_held 67 = .ok (.iaload, 1) := by decide +kernel
theorem dX9_held_68 : decode cX9_held 68 = .ok (.istore 5, 2) := by decide +kernel
theorem dX9_held_70 : decode cX9_held 70 = .ok (.iload_n 3, 1) := by decide +kernel
theorem dX9_held_71 : decode cX9_held 71 = .ok (.ifCond .eq 9, 3) := by decide +kernel
theorem dX9_held_74 : decode cX9_held 74 = .ok (.iload 5, 2) := by decide +kernel
theorem dX9_held_76 : decode cX9_held 76 = .ok (.iconst (-1), 1) := by decide +kernel
theorem dX9_held_77 : decode cX9_held 77 = .ok (.if_icmp .ne 6, 3) := by decide +kernel
theorem dX9_held_80 : decode cX9_held 80 = .ok (.iload 5, 2) := by decide +kernel
theorem dX9_held_82 : decode cX9_held 82 = .ok (.ireturn, 1) := by decide +kernel
theorem dX9_held_83 : decode cX9_held 83 = .ok (.aload_n 0, 1) := by decide +kernel
theorem dX9_held_84 : decode cX9_held 84 = .ok (.getfield 45, 3) := by decide +kernel
theorem dX9_held_87 : decode cX9_held 87 = .ok (.getfield 288, 3) := by decide +kernel
theorem dX9_held_90 : decode cX9_held 90 = .ok (.iload_n 2, 1) := by decide +kernel
theorem dX9_held_91 : decode cX9_held 91 = .ok (.ishr, 1) := by decide +kernel
theorem dX9_held_92 : decode cX9_held 92 = .ok (.iconst 1, 1) := by decide +kernel
theorem dX9_held_93 : decode cX9_held 93 = .ok (.iand, 1) := by decide +kernel
theorem dX9_held_94 : decode cX9_held 94 = .ok (.ireturn, 1) := by decide +kernel
theorem dX9_issues_0 : decode cX9_issues 0 = .ok (.aload_n 0, 1) := by decide +kernel
theorem dX9_issues_1 : decode cX9_issues 1 = .ok (.iload_n 1, 1) := by decide +kernel
theorem dX9_issues_2 : decode cX9_issues 2 = .ok (.invokevirtual 177, 3) := by decide +kernel
theorem dX9_issues_5 : decode cX9_issues 5 = .ok (.astore_n 3, 1) := by decide +kernel
theorem dX9_issues_6 : decode cX9_issues 6 = .ok (.iload_n 2, 1) := by decide +kernel
theorem dX9_issues_7 : decode cX9_issues 7 = .ok (.ifCond .lt 8, 3) := by decide +kernel
theorem dX9_issues_10 : decode cX9_issues 10 = .ok (.iload_n 2, 1) := by decide +kernel
theorem dX9_issues_11 : decode cX9_issues 11 = .ok (.iconst 1, 1) := by decide +kernel
theorem dX9_issues_12 : decode cX9_issues 12 = .ok (.if_icmp .le 14, 3) := by decide +kernel
theorem dX9_issues_15 : decode cX9_issues 15 = .ok (.new 137, 3) := by decide +kernel
theorem dX9_issues_18 : decode cX9_issues 18 = .ok (.dup, 1) := by decide +kernel
theorem dX9_issues_19 : decode cX9_issues 19 = .ok (.ldc_w 291, 3) := by decide +kernel
theorem dX9_issues_22 : decode cX9_issues 22 = .ok (.invokespecial 141, 3) := by decide +kernel
theorem dX9_issues_25 : decode cX9_issues 25 = .ok (.athrow, 1) := by decide +kernel
theorem dX9_issues_26 : decode cX9_issues 26 = .ok (.aload_n 0, 1) := by decide +kernel
theorem dX9_issues_27 : decode cX9_issues 27 = .ok (.getfield 45, 3) := by decide +kernel
theorem dX9_issues_30 : decode cX9_issues 30 = .ok (.aload_n 3, 1) := by decide +kernel
theorem dX9_issues_31 : decode cX9_issues 31 = .ok (.invokevirtual 293, 3) := by decide +kernel
theorem dX9_issues_34 : decode cX9_issues 34 = .ok (.istore 4, 2) := by decide +kernel
theorem dX9_issues_36 : decode cX9_issues 36 = .ok (.iload_n 2, 1) := by decide +kernel
theorem dX9_issues_37 : decode cX9_issues 37 = .ok (.ifCond .ne 8, 3) := by decide +kernel
theorem dX9_issues_40 : decode cX9_issues 40 = .ok (.iload 4, 2) := by decide +kernel
theorem dX9_issues_42 : decode cX9_issues 42 = .ok (.goto 12, 3) := by decide +kernel
theorem dX9_issues_45 : decode cX9_issues 45 = .ok (.aload_n 3, 1) := by decide +kernel
theorem dX9_issues_46 : decode cX9_issues 46 = .ok (.invokevirtual 296, 3) := by decide +kernel
theorem dX9_issues_49 : decode cX9_issues 49 = .ok (.iload 4, 2) := by decide +kernel
theorem dX9_issues_51 : decode cX9_issues 51 = .ok (.iconst (-1), 1) := by decide +kernel
theorem dX9_issues_52 : decode cX9_issues 52 = .ok (.ixor, 1) := by decide +kernel
theorem dX9_issues_53 : decode cX9_issues 53 = .ok (.iand, 1) := by decide +kernel
theorem dX9_issues_54 : decode cX9_issues 54 = .ok (.ireturn, 1) := by decide +kernel
theorem dX9_forced_0 : decode cX9_forced 0 = .ok (.aload_n 0, 1) := by decide +kernel
theorem dX9_forced_1 : decode cX9_forced 1 = .ok (.getfield 45, 3) := by decide +kernel
theorem dX9_forced_4 : decode cX9_forced 4 = .ok (.aload_n 0, 1) := by decide +kernel
theorem dX9_forced_5 : decode cX9_forced 5 = .ok (.iload_n 1, 1) := by decide +kernel
theorem dX9_forced_6 : decode cX9_forced 6 = .ok (.invokevirtual 177, 3) := by decide +kernel
theorem dX9_forced_9 : decode cX9_forced 9 = .ok (.invokevirtual 299, 3) := by decide +kernel
theorem dX9_forced_12 : decode cX9_forced 12 = .ok (.ireturn, 1) := by decide +kernel
theorem dX9_say_0 : decode cX9_say 0 = .ok (.aload_n 0, 1) := by decide +kernel
theorem dX9_say_1 : decode cX9_say 1 = .ok (.iload_n 1, 1) := by decide +kernel
theorem dX9_say_2 : decode cX9_say 2 = .ok (.invokevirtual 177, 3) := by decide +kernel
theorem dX9_say_5 : decode cX9_say 5 = .ok (.astore_n 2, 1) := by decide +kernel
theorem dX9_say_6 : decode cX9_say 6 = .ok (.aload_n 0, 1) := by decide +kernel
theorem dX9_say_7 : decode cX9_say 7 = .ok (.getfield 45, 3) := by decide +kernel
theorem dX9_say_10 : decode cX9_say 10 = .ok (.aload_n 2, 1) := by decide +kernel
theorem dX9_say_11 : decode cX9_say 11 = .ok (.invokevirtual 299, 3) := by decide +kernel
theorem dX9_say_14 : decode cX9_say 14 = .ok (.istore_n 3, 1) := by decide +kernel
theorem dX9_say_15 : decode cX9_say 15 = .ok (.aload_n 0, 1) := by decide +kernel
theorem dX9_say_16 : decode cX9_say 16 = .ok (.getfield 45, 3) := by decide +kernel
theorem dX9_say_19 : decode cX9_say 19 = .ok (.aload_n 2, 1) := by decide +kernel
theorem dX9_say_20 : decode cX9_say 20 = .ok (.invokevirtual 281, 3) := by decide +kernel
theorem dX9_say_23 : decode cX9_say 23 = .ok (.aload_n 0, 1) := by decide +kernel
theorem dX9_say_24 : decode cX9_say 24 = .ok (.getfield 68, 3) := by decide +kernel
theorem dX9_say_27 : decode cX9_say 27 = .ok (.iconst 0, 1) := by decide +kernel
theorem dX9_say_28 : decode cX9_say 28 = .ok (.putfield 302, 3) := by decide +kernel
theorem dX9_say_31 : decode cX9_say 31 = .ok (.iconst 0, 1) := by decide +kernel
theorem dX9_say_32 : decode cX9_say 32 = .ok (.istore 4, 2) := by decide +kernel
theorem dX9_say_34 : decode cX9_say 34 = .ok (.iload 4, 2) := by decide +kernel
theorem dX9_say_36 : decode cX9_say 36 = .ok (.bipush 31, 2) := by decide +kernel
theorem dX9_say_38 : decode cX9_say 38 = .ok (.if_icmp .ge 59, 3) := by decide +kernel
theorem dX9_say_41 : decode cX9_say 41 = .ok (.aload_n 0, 1) := by decide +kernel
theorem dX9_say_42 : decode cX9_say 42 = .ok (.getfield 45, 3) := by decide +kernel
theorem dX9_say_45 : decode cX9_say 45 = .ok (.getfield 285, 3) := by decide +kernel
theorem dX9_say_48 : decode cX9_say 48 = .ok (.iload 4, 2) := by decide +kernel
theorem dX9_say_50 : decode cX9_say 50 = .ok (.iaload, 1) := by decide +kernel
theorem dX9_say_51 : decode cX9_say 51 = .ok (.istore 5, 2) := by decide +kernel
theorem dX9_say_53 : decode cX9_say 53 = .ok (.iload 5, 2) := by decide +kernel
theorem dX9_say_55 : decode cX9_say 55 = .ok (.iconst (-1), 1) := by decide +kernel
theorem dX9_say_56 : decode cX9_say 56 = .ok (.if_icmp .eq 35, 3) := by decide +kernel
theorem dX9_say_59 : decode cX9_say 59 = .ok (.aload_n 0, 1) := by decide +kernel
theorem dX9_say_60 : decode cX9_say 60 = .ok (.getfield 68, 3) := by decide +kernel
theorem dX9_say_63 : decode cX9_say 63 = .ok (.iload 4, 2) := by decide +kernel
theorem dX9_say_65 : decode cX9_say 65 = .ok (.aload_n 0, 1) := by decide +kernel
theorem dX9_say_66 : decode cX9_say 66 = .ok (.getfield 45, 3) := by decide +kernel
theorem dX9_say_69 : decode cX9_say 69 = .ok (.getfield 288, 3) := by decide +kernel
theorem dX9_say_72 : decode cX9_say 72 = .ok (.iload 4, 2) := by decide +kernel
theorem dX9_say_74 : decode cX9_say 74 = .ok (.ishr, 1) := by decide +kernel
theorem dX9_say_75 : decode cX9_say 75 = .ok (.iconst 1, 1) := by decide +kernel
theorem dX9_say_76 : decode cX9_say 76 = .ok (.iand, 1) := by decide +kernel
theorem dX9_say_77 : decode cX9_say 77 = .ok (.iconst 1, 1) := by decide +kernel
theorem dX9_say_78 : decode cX9_say 78 = .ok (.if_icmp .ne 7, 3) := by decide +kernel
theorem dX9_say_81 : decode cX9_say 81 = .ok (.iconst 1, 1) := by decide +kernel
theorem dX9_say_82 : decode cX9_say 82 = .ok (.goto 4, 3) := by decide +kernel
theorem dX9_say_85 : decode cX9_say 85 = .ok (.iconst 0, 1) := by decide +kernel
theorem dX9_say_86 : decode cX9_say 86 = .ok (.iload 5, 2) := by decide +kernel
theorem dX9_say_88 : decode cX9_say 88 = .ok (.invokevirtual 303, 3) := by decide +kernel
theorem dX9_say_91 : decode cX9_say 91 = .ok (.iinc 4 1, 3) := by decide +kernel
theorem dX9_say_94 : decode cX9_say 94 = .ok (.goto (-60), 3) := by decide +kernel
theorem dX9_say_97 : decode cX9_say 97 = .ok (.iload_n 3, 1) := by decide +kernel
theorem dX9_say_98 : decode cX9_say 98 = .ok (.iconst (-1), 1) := by decide +kernel
theorem dX9_say_99 : decode cX9_say 99 = .ok (.if_icmp .eq 20, 3) := by decide +kernel
theorem dX9_say_102 : decode cX9_say 102 = .ok (.aload_n 0, 1) := by decide +kernel
theorem dX9_say_103 : decode cX9_say 103 = .ok (.getfield 68, 3) := by decide +kernel
theorem dX9_say_106 : decode cX9_say 106 = .ok (.bipush 33, 2) := by decide +kernel
theorem dX9_say_108 : decode cX9_say 108 = .ok (.invokevirtual 307, 3) := by decide +kernel
theorem dX9_say_111 : decode cX9_say 111 = .ok (.aload_n 0, 1) := by decide +kernel
theorem dX9_say_112 : decode cX9_say 112 = .ok (.getfield 68, 3) := by decide +kernel
theorem dX9_say_115 : decode cX9_say 115 = .ok (.iload_n 3, 1) := by decide +kernel
theorem dX9_say_116 : decode cX9_say 116 = .ok (.invokevirtual 311, 3) := by decide +kernel
theorem dX9_say_119 : decode cX9_say 119 = .ok (.aload_n 0, 1) := by decide +kernel
theorem dX9_say_120 : decode cX9_say 120 = .ok (.getfield 68, 3) := by decide +kernel
theorem dX9_say_123 : decode cX9_say 123 = .ok (.getfield 302, 3) := by decide +kernel
theorem dX9_say_126 : decode cX9_say 126 = .ok (.ireturn, 1) := by decide +kernel
theorem dX9_said_0 : decode cX9_said 0 = .ok (.iload_n 1, 1) := by decide +kernel
theorem dX9_said_1 : decode cX9_said 1 = .ok (.ifCond .lt 14, 3) := by decide +kernel
theorem dX9_said_4 : decode cX9_said 4 = .ok (.iload_n 1, 1) := by decide +kernel
theorem dX9_said_5 : decode cX9_said 5 = .ok (.aload_n 0, 1) := by decide +kernel
theorem dX9_said_6 : decode cX9_said 6 = .ok (.getfield 68, 3) := by decide +kernel
theorem dX9_said_9 : decode cX9_said 9 = .ok (.getfield 302, 3) := by decide +kernel
theorem dX9_said_12 : decode cX9_said 12 = .ok (.if_icmp .lt 7, 3) := by decide +kernel
theorem dX9_said_15 : decode cX9_said 15 = .ok (.iconst (-1), 1) := by decide +kernel
theorem dX9_said_16 : decode cX9_said 16 = .ok (.goto 12, 3) := by decide +kernel
theorem dX9_said_19 : decode cX9_said 19 = .ok (.aload_n 0, 1) := by decide +kernel
theorem dX9_said_20 : decode cX9_said 20 = .ok (.getfield 68, 3) := by decide +kernel
theorem dX9_said_23 : decode cX9_said 23 = .ok (.getfield 314, 3) := by decide +kernel
theorem dX9_said_26 : decode cX9_said 26 = .ok (.iload_n 1, 1) := by decide +kernel
theorem dX9_said_27 : decode cX9_said 27 = .ok (.baload, 1) := by decide +kernel
theorem dX9_said_28 : decode cX9_said 28 = .ok (.ireturn, 1) := by decide +kernel
theorem dX9_latest_0 : decode cX9_latest 0 = .ok (.aload_n 0, 1) := by decide +kernel
theorem dX9_latest_1 : decode cX9_latest 1 = .ok (.iload_n 1, 1) := by decide +kernel
theorem dX9_latest_2 : decode cX9_latest 2 = .ok (.invokevirtual 142, 3) := by decide +kernel
theorem dX9_latest_5 : decode cX9_latest 5 = .ok (.aload_n 0, 1) := by decide +kernel
theorem dX9_latest_6 : decode cX9_latest 6 = .ok (.getfield 45, 3) := by decide +kernel
theorem dX9_latest_9 : decode cX9_latest 9 = .ok (.iload_n 1, 1) := by decide +kernel
theorem dX9_latest_10 : decode cX9_latest 10 = .ok (.invokevirtual 318, 3) := by decide +kernel
theorem dX9_latest_13 : decode cX9_latest 13 = .ok (.ireturn, 1) := by decide +kernel
theorem dX9_goes_0 : decode cX9_goes 0 = .ok (.aload_n 0, 1) := by decide +kernel
theorem dX9_goes_1 : decode cX9_goes 1 = .ok (.iload_n 1, 1) := by decide +kernel
theorem dX9_goes_2 : decode cX9_goes 2 = .ok (.invokevirtual 177, 3) := by decide +kernel
theorem dX9_goes_5 : decode cX9_goes 5 = .ok (.astore_n 3, 1) := by decide +kernel
theorem dX9_goes_6 : decode cX9_goes 6 = .ok (.iload_n 2, 1) := by decide +kernel
theorem dX9_goes_7 : decode cX9_goes 7 = .ok (.ifCond .lt 8, 3) := by decide +kernel
theorem dX9_goes_10 : decode cX9_goes 10 = .ok (.iload_n 2, 1) := by decide +kernel
theorem dX9_goes_11 : decode cX9_goes 11 = .ok (.iconst 4, 1) := by decide +kernel
theorem dX9_goes_12 : decode cX9_goes 12 = .ok (.if_icmp .le 14, 3) := by decide +kernel
theorem dX9_goes_15 : decode cX9_goes 15 = .ok (.new 137, 3) := by decide +kernel
theorem dX9_goes_18 : decode cX9_goes 18 = .ok (.dup, 1) := by decide +kernel
theorem dX9_goes_19 : decode cX9_goes 19 = .ok (.ldc_w 321, 3) := by decide +kernel
theorem dX9_goes_22 : decode cX9_goes 22 = .ok (.invokespecial 141, 3) := by decide +kernel
theorem dX9_goes_25 : decode cX9_goes 25 = .ok (.athrow, 1) := by decide +kernel
theorem dX9_goes_26 : decode cX9_goes 26 = .ok (.aload_n 3, 1) := by decide +kernel
theorem dX9_goes_27 : decode cX9_goes 27 = .ok (.invokevirtual 323, 3) := by decide +kernel
theorem dX9_goes_30 : decode cX9_goes 30 = .ok (.ifCond .ne 5, 3) := by decide +kernel
theorem dX9_goes_33 : decode cX9_goes 33 = .ok (.iconst 0, 1) := by decide +kernel
theorem dX9_goes_34 : decode cX9_goes 34 = .ok (.ireturn, 1) := by decide +kernel
theorem dX9_goes_35 : decode cX9_goes 35 = .ok (.iload_n 2, 1) := by decide +kernel
theorem dX9_goes_36 : decode cX9_goes 36 = .ok (.iconst 3, 1) := by decide +kernel
theorem dX9_goes_37 : decode cX9_goes 37 = .ok (.if_icmp .ne 14, 3) := by decide +kernel
theorem dX9_goes_40 : decode cX9_goes 40 = .ok (.aload_n 0, 1) := by decide +kernel
theorem dX9_goes_41 : decode cX9_goes 41 = .ok (.getfield 45, 3) := by decide +kernel
theorem dX9_goes_44 : decode cX9_goes 44 = .ok (.iconst 1, 1) := by decide +kernel
theorem dX9_goes_45 : decode cX9_goes 45 = .ok (.iload_n 1, 1) := by decide +kernel
theorem dX9_goes_46 : decode cX9_goes 46 = .ok (.ishl, 1) := by decide +kernel
theorem dX9_goes_47 : decode cX9_goes 47 = .ok (.invokevirtual 326, 3) := by decide +kernel
theorem dX9_goes_50 : decode cX9_goes 50 = .ok (.ireturn, 1) := by decide +kernel
theorem dX9_goes_51 : decode cX9_goes 51 = .ok (.iload_n 2, 1) := by decide +kernel
theorem dX9_goes_52 : decode cX9_goes 52 = .ok (.iconst 4, 1) := by decide +kernel
theorem dX9_goes_53 : decode cX9_goes 53 = .ok (.if_icmp .ne 14, 3) := by decide +kernel
theorem dX9_goes_56 : decode cX9_goes 56 = .ok (.aload_n 0, 1) := by decide +kernel
theorem dX9_goes_57 : decode cX9_goes 57 = .ok (.getfield 45, 3) := by decide +kernel
theorem dX9_goes_60 : decode cX9_goes 60 = .ok (.iload_n 1, 1) := by decide +kernel
theorem dX9_goes_61 : decode cX9_goes 61 = .ok (.invokevirtual 329, 3) := by decide +kernel
theorem dX9_goes_64 : decode cX9_goes 64 = .ok (.goto 12, 3) := by decide +kernel
theorem dX9_goes_67 : decode cX9_goes 67 = .ok (.aload_n 0, 1) := by decide +kernel
theorem dX9_goes_68 : decode cX9_goes 68 = .ok (.getfield 45, 3) := by decide +kernel
theorem dX9_goes_71 : decode cX9_goes 71 = .ok (.aload_n 3, 1) := by decide +kernel
theorem dX9_goes_72 : decode cX9_goes 72 = .ok (.iload_n 2, 1) := by decide +kernel
theorem dX9_goes_73 : decode cX9_goes 73 = .ok (.invokevirtual 332, 3) := by decide +kernel
theorem dX9_goes_76 : decode cX9_goes 76 = .ok (.ireturn, 1) := by decide +kernel
theorem dX9_would_0 : decode cX9_would 0 = .ok (.iload_n 1, 1) := by decide +kernel
theorem dX9_would_1 : decode cX9_would 1 = .ok (.ifCond .lt 14, 3) := by decide +kernel
theorem dX9_would_4 : decode cX9_would 4 = .ok (.iload 6, 2) := by decide +kernel
theorem dX9_would_6 : decode cX9_would 6 = .ok (.ifCond .lt 9, 3) := by decide +kernel
theorem dX9_would_9 : decode cX9_would 9 = .ok (.iload 6, 2) := by decide +kernel
theorem dX9_would_11 : decode cX9_would 11 = .ok (.iconst 2, 1) := by decide +kernel
theorem dX9_would_12 : decode cX9_would 12 = .ok (.if_icmp .le 14, 3) := by decide +kernel
theorem dX9_would_15 : decode cX9_would 15 = .ok (.new 137, 3) := by decide +kernel
theorem dX9_would_18 : decode cX9_would 18 = .ok (.dup, 1) := by decide +kernel
theorem dX9_would_19 : decode cX9_would 19 = .ok (.ldc_w 335, 3) := by decide +kernel
theorem dX9_would_22 : decode cX9_would 22 = .ok (.invokespecial 141, 3) := by decide +kernel
theorem dX9_would_25 : decode cX9_would 25 = .ok (.athrow, 1) := by decide +kernel
theorem dX9_would_26 : decode cX9_would 26 = .ok (.aload_n 0, 1) := by decide +kernel
theorem dX9_would_27 : decode cX9_would 27 = .ok (.getfield 77, 3) := by decide +kernel
theorem dX9_would_30 : decode cX9_would 30 = .ok (.iload_n 1, 1) := by decide +kernel
theorem dX9_would_31 : decode cX9_would 31 = .ok (.bipush 12, 2) := by decide +kernel
theorem dX9_would_33 : decode cX9_would 33 = .ok (.idiv, 1) := by decide +kernel
theorem dX9_would_34 : decode cX9_would 34 = .ok (.putfield 181, 3) := by decide +kernel
theorem dX9_would_37 : decode cX9_would 37 = .ok (.aload_n 0, 1) := by decide +kernel
theorem dX9_would_38 : decode cX9_would 38 = .ok (.getfield 77, 3) := by decide +kernel
theorem dX9_would_41 : decode cX9_would 41 = .ok (.iload_n 1, 1) := by decide +kernel
theorem dX9_would_42 : decode cX9_would 42 = .ok (.bipush 12, 2) := by decide +kernel
theorem dX9_would_44 : decode cX9_would 44 = .ok (.irem, 1) := by decide +kernel
theorem dX9_would_45 : decode cX9_would 45 = .ok (.putfield 184, 3) := by decide +kernel
theorem dX9_would_48 : decode cX9_would 48 = .ok (.aload_n 0, 1) := by decide +kernel
theorem dX9_would_49 : decode cX9_would 49 = .ok (.aload_n 0, 1) := by decide +kernel
theorem dX9_would_50 : decode cX9_would 50 = .ok (.getfield 77, 3) := by decide +kernel
theorem dX9_would_53 : decode cX9_would 53 = .ok (.getfield 181, 3) := by decide +kernel
theorem dX9_would_56 : decode cX9_would 56 = .ok (.aload_n 0, 1) := by decide +kernel
theorem dX9_would_57 : decode cX9_would 57 = .ok (.getfield 77, 3) := by decide +kernel
theorem dX9_would_60 : decode cX9_would 60 = .ok (.getfield 184, 3) := by decide +kernel
theorem dX9_would_63 : decode cX9_would 63 = .ok (.invokevirtual 337, 3) := by decide +kernel
theorem dX9_would_66 : decode cX9_would 66 = .ok (.iload 4, 2) := by decide +kernel
theorem dX9_would_68 : decode cX9_would 68 = .ok (.iload 5, 2) := by decide +kernel
theorem dX9_would_70 : decode cX9_would 70 = .ok (.iand, 1) := by decide +kernel
theorem dX9_would_71 : decode cX9_would 71 = .ok (.ifCond .ne 24, 3) := by decide +kernel
theorem dX9_would_74 : decode cX9_would 74 = .ok (.iload_n 3, 1) := by decide +kernel
theorem dX9_would_75 : decode cX9_would 75 = .ok (.ifCond .lt 20, 3) := by decide +kernel
theorem dX9_would_78 : decode cX9_would 78 = .ok (.iload 4, 2) := by decide +kernel
theorem dX9_would_80 : decode cX9_would 80 = .ok (.ifCond .lt 15, 3) := by decide +kernel
theorem dX9_would_83 : decode cX9_would 83 = .ok (.iload 5, 2) := by decide +kernel
theorem dX9_would_85 : decode cX9_would 85 = .ok (.ifCond .lt 10, 3) := by decide +kernel
theorem dX9_would_88 : decode cX9_would 88 = .ok (.iload_n 2, 1) := by decide +kernel
theorem dX9_would_89 : decode cX9_would 89 = .ok (.invokestatic 341, 3) := by decide +kernel
theorem dX9_would_92 : decode cX9_would 92 = .ok (.ifCond .ne 14, 3) := by decide +kernel
theorem dX9_would_95 : decode cX9_would 95 = .ok (.new 92, 3) := by decide +kernel
theorem dX9_would_98 : decode cX9_would 98 = .ok (.dup, 1) := by decide +kernel
theorem dX9_would_99 : decode cX9_would 99 = .ok (.ldc_w 345, 3) := by decide +kernel
theorem dX9_would_102 : decode cX9_would 102 = .ok (.invokespecial 96, 3) := by decide +kernel
theorem dX9_would_105 : decode cX9_would 105 = .ok (.athrow, 1) := by decide +kernel
theorem dX9_would_106 : decode cX9_would 106 = .ok (.aload_n 0, 1) := by decide +kernel
theorem dX9_would_107 : decode cX9_would 107 = .ok (.getfield 77, 3) := by decide +kernel
theorem dX9_would_110 : decode cX9_would 110 = .ok (.iload_n 2, 1) := by decide +kernel
theorem dX9_would_111 : decode cX9_would 111 = .ok (.putfield 187, 3) := by decide +kernel
theorem dX9_would_114 : decode cX9_would 114 = .ok (.aload_n 0, 1) := by decide +kernel
theorem dX9_would_115 : decode cX9_would 115 = .ok (.getfield 77, 3) := by decide +kernel
theorem dX9_would_118 : decode cX9_would 118 = .ok (.iload_n 3, 1) := by decide +kernel
theorem dX9_would_119 : decode cX9_would 119 = .ok (.putfield 190, 3) := by decide +kernel
theorem dX9_would_122 : decode cX9_would 122 = .ok (.aload_n 0, 1) := by decide +kernel
theorem dX9_would_123 : decode cX9_would 123 = .ok (.getfield 77, 3) := by decide +kernel
theorem dX9_would_126 : decode cX9_would 126 = .ok (.iload 4, 2) := by decide +kernel
theorem dX9_would_128 : decode cX9_would 128 = .ok (.putfield 193, 3) := by decide +kernel
theorem dX9_would_131 : decode cX9_would 131 = .ok (.aload_n 0, 1) := by decide +kernel
theorem dX9_would_132 : decode cX9_would 132 = .ok (.getfield 77, 3) := by decide +kernel
theorem dX9_would_135 : decode cX9_would 135 = .ok (.iload 5, 2) := by decide +kernel
theorem dX9_would_137 : decode cX9_would 137 = .ok (.putfield 196, 3) := by decide +kernel
theorem dX9_would_140 : decode cX9_would 140 = .ok (.iload 6, 2) := by decide +kernel
theorem dX9_would_142 : decode cX9_would 142 = .ok (.ifCond .ne 15, 3) := by decide +kernel
theorem dX9_would_145 : decode cX9_would 145 = .ok (.aload_n 0, 1) := by decide +kernel
theorem dX9_would_146 : decode cX9_would 146 = .ok (.getfield 45, 3) := by decide +kernel
theorem dX9_would_149 : decode cX9_would 149 = .ok (.aload_n 0, 1) := by decide +kernel
theorem dX9_would_150 : decode cX9_would 150 = .ok (.getfield 77, 3) := by decide +kernel
theorem dX9_would_153 : decode cX9_would 153 = .ok (.invokevirtual 252, 3) := by decide +kernel
theorem dX9_would_156 : decode cX9_would 156 = .ok (.ireturn, 1) := by decide +kernel
theorem dX9_would_157 : decode cX9_would 157 = .ok (.iload 6, 2) := by decide +kernel
theorem dX9_would_159 : decode cX9_would 159 = .ok (.iconst 1, 1) := by decide +kernel
theorem dX9_would_160 : decode cX9_would 160 = .ok (.if_icmp .ne 17, 3) := by decide +kernel
theorem dX9_would_163 : decode cX9_would 163 = .ok (.aload_n 0, 1) := by decide +kernel
theorem dX9_would_164 : decode cX9_would 164 = .ok (.getfield 45, 3) := by decide +kernel
theorem dX9_would_167 : decode cX9_would 167 = .ok (.aload_n 0, 1) := by decide +kernel
theorem dX9_would_168 : decode cX9_would 168 = .ok (.getfield 77, 3) := by decide +kernel
theorem dX9_would_171 : decode cX9_would 171 = .ok (.invokevirtual 293, 3) := by decide +kernel
theorem dX9_would_174 : decode cX9_would 174 = .ok (.goto 14, 3) := by decide +kernel
theorem dX9_would_177 : decode cX9_would 177 = .ok (.aload_n 0, 1) := by decide +kernel
theorem dX9_would_178 : decode cX9_would 178 = .ok (.getfield 45, 3) := by decide +kernel
theorem dX9_would_181 : decode cX9_would 181 = .ok (.aload_n 0, 1) := by decide +kernel
theorem dX9_would_182 : decode cX9_would 182 = .ok (.getfield 77, 3) := by decide +kernel
theorem dX9_would_185 : decode cX9_would 185 = .ok (.invokevirtual 299, 3) := by decide +kernel
theorem dX9_would_188 : decode cX9_would 188 = .ok (.ireturn, 1) := by decide +kernel
theorem dX9_freeTill_0 : decode cX9_freeTill 0 = .ok (.aload_n 0, 1) := by decide +kernel
theorem dX9_freeTill_1 : decode cX9_freeTill 1 = .ok (.getfield 45, 3) := by decide +kernel
theorem dX9_freeTill_4 : decode cX9_freeTill 4 = .ok (.aload_n 0, 1) := by decide +kernel
theorem dX9_freeTill_5 : decode cX9_freeTill 5 = .ok (.iload_n 1, 1) := by decide +kernel
theorem dX9_freeTill_6 : decode cX9_freeTill 6 = .ok (.invokevirtual 177, 3) := by decide +kernel
theorem dX9_freeTill_9 : decode cX9_freeTill 9 = .ok (.invokevirtual 347, 3) := by decide +kernel
theorem dX9_freeTill_12 : decode cX9_freeTill 12 = .ok (.ireturn, 1) := by decide +kernel
theorem dX9_against_0 : decode cX9_against 0 = .ok (.iload_n 1, 1) := by decide +kernel
theorem dX9_against_1 : decode cX9_against 1 = .ok (.ifCond .lt 9, 3) := by decide +kernel
theorem dX9_against_4 : decode cX9_against 4 = .ok (.iload_n 1, 1) := by decide +kernel
theorem dX9_against_5 : decode cX9_against 5 = .ok (.bipush 31, 2) := by decide +kernel
theorem dX9_against_7 : decode cX9_against 7 = .ok (.if_icmp .lt 14, 3) := by decide +kernel
theorem dX9_against_10 : decode cX9_against 10 = .ok (.new 137, 3) := by decide +kernel
theorem dX9_against_13 : decode cX9_against 13 = .ok (.dup, 1) := by decide +kernel
theorem dX9_against_14 : decode cX9_against 14 = .ok (.ldc_w 350, 3) := by decide +kernel
theorem dX9_against_17 : decode cX9_against 17 = .ok (.invokespecial 141, 3) := by decide +kernel
theorem dX9_against_20 : decode cX9_against 20 = .ok (.athrow, 1) := by decide +kernel
theorem dX9_against_21 : decode cX9_against 21 = .ok (.aload_n 0, 1) := by decide +kernel
theorem dX9_against_22 : decode cX9_against 22 = .ok (.getfield 45, 3) := by decide +kernel
theorem dX9_against_25 : decode cX9_against 25 = .ok (.iload_n 1, 1) := by decide +kernel
theorem dX9_against_26 : decode cX9_against 26 = .ok (.invokevirtual 352, 3) := by decide +kernel
theorem dX9_against_29 : decode cX9_against 29 = .ok (.ireturn, 1) := by decide +kernel
theorem dX9_judge_0 : decode cX9_judge 0 = .ok (.aload_n 0, 1) := by decide +kernel
theorem dX9_judge_1 : decode cX9_judge 1 = .ok (.iload_n 1, 1) := by decide +kernel
theorem dX9_judge_2 : decode cX9_judge 2 = .ok (.invokevirtual 177, 3) := by decide +kernel
theorem dX9_judge_5 : decode cX9_judge 5 = .ok (.astore 4, 2) := by decide +kernel
theorem dX9_judge_7 : decode cX9_judge 7 = .ok (.iload_n 2, 1) := by decide +kernel
theorem dX9_judge_8 : decode cX9_judge 8 = .ok (.aload 4, 2) := by decide +kernel
theorem dX9_judge_10 : decode cX9_judge 10 = .ok (.getfield 187, 3) := by decide +kernel
theorem dX9_judge_13 : decode cX9_judge 13 = .ok (.if_icmp .lt 10, 3) := by decide +kernel
theorem dX9_judge_16 : decode cX9_judge 16 = .ok (.iload_n 2, 1) := by decide +kernel
theorem dX9_judge_17 : decode cX9_judge 17 = .ok (.sipush 9999, 3) := by decide +kernel
theorem dX9_judge_20 : decode cX9_judge 20 = .ok (.if_icmp .le 14, 3) := by decide +kernel
theorem dX9_judge_23 : decode cX9_judge 23 = .ok (.new 92, 3) := by decide +kernel
theorem dX9_judge_26 : decode cX9_judge 26 = .ok (.dup, 1) := by decide +kernel
theorem dX9_judge_27 : decode cX9_judge 27 = .ok (.ldc_w 355, 3) := by decide +kernel
theorem dX9_judge_30 : decode cX9_judge 30 = .ok (.invokespecial 96, 3) := by decide +kernel
theorem dX9_judge_33 : decode cX9_judge 33 = .ok (.athrow, 1) := by decide +kernel
theorem dX9_judge_34 : decode cX9_judge 34 = .ok (.aload 4, 2) := by decide +kernel
theorem dX9_judge_36 : decode cX9_judge 36 = .ok (.invokevirtual 357, 3) := by decide +kernel
theorem dX9_judge_39 : decode cX9_judge 39 = .ok (.ifCond .eq 5, 3) := by decide +kernel
theorem dX9_judge_42 : decode cX9_judge 42 = .ok (.iconst 0, 1) := by decide +kernel
theorem dX9_judge_43 : decode cX9_judge 43 = .ok (.ireturn, 1) := by decide +kernel
theorem dX9_judge_44 : decode cX9_judge 44 = .ok (.aload_n 0, 1) := by decide +kernel
theorem dX9_judge_45 : decode cX9_judge 45 = .ok (.getfield 61, 3) := by decide +kernel
theorem dX9_judge_48 : decode cX9_judge 48 = .ok (.iconst 0, 1) := by decide +kernel
theorem dX9_judge_49 : decode cX9_judge 49 = .ok (.iload_n 1, 1) := by decide +kernel
theorem dX9_judge_50 : decode cX9_judge 50 = .ok (.iconst 0, 1) := by decide +kernel
theorem dX9_judge_51 : decode cX9_judge 51 = .ok (.iconst 0, 1) := by decide +kernel
theorem dX9_judge_52 : decode cX9_judge 52 = .ok (.iconst 0, 1) := by decide +kernel
theorem dX9_judge_53 : decode cX9_judge 53 = .ok (.iconst 0, 1) := by decide +kernel
theorem dX9_judge_54 : decode cX9_judge 54 = .ok (.invokevirtual 360, 3) := by decide +kernel
theorem dX9_judge_57 : decode cX9_judge 57 = .ok (.aload 4, 2) := by decide +kernel
theorem dX9_judge_59 : decode cX9_judge 59 = .ok (.iload_n 2, 1) := by decide +kernel
theorem dX9_judge_60 : decode cX9_judge 60 = .ok (.iload_n 3, 1) := by decide +kernel
theorem dX9_judge_61 : decode cX9_judge 61 = .ok (.invokevirtual 364, 3) := by decide +kernel
theorem dX9_judge_64 : decode cX9_judge 64 = .ok (.aload_n 0, 1) := by decide +kernel
theorem dX9_judge_65 : decode cX9_judge 65 = .ok (.getfield 45, 3) := by decide +kernel
theorem dX9_judge_68 : decode cX9_judge 68 = .ok (.invokevirtual 368, 3) := by decide +kernel
theorem dX9_judge_71 : decode cX9_judge 71 = .ok (.iconst 1, 1) := by decide +kernel
theorem dX9_judge_72 : decode cX9_judge 72 = .ok (.ireturn, 1) := by decide +kernel
theorem dX9_find_0 : decode cX9_find 0 = .ok (.aload_n 0, 1) := by decide +kernel
theorem dX9_find_1 : decode cX9_find 1 = .ok (.iload_n 1, 1) := by decide +kernel
theorem dX9_find_2 : decode cX9_find 2 = .ok (.invokevirtual 177, 3) := by decide +kernel
theorem dX9_find_5 : decode cX9_find 5 = .ok (.astore 5, 2) := by decide +kernel
theorem dX9_find_7 : decode cX9_find 7 = .ok (.aload_n 0, 1) := by decide +kernel
theorem dX9_find_8 : decode cX9_find 8 = .ok (.aload 5, 2) := by decide +kernel
theorem dX9_find_10 : decode cX9_find 10 = .ok (.iload_n 2, 1) := by decide +kernel
theorem dX9_find_11 : decode cX9_find 11 = .ok (.invokevirtual 271, 3) := by decide +kernel
theorem dX9_find_14 : decode cX9_find 14 = .ok (.iload_n 3, 1) := by decide +kernel
theorem dX9_find_15 : decode cX9_find 15 = .ok (.iconst (-1), 1) := by decide +kernel
theorem dX9_find_16 : decode cX9_find 16 = .ok (.if_icmp .lt 8, 3) := by decide +kernel
theorem dX9_find_19 : decode cX9_find 19 = .ok (.iload_n 3, 1) := by decide +kernel
theorem dX9_find_20 : decode cX9_find 20 = .ok (.iconst 1, 1) := by decide +kernel
theorem dX9_find_21 : decode cX9_find 21 = .ok (.if_icmp .le 14, 3) := by decide +kernel
theorem dX9_find_24 : decode cX9_find 24 = .ok (.new 92, 3) := by decide +kernel
theorem dX9_find_27 : decode cX9_find 27 = .ok (.dup, 1) := by decide +kernel
theorem dX9_find_28 : decode cX9_find 28 = .ok (.ldc_w 371, 3) := by decide +kernel
theorem dX9_find_31 : decode cX9_find 31 = .ok (.invokespecial 96, 3) := by decide +kernel
theorem dX9_find_34 : decode cX9_find 34 = .ok (.athrow, 1) := by decide +kernel
theorem dX9_find_35 : decode cX9_find 35 = .ok (.aload 5, 2) := by decide +kernel
theorem dX9_find_37 : decode cX9_find 37 = .ok (.invokevirtual 357, 3) := by decide +kernel
theorem dX9_find_40 : decode cX9_find 40 = .ok (.ifCond .ne 5, 3) := by decide +kernel
theorem dX9_find_43 : decode cX9_find 43 = .ok (.iconst (-1), 1) := by decide +kernel
theorem dX9_find_44 : decode cX9_find 44 = .ok (.ireturn, 1) := by decide +kernel
theorem dX9_find_45 : decode cX9_find 45 = .ok (.aload 5, 2) := by decide +kernel
theorem dX9_find_47 : decode cX9_find 47 = .ok (.iload_n 2, 1) := by decide +kernel
theorem dX9_find_48 : decode cX9_find 48 = .ok (.invokevirtual 373, 3) := by decide +kernel
theorem dX9_find_51 : decode cX9_find 51 = .ok (.istore 6, 2) := by decide +kernel
theorem dX9_find_53 : decode cX9_find 53 = .ok (.aload_n 0, 1) := by decide +kernel
theorem dX9_find_54 : decode cX9_find 54 = .ok (.getfield 61, 3) := by decide +kernel
theorem dX9_find_57 : decode cX9_find 57 = .ok (.iconst 1, 1) := by decide +kernel
theorem dX9_find_58 : decode cX9_find 58 = .ok (.iload_n 1, 1) := by decide +kernel
theorem dX9_find_59 : decode cX9_find 59 = .ok (.aload 5, 2) := by decide +kernel
theorem dX9_find_61 : decode cX9_find 61 = .ok (.getfield 208, 3) := by decide +kernel
theorem dX9_find_64 : decode cX9_find 64 = .ok (.aload 5, 2) := by decide +kernel
theorem dX9_find_66 : decode cX9_find 66 = .ok (.getfield 211, 3) := by decide +kernel
theorem dX9_find_69 : decode cX9_find 69 = .ok (.aload 5, 2) := by decide +kernel
theorem dX9_find_71 : decode cX9_find 71 = .ok (.getfield 214, 3) := by decide +kernel
theorem dX9_find_74 : decode cX9_find 74 = .ok (.iconst 0, 1) := by decide +kernel
theorem dX9_find_75 : decode cX9_find 75 = .ok (.invokevirtual 360, 3) := by decide +kernel
theorem dX9_find_78 : decode cX9_find 78 = .ok (.aload 5, 2) := by decide +kernel
theorem dX9_find_80 : decode cX9_find 80 = .ok (.iload_n 2, 1) := by decide +kernel
theorem dX9_find_81 : decode cX9_find 81 = .ok (.iload_n 3, 1) := by decide +kernel
theorem dX9_find_82 : decode cX9_find 82 = .ok (.iload 4, 2) := by decide +kernel
theorem dX9_find_84 : decode cX9_find 84 = .ok (.invokevirtual 376, 3) := by decide +kernel
theorem dX9_find_87 : decode cX9_find 87 = .ok (.aload_n 0, 1) := by decide +kernel
theorem dX9_find_88 : decode cX9_find 88 = .ok (.getfield 45, 3) := by decide +kernel
theorem dX9_find_91 : decode cX9_find 91 = .ok (.invokevirtual 368, 3) := by decide +kernel
theorem dX9_find_94 : decode cX9_find 94 = .ok (.iload 6, 2) := by decide +kernel
theorem dX9_find_96 : decode cX9_find 96 = .ok (.ireturn, 1) := by decide +kernel
theorem dX9_reverse_0 : decode cX9_reverse 0 = .ok (.aload_n 0, 1) := by decide +kernel
theorem dX9_reverse_1 : decode cX9_reverse 1 = .ok (.iload_n 1, 1) := by decide +kernel
theorem dX9_reverse_2 : decode cX9_reverse 2 = .ok (.invokevirtual 177, 3) := by decide +kernel
theorem dX9_reverse_5 : decode cX9_reverse 5 = .ok (.astore_n 2, 1) := by decide +kernel
theorem dX9_reverse_6 : decode cX9_reverse 6 = .ok (.aload_n 2, 1) := by decide +kernel
theorem dX9_reverse_7 : decode cX9_reverse 7 = .ok (.invokevirtual 357, 3) := by decide +kernel
theorem dX9_reverse_10 : decode cX9_reverse 10 = .ok (.ifCond .ne 5, 3) := by decide +kernel
theorem dX9_reverse_13 : decode cX9_reverse 13 = .ok (.iconst 0, 1) := by decide +kernel
theorem dX9_reverse_14 : decode cX9_reverse 14 = .ok (.ireturn, 1) := by decide +kernel
theorem dX9_reverse_15 : decode cX9_reverse 15 = .ok (.aload_n 0, 1) := by decide +kernel
theorem dX9_reverse_16 : decode cX9_reverse 16 = .ok (.getfield 61, 3) := by decide +kernel
theorem dX9_reverse_19 : decode cX9_reverse 19 = .ok (.iconst 2, 1) := by decide +kernel
theorem dX9_reverse_20 : decode cX9_reverse 20 = .ok (.iload_n 1, 1) := by decide +kernel
theorem dX9_reverse_21 : decode cX9_reverse 21 = .ok (.iconst 0, 1) := by decide +kernel
theorem dX9_reverse_22 : decode cX9_reverse 22 = .ok (.iconst 0, 1) := by decide +kernel
theorem dX9_reverse_23 : decode cX9_reverse 23 = .ok (.iconst 0, 1) := by decide +kernel
theorem dX9_reverse_24 : decode cX9_reverse 24 = .ok (.iconst 0, 1) := by decide +kernel
theorem dX9_reverse_25 : decode cX9_reverse 25 = .ok (.invokevirtual 360, 3) := by decide +kernel
theorem dX9_reverse_28 : decode cX9_reverse 28 = .ok (.aload_n 2, 1) := by decide +kernel
theorem dX9_reverse_29 : decode cX9_reverse 29 = .ok (.aload_n 2, 1) := by decide +kernel
theorem dX9_reverse_30 : decode cX9_reverse 30 = .ok (.getfield 205, 3) := by decide +kernel
theorem dX9_reverse_33 : decode cX9_reverse 33 = .ok (.ifCond .ne 7, 3) := by decide +kernel
theorem dX9_reverse_36 : decode cX9_reverse 36 = .ok (.iconst 1, 1) := by decide +kernel
theorem dX9_reverse_37 : decode cX9_reverse 37 = .ok (.goto 4, 3) := by decide +kernel
theorem dX9_reverse_40 : decode cX9_reverse 40 = .ok (.iconst 0, 1) := by decide +kernel
theorem dX9_reverse_41 : decode cX9_reverse 41 = .ok (.putfield 205, 3) := by decide +kernel
theorem dX9_reverse_44 : decode cX9_reverse 44 = .ok (.aload_n 0, 1) := by decide +kernel
theorem dX9_reverse_45 : decode cX9_reverse 45 = .ok (.getfield 45, 3) := by decide +kernel
theorem dX9_reverse_48 : decode cX9_reverse 48 = .ok (.invokevirtual 368, 3) := by decide +kernel
theorem dX9_reverse_51 : decode cX9_reverse 51 = .ok (.aload_n 2, 1) := by decide +kernel
theorem dX9_reverse_52 : decode cX9_reverse 52 = .ok (.getfield 205, 3) := by decide +kernel
theorem dX9_reverse_55 : decode cX9_reverse 55 = .ok (.ireturn, 1) := by decide +kernel
theorem dX9_tie_0 : decode cX9_tie 0 = .ok (.aload_n 0, 1) := by decide +kernel
theorem dX9_tie_1 : decode cX9_tie 1 = .ok (.iload_n 1, 1) := by decide +kernel
theorem dX9_tie_2 : decode cX9_tie 2 = .ok (.iload_n 2, 1) := by decide +kernel
theorem dX9_tie_3 : decode cX9_tie 3 = .ok (.invokevirtual 337, 3) := by decide +kernel
theorem dX9_tie_6 : decode cX9_tie 6 = .ok (.iload 4, 2) := by decide +kernel
theorem dX9_tie_8 : decode cX9_tie 8 = .ok (.iconst (-1), 1) := by decide +kernel
theorem dX9_tie_9 : decode cX9_tie 9 = .ok (.if_icmp .eq 17, 3) := by decide +kernel
theorem dX9_tie_12 : decode cX9_tie 12 = .ok (.iload 4, 2) := by decide +kernel
theorem dX9_tie_14 : decode cX9_tie 14 = .ok (.iload_n 3, 1) := by decide +kernel
theorem dX9_tie_15 : decode cX9_tie 15 = .ok (.if_icmp .lt 15, 3) := by decide +kernel
theorem dX9_tie_18 : decode cX9_tie 18 = .ok (.iload 4, 2) := by decide +kernel
theorem dX9_tie_20 : decode cX9_tie 20 = .ok (.invokestatic 341, 3) := by decide +kernel
theorem dX9_tie_23 : decode cX9_tie 23 = .ok (.ifCond .eq 7, 3) := by decide +kernel
theorem dX9_tie_26 : decode cX9_tie 26 = .ok (.iconst 1, 1) := by decide +kernel
theorem dX9_tie_27 : decode cX9_tie 27 = .ok (.goto 4, 3) := by decide +kernel
theorem dX9_tie_30 : decode cX9_tie 30 = .ok (.iconst 0, 1) := by decide +kernel
theorem dX9_tie_31 : decode cX9_tie 31 = .ok (.istore 5, 2) := by decide +kernel
theorem dX9_tie_33 : decode cX9_tie 33 = .ok (.iload_n 3, 1) := by decide +kernel
theorem dX9_tie_34 : decode cX9_tie 34 = .ok (.invokestatic 341, 3) := by decide +kernel
theorem dX9_tie_37 : decode cX9_tie 37 = .ok (.ifCond .eq 8, 3) := by decide +kernel
theorem dX9_tie_40 : decode cX9_tie 40 = .ok (.iload 5, 2) := by decide +kernel
theorem dX9_tie_42 : decode cX9_tie 42 = .ok (.ifCond .ne 14, 3) := by decide +kernel
theorem dX9_tie_45 : decode cX9_tie 45 = .ok (.new 92, 3) := by decide +kernel
theorem dX9_tie_48 : decode cX9_tie 48 = .ok (.dup, 1) := by decide +kernel
theorem dX9_tie_49 : decode cX9_tie 49 = .ok (.ldc_w 380, 3) := by decide +kernel
theorem dX9_tie_52 : decode cX9_tie 52 = .ok (.invokespecial 96, 3) := by decide +kernel
theorem dX9_tie_55 : decode cX9_tie 55 = .ok (.athrow, 1) := by decide +kernel
theorem dX9_tie_56 : decode cX9_tie 56 = .ok (.aload_n 0, 1) := by decide +kernel
theorem dX9_tie_57 : decode cX9_tie 57 = .ok (.getfield 21, 3) := by decide +kernel
theorem dX9_tie_60 : decode cX9_tie 60 = .ok (.getfield 117, 3) := by decide +kernel
theorem dX9_tie_63 : decode cX9_tie 63 = .ok (.bipush 24, 2) := by decide +kernel
theorem dX9_tie_65 : decode cX9_tie 65 = .ok (.if_icmp .lt 5, 3) := by decide +kernel
theorem dX9_tie_68 : decode cX9_tie 68 = .ok (.iconst (-1), 1) := by decide +kernel
theorem dX9_tie_69 : decode cX9_tie 69 = .ok (.ireturn, 1) := by decide +kernel
theorem dX9_tie_70 : decode cX9_tie 70 = .ok (.aload_n 0, 1) := by decide +kernel
theorem dX9_tie_71 : decode cX9_tie 71 = .ok (.getfield 21, 3) := by decide +kernel
theorem dX9_tie_74 : decode cX9_tie 74 = .ok (.getfield 117, 3) := by decide +kernel
theorem dX9_tie_77 : decode cX9_tie 77 = .ok (.istore 6, 2) := by decide +kernel
theorem dX9_tie_79 : decode cX9_tie 79 = .ok (.aload_n 0, 1) := by decide +kernel
theorem dX9_tie_80 : decode cX9_tie 80 = .ok (.getfield 61, 3) := by decide +kernel
theorem dX9_tie_83 : decode cX9_tie 83 = .ok (.iconst 3, 1) := by decide +kernel
theorem dX9_tie_84 : decode cX9_tie 84 = .ok (.iload 6, 2) := by decide +kernel
theorem dX9_tie_86 : decode cX9_tie 86 = .ok (.iconst 0, 1) := by decide +kernel
theorem dX9_tie_87 : decode cX9_tie 87 = .ok (.iconst 0, 1) := by decide +kernel
theorem dX9_tie_88 : decode cX9_tie 88 = .ok (.iconst 0, 1) := by decide +kernel
theorem dX9_tie_89 : decode cX9_tie 89 = .ok (.iconst 0, 1) := by decide +kernel
theorem dX9_tie_90 : decode cX9_tie 90 = .ok (.invokevirtual 360, 3) := by decide +kernel
theorem dX9_tie_93 : decode cX9_tie 93 = .ok (.aload_n 0, 1) := by decide +kernel
theorem dX9_tie_94 : decode cX9_tie 94 = .ok (.getfield 21, 3) := by decide +kernel
theorem dX9_tie_97 : decode cX9_tie 97 = .ok (.iload 6, 2) := by decide +kernel
theorem dX9_tie_99 : decode cX9_tie 99 = .ok (.iload_n 1, 1) := by decide +kernel
theorem dX9_tie_100 : decode cX9_tie 100 = .ok (.iload_n 2, 1) := by decide +kernel
theorem dX9_tie_101 : decode cX9_tie 101 = .ok (.iload_n 3, 1) := by decide +kernel
theorem dX9_tie_102 : decode cX9_tie 102 = .ok (.iload 4, 2) := by decide +kernel
theorem dX9_tie_104 : decode cX9_tie 104 = .ok (.invokevirtual 382, 3) := by decide +kernel
theorem dX9_tie_107 : decode cX9_tie 107 = .ok (.aload_n 0, 1) := by decide +kernel
theorem dX9_tie_108 : decode cX9_tie 108 = .ok (.getfield 45, 3) := by decide +kernel
theorem dX9_tie_111 : decode cX9_tie 111 = .ok (.invokevirtual 368, 3) := by decide +kernel
theorem dX9_tie_114 : decode cX9_tie 114 = .ok (.iload 6, 2) := by decide +kernel
theorem dX9_tie_116 : decode cX9_tie 116 = .ok (.ireturn, 1) := by decide +kernel
theorem dX9_cut_0 : decode cX9_cut 0 = .ok (.aload_n 0, 1) := by decide +kernel
theorem dX9_cut_1 : decode cX9_cut 1 = .ok (.iload_n 1, 1) := by decide +kernel
theorem dX9_cut_2 : decode cX9_cut 2 = .ok (.invokevirtual 150, 3) := by decide +kernel
theorem dX9_cut_5 : decode cX9_cut 5 = .ok (.aload_n 0, 1) := by decide +kernel
theorem dX9_cut_6 : decode cX9_cut 6 = .ok (.getfield 21, 3) := by decide +kernel
theorem dX9_cut_9 : decode cX9_cut 9 = .ok (.getfield 153, 3) := by decide +kernel
theorem dX9_cut_12 : decode cX9_cut 12 = .ok (.iload_n 1, 1) := by decide +kernel
theorem dX9_cut_13 : decode cX9_cut 13 = .ok (.aaload, 1) := by decide +kernel
theorem dX9_cut_14 : decode cX9_cut 14 = .ok (.astore_n 2, 1) := by decide +kernel
theorem dX9_cut_15 : decode cX9_cut 15 = .ok (.aload_n 0, 1) := by decide +kernel
theorem dX9_cut_16 : decode cX9_cut 16 = .ok (.getfield 61, 3) := by decide +kernel
theorem dX9_cut_19 : decode cX9_cut 19 = .ok (.iconst 4, 1) := by decide +kernel
theorem dX9_cut_20 : decode cX9_cut 20 = .ok (.iload_n 1, 1) := by decide +kernel
theorem dX9_cut_21 : decode cX9_cut 21 = .ok (.aload_n 2, 1) := by decide +kernel
theorem dX9_cut_22 : decode cX9_cut 22 = .ok (.getfield 157, 3) := by decide +kernel
theorem dX9_cut_25 : decode cX9_cut 25 = .ok (.aload_n 2, 1) := by decide +kernel
theorem dX9_cut_26 : decode cX9_cut 26 = .ok (.getfield 162, 3) := by decide +kernel
theorem dX9_cut_29 : decode cX9_cut 29 = .ok (.aload_n 2, 1) := by decide +kernel
theorem dX9_cut_30 : decode cX9_cut 30 = .ok (.getfield 169, 3) := by decide +kernel
theorem dX9_cut_33 : decode cX9_cut 33 = .ok (.aload_n 2, 1) := by decide +kernel
theorem dX9_cut_34 : decode cX9_cut 34 = .ok (.getfield 172, 3) := by decide +kernel
theorem dX9_cut_37 : decode cX9_cut 37 = .ok (.invokevirtual 360, 3) := by decide +kernel
theorem dX9_cut_40 : decode cX9_cut 40 = .ok (.aload_n 0, 1) := by decide +kernel
theorem dX9_cut_41 : decode cX9_cut 41 = .ok (.getfield 21, 3) := by decide +kernel
theorem dX9_cut_44 : decode cX9_cut 44 = .ok (.iload_n 1, 1) := by decide +kernel
theorem dX9_cut_45 : decode cX9_cut 45 = .ok (.invokevirtual 386, 3) := by decide +kernel
theorem dX9_cut_48 : decode cX9_cut 48 = .ok (.aload_n 0, 1) := by decide +kernel
theorem dX9_cut_49 : decode cX9_cut 49 = .ok (.getfield 45, 3) := by decide +kernel
theorem dX9_cut_52 : decode cX9_cut 52 = .ok (.invokevirtual 368, 3) := by decide +kernel
theorem dX9_cut_55 : decode cX9_cut 55 = .ok (.aload_n 0, 1) := by decide +kernel
theorem dX9_cut_56 : decode cX9_cut 56 = .ok (.getfield 21, 3) := by decide +kernel
theorem dX9_cut_59 : decode cX9_cut 59 = .ok (.getfield 117, 3) := by decide +kernel
theorem dX9_cut_62 : decode cX9_cut 62 = .ok (.ireturn, 1) := by decide +kernel
theorem dX9_rule_0 : decode cX9_rule 0 = .ok (.iload_n 1, 1) := by decide +kernel
theorem dX9_rule_1 : decode cX9_rule 1 = .ok (.ifCond .lt 8, 3) := by decide +kernel
theorem dX9_rule_4 : decode cX9_rule 4 = .ok (.iload_n 1, 1) := by decide +kernel
theorem dX9_rule_5 : decode cX9_rule 5 = .ok (.iconst 2, 1) := by decide +kernel
theorem dX9_rule_6 : decode cX9_rule 6 = .ok (.if_icmp .le 14, 3) := by decide +kernel
theorem dX9_rule_9 : decode cX9_rule 9 = .ok (.new 137, 3) := by decide +kernel
theorem dX9_rule_12 : decode cX9_rule 12 = .ok (.dup, 1) := by decide +kernel
theorem dX9_rule_13 : decode cX9_rule 13 = .ok (.ldc_w 389, 3) := by decide +kernel
theorem dX9_rule_16 : decode cX9_rule 16 = .ok (.invokespecial 141, 3) := by decide +kernel
theorem dX9_rule_19 : decode cX9_rule 19 = .ok (.athrow, 1) := by decide +kernel
theorem dX9_rule_20 : decode cX9_rule 20 = .ok (.iload_n 2, 1) := by decide +kernel
theorem dX9_rule_21 : decode cX9_rule 21 = .ok (.iload_n 1, 1) := by decide +kernel
theorem dX9_rule_22 : decode cX9_rule 22 = .ok (.invokestatic 391, 3) := by decide +kernel
theorem dX9_rule_25 : decode cX9_rule 25 = .ok (.if_icmp .lt 11, 3) := by decide +kernel
theorem dX9_rule_28 : decode cX9_rule 28 = .ok (.iload_n 2, 1) := by decide +kernel
theorem dX9_rule_29 : decode cX9_rule 29 = .ok (.iload_n 1, 1) := by decide +kernel
theorem dX9_rule_30 : decode cX9_rule 30 = .ok (.invokestatic 394, 3) := by decide +kernel
theorem dX9_rule_33 : decode cX9_rule 33 = .ok (.if_icmp .le 14, 3) := by decide +kernel
theorem dX9_rule_36 : decode cX9_rule 36 = .ok (.new 92, 3) := by decide +kernel
theorem dX9_rule_39 : decode cX9_rule 39 = .ok (.dup, 1) := by decide +kernel
theorem dX9_rule_40 : decode cX9_rule 40 = .ok (.ldc_w 397, 3) := by decide +kernel
theorem dX9_rule_43 : decode cX9_rule 43 = .ok (.invokespecial 96, 3) := by decide +kernel
theorem dX9_rule_46 : decode cX9_rule 46 = .ok (.athrow, 1) := by decide +kernel
theorem dX9_rule_47 : decode cX9_rule 47 = .ok (.aload_n 0, 1) := by decide +kernel
theorem dX9_rule_48 : decode cX9_rule 48 = .ok (.getfield 21, 3) := by decide +kernel
theorem dX9_rule_51 : decode cX9_rule 51 = .ok (.getfield 127, 3) := by decide +kernel
theorem dX9_rule_54 : decode cX9_rule 54 = .ok (.iload_n 1, 1) := by decide +kernel
theorem dX9_rule_55 : decode cX9_rule 55 = .ok (.iaload, 1) := by decide +kernel
theorem dX9_rule_56 : decode cX9_rule 56 = .ok (.istore_n 3, 1) := by decide +kernel
theorem dX9_rule_57 : decode cX9_rule 57 = .ok (.aload_n 0, 1) := by decide +kernel
theorem dX9_rule_58 : decode cX9_rule 58 = .ok (.getfield 61, 3) := by decide +kernel
theorem dX9_rule_61 : decode cX9_rule 61 = .ok (.iconst 5, 1) := by decide +kernel
theorem dX9_rule_62 : decode cX9_rule 62 = .ok (.iload_n 1, 1) := by decide +kernel
theorem dX9_rule_63 : decode cX9_rule 63 = .ok (.iload_n 3, 1) := by decide +kernel
theorem dX9_rule_64 : decode cX9_rule 64 = .ok (.iconst 0, 1) := by decide +kernel
theorem dX9_rule_65 : decode cX9_rule 65 = .ok (.iconst 0, 1) := by decide +kernel
theorem dX9_rule_66 : decode cX9_rule 66 = .ok (.iconst 0, 1) := by decide +kernel
theorem dX9_rule_67 : decode cX9_rule 67 = .ok (.invokevirtual 360, 3) := by decide +kernel
theorem dX9_rule_70 : decode cX9_rule 70 = .ok (.aload_n 0, 1) := by decide +kernel
theorem dX9_rule_71 : decode cX9_rule 71 = .ok (.getfield 21, 3) := by decide +kernel
theorem dX9_rule_74 : decode cX9_rule 74 = .ok (.getfield 127, 3) := by decide +kernel
theorem dX9_rule_77 : decode cX9_rule 77 = .ok (.iload_n 1, 1) := by decide +kernel
theorem dX9_rule_78 : decode cX9_rule 78 = .ok (.iload_n 2, 1) := by decide +kernel
theorem dX9_rule_79 : decode cX9_rule 79 = .ok (.iastore, 1) := by decide +kernel
theorem dX9_rule_80 : decode cX9_rule 80 = .ok (.aload_n 0, 1) := by decide +kernel
theorem dX9_rule_81 : decode cX9_rule 81 = .ok (.getfield 45, 3) := by decide +kernel
theorem dX9_rule_84 : decode cX9_rule 84 = .ok (.invokevirtual 368, 3) := by decide +kernel
theorem dX9_rule_87 : decode cX9_rule 87 = .ok (.iload_n 3, 1) := by decide +kernel
theorem dX9_rule_88 : decode cX9_rule 88 = .ok (.ireturn, 1) := by decide +kernel
theorem dX9_undo_0 : decode cX9_undo 0 = .ok (.aload_n 0, 1) := by decide +kernel
theorem dX9_undo_1 : decode cX9_undo 1 = .ok (.getfield 61, 3) := by decide +kernel
theorem dX9_undo_4 : decode cX9_undo 4 = .ok (.getfield 131, 3) := by decide +kernel
theorem dX9_undo_7 : decode cX9_undo 7 = .ok (.ifCond .ne 5, 3) := by decide +kernel
theorem dX9_undo_10 : decode cX9_undo 10 = .ok (.iconst (-1), 1) := by decide +kernel
theorem dX9_undo_11 : decode cX9_undo 11 = .ok (.ireturn, 1) := by decide +kernel
theorem dX9_undo_12 : decode cX9_undo 12 = .ok (.aload_n 0, 1) := by decide +kernel
theorem dX9_undo_13 : decode cX9_undo 13 = .ok (.getfield 61, 3) := by decide +kernel
theorem dX9_undo_16 : decode cX9_undo 16 = .ok (.aload_n 0, 1) := by decide +kernel
theorem dX9_undo_17 : decode cX9_undo 17 = .ok (.getfield 21, 3) := by decide +kernel
theorem dX9_undo_20 : decode cX9_undo 20 = .ok (.invokevirtual 399, 3) := by decide +kernel
theorem dX9_undo_23 : decode cX9_undo 23 = .ok (.aload_n 0, 1) := by decide +kernel
theorem dX9_undo_24 : decode cX9_undo 24 = .ok (.getfield 45, 3) := by decide +kernel
theorem dX9_undo_27 : decode cX9_undo 27 = .ok (.invokevirtual 368, 3) := by decide +kernel
theorem dX9_undo_30 : decode cX9_undo 30 = .ok (.aload_n 0, 1) := by decide +kernel
theorem dX9_undo_31 : decode cX9_undo 31 = .ok (.getfield 61, 3) := by decide +kernel
theorem dX9_undo_34 : decode cX9_undo 34 = .ok (.getfield 131, 3) := by decide +kernel
theorem dX9_undo_37 : decode cX9_undo 37 = .ok (.ireturn, 1) := by decide +kernel
theorem dX9_ask_0 : decode cX9_ask 0 = .ok (.iload_n 1, 1) := by decide +kernel
theorem dX9_ask_1 : decode cX9_ask 1 = .ok (.ifCond .lt 21, 3) := by decide +kernel
theorem dX9_ask_4 : decode cX9_ask 4 = .ok (.iload_n 1, 1) := by decide +kernel
theorem dX9_ask_5 : decode cX9_ask 5 = .ok (.sipush 200, 3) := by decide +kernel
theorem dX9_ask_8 : decode cX9_ask 8 = .ok (.if_icmp .gt 14, 3) := by decide +kernel
theorem dX9_ask_11 : decode cX9_ask 11 = .ok (.iload_n 1, 1) := by decide +kernel
theorem dX9_ask_12 : decode cX9_ask 12 = .ok (.aload_n 0, 1) := by decide +kernel
theorem dX9_ask_13 : decode cX9_ask 13 = .ok (.getfield 12, 3) := by decide +kernel
theorem dX9_ask_16 : decode cX9_ask 16 = .ok (.getfield 85, 3) := by decide +kernel
theorem dX9_ask_19 : decode cX9_ask 19 = .ok (.if_icmp .le 14, 3) := by decide +kernel
theorem dX9_ask_22 : decode cX9_ask 22 = .ok (.new 92, 3) := by decide +kernel
theorem dX9_ask_25 : decode cX9_ask 25 = .ok (.dup, 1) := by decide +kernel
theorem dX9_ask_26 : decode cX9_ask 26 = .ok (.ldc_w 402, 3) := by decide +kernel
theorem dX9_ask_29 : decode cX9_ask 29 = .ok (.invokespecial 96, 3) := by decide +kernel
theorem dX9_ask_32 : decode cX9_ask 32 = .ok (.athrow, 1) := by decide +kernel
theorem dX9_ask_33 : decode cX9_ask 33 = .ok (.aload_n 0, 1) := by decide +kernel
theorem dX9_ask_34 : decode cX9_ask 34 = .ok (.getfield 45, 3) := by decide +kernel
theorem dX9_ask_37 : decode cX9_ask 37 = .ok (.aload_n 0, 1) := by decide +kernel
theorem dX9_ask_38 : decode cX9_ask 38 = .ok (.getfield 54, 3) := by decide +kernel
theorem dX9_ask_41 : decode cX9_ask 41 = .ok (.getfield 404, 3) := by decide +kernel
theorem dX9_ask_44 : decode cX9_ask 44 = .ok (.invokevirtual 407, 3) := by decide +kernel
theorem dX9_ask_47 : decode cX9_ask 47 = .ok (.aload_n 0, 1) := by decide +kernel
theorem dX9_ask_48 : decode cX9_ask 48 = .ok (.getfield 54, 3) := by decide +kernel
theorem dX9_ask_51 : decode cX9_ask 51 = .ok (.iload_n 1, 1) := by decide +kernel
theorem dX9_ask_52 : decode cX9_ask 52 = .ok (.aload_n 0, 1) := by decide +kernel
theorem dX9_ask_53 : decode cX9_ask 53 = .ok (.getfield 21, 3) := by decide +kernel
theorem dX9_ask_56 : decode cX9_ask 56 = .ok (.getfield 108, 3) := by decide +kernel
theorem dX9_ask_59 : decode cX9_ask 59 = .ok (.invokevirtual 411, 3) := by decide +kernel
theorem dX9_ask_62 : decode cX9_ask 62 = .ok (.ireturn, 1) := by decide +kernel
theorem dX9_image_0 : decode cX9_image 0 = .ok (.aload_n 0, 1) := by decide +kernel
theorem dX9_image_1 : decode cX9_image 1 = .ok (.getfield 28, 3) := by decide +kernel
theorem dX9_image_4 : decode cX9_image 4 = .ok (.aload_n 0, 1) := by decide +kernel
theorem dX9_image_5 : decode cX9_image 5 = .ok (.getfield 21, 3) := by decide +kernel
theorem dX9_image_8 : decode cX9_image 8 = .ok (.invokevirtual 414, 3) := by decide +kernel
theorem dX9_image_11 : decode cX9_image 11 = .ok (.aload_n 0, 1) := by decide +kernel
theorem dX9_image_12 : decode cX9_image 12 = .ok (.iconst 1, 1) := by decide +kernel
theorem dX9_image_13 : decode cX9_image 13 = .ok (.putfield 81, 3) := by decide +kernel
theorem dX9_image_16 : decode cX9_image 16 = .ok (.return_, 1) := by decide +kernel
theorem dX9_back_0 : decode cX9_back 0 = .ok (.aload_n 0, 1) := by decide +kernel
theorem dX9_back_1 : decode cX9_back 1 = .ok (.getfield 81, 3) := by decide +kernel
theorem dX9_back_4 : decode cX9_back 4 = .ok (.ifCond .ne 5, 3) := by decide +kernel
theorem dX9_back_7 : decode cX9_back 7 = .ok (.iconst 0, 1) := by decide +kernel
theorem dX9_back_8 : decode cX9_back 8 = .ok (.ireturn, 1) := by decide +kernel
theorem dX9_back_9 : decode cX9_back 9 = .ok (.aload_n 0, 1) := by decide +kernel
theorem dX9_back_10 : decode cX9_back 10 = .ok (.aload_n 0, 1) := by decide +kernel
theorem dX9_back_11 : decode cX9_back 11 = .ok (.getfield 28, 3) := by decide +kernel
theorem dX9_back_14 : decode cX9_back 14 = .ok (.invokevirtual 105, 3) := by decide +kernel
theorem dX9_back_17 : decode cX9_back 17 = .ok (.iconst 1, 1) := by decide +kernel
theorem dX9_back_18 : decode cX9_back 18 = .ok (.ireturn, 1) := by decide +kernel
theorem dX9_startAnewFrom_0 : decode cX9_startAnewFrom 0 = .ok (.aload_n 0, 1) := by decide +kernel
theorem dX9_startAnewFrom_1 : decode cX9_startAnewFrom 1 = .ok (.getfield 21, 3) := by decide +kernel
theorem dX9_startAnewFrom_4 : decode cX9_startAnewFrom 4 = .ok (.aload_n 1, 1) := by decide +kernel
theorem dX9_startAnewFrom_5 : decode cX9_startAnewFrom 5 = .ok (.invokevirtual 414, 3) := by decide +kernel
theorem dX9_startAnewFrom_8 : decode cX9_startAnewFrom 8 = .ok (.aload_n 0, 1) := by decide +kernel
theorem dX9_startAnewFrom_9 : decode cX9_startAnewFrom 9 = .ok (.getfield 61, 3) := by decide +kernel
theorem dX9_startAnewFrom_12 : decode cX9_startAnewFrom 12 = .ok (.iconst 0, 1) := by decide +kernel
theorem dX9_startAnewFrom_13 : decode cX9_startAnewFrom 13 = .ok (.putfield 131, 3) := by decide +kernel
theorem dX9_startAnewFrom_16 : decode cX9_startAnewFrom 16 = .ok (.aload_n 0, 1) := by decide +kernel
theorem dX9_startAnewFrom_17 : decode cX9_startAnewFrom 17 = .ok (.getfield 45, 3) := by decide +kernel
theorem dX9_startAnewFrom_20 : decode cX9_startAnewFrom 20 = .ok (.invokevirtual 368, 3) := by decide +kernel
theorem dX9_startAnewFrom_23 : decode cX9_startAnewFrom 23 = .ok (.return_, 1) := by decide +kernel
theorem dX9_suitAt_0 : decode cX9_suitAt 0 = .ok (.iload_n 1, 1) := by decide +kernel
theorem dX9_suitAt_1 : decode cX9_suitAt 1 = .ok (.ifCond .lt 14, 3) := by decide +kernel
theorem dX9_suitAt_4 : decode cX9_suitAt 4 = .ok (.iload_n 1, 1) := by decide +kernel
theorem dX9_suitAt_5 : decode cX9_suitAt 5 = .ok (.aload_n 0, 1) := by decide +kernel
theorem dX9_suitAt_6 : decode cX9_suitAt 6 = .ok (.getfield 21, 3) := by decide +kernel
theorem dX9_suitAt_9 : decode cX9_suitAt 9 = .ok (.getfield 108, 3) := by decide +kernel
theorem dX9_suitAt_12 : decode cX9_suitAt 12 = .ok (.if_icmp .lt 14, 3) := by decide +kernel
theorem dX9_suitAt_15 : decode cX9_suitAt 15 = .ok (.new 137, 3) := by decide +kernel
theorem dX9_suitAt_18 : decode cX9_suitAt 18 = .ok (.dup, 1) := by decide +kernel
theorem dX9_suitAt_19 : decode cX9_suitAt 19 = .ok (.ldc_w 417, 3) := by decide +kernel
theorem dX9_suitAt_22 : decode cX9_suitAt 22 = .ok (.invokespecial 141, 3) := by decide +kernel
theorem dX9_suitAt_25 : decode cX9_suitAt 25 = .ok (.athrow, 1) := by decide +kernel
theorem dX9_suitAt_26 : decode cX9_suitAt 26 = .ok (.aload_n 0, 1) := by decide +kernel
theorem dX9_suitAt_27 : decode cX9_suitAt 27 = .ok (.getfield 21, 3) := by decide +kernel
theorem dX9_suitAt_30 : decode cX9_suitAt 30 = .ok (.getfield 419, 3) := by decide +kernel
theorem dX9_suitAt_33 : decode cX9_suitAt 33 = .ok (.iload_n 1, 1) := by decide +kernel
theorem dX9_suitAt_34 : decode cX9_suitAt 34 = .ok (.aaload, 1) := by decide +kernel
theorem dX9_suitAt_35 : decode cX9_suitAt 35 = .ok (.areturn, 1) := by decide +kernel
theorem dX9_needPerson_0 : decode cX9_needPerson 0 = .ok (.iload_n 1, 1) := by decide +kernel
theorem dX9_needPerson_1 : decode cX9_needPerson 1 = .ok (.ifCond .lt 14, 3) := by decide +kernel
theorem dX9_needPerson_4 : decode cX9_needPerson 4 = .ok (.iload_n 1, 1) := by decide +kernel
theorem dX9_needPerson_5 : decode cX9_needPerson 5 = .ok (.aload_n 0, 1) := by decide +kernel
theorem dX9_needPerson_6 : decode cX9_needPerson 6 = .ok (.getfield 21, 3) := by decide +kernel
theorem dX9_needPerson_9 : decode cX9_needPerson 9 = .ok (.getfield 114, 3) := by decide +kernel
theorem dX9_needPerson_12 : decode cX9_needPerson 12 = .ok (.if_icmp .lt 14, 3) := by decide +kernel
theorem dX9_needPerson_15 : decode cX9_needPerson 15 = .ok (.new 137, 3) := by decide +kernel
theorem dX9_needPerson_18 : decode cX9_needPerson 18 = .ok (.dup, 1) := by decide +kernel
theorem dX9_needPerson_19 : decode cX9_needPerson 19 = .ok (.ldc_w 423, 3) := by decide +kernel
theorem dX9_needPerson_22 : decode cX9_needPerson 22 = .ok (.invokespecial 141, 3) := by decide +kernel
theorem dX9_needPerson_25 : decode cX9_needPerson 25 = .ok (.athrow, 1) := by decide +kernel
theorem dX9_needPerson_26 : decode cX9_needPerson 26 = .ok (.return_, 1) := by decide +kernel
theorem dX9_needCouple_0 : decode cX9_needCouple 0 = .ok (.aload_n 0, 1) := by decide +kernel
theorem dX9_needCouple_1 : decode cX9_needCouple 1 = .ok (.iload_n 1, 1) := by decide +kernel
theorem dX9_needCouple_2 : decode cX9_needCouple 2 = .ok (.invokevirtual 142, 3) := by decide +kernel
theorem dX9_needCouple_5 : decode cX9_needCouple 5 = .ok (.aload_n 0, 1) := by decide +kernel
theorem dX9_needCouple_6 : decode cX9_needCouple 6 = .ok (.iload_n 2, 1) := by decide +kernel
theorem dX9_needCouple_7 : decode cX9_needCouple 7 = .ok (.invokevirtual 142, 3) := by decide +kernel
theorem dX9_needCouple_10 : decode cX9_needCouple 10 = .ok (.iload_n 1, 1) := by decide +kernel
theorem dX9_needCouple_11 : decode cX9_needCouple 11 = .ok (.iload_n 2, 1) := by decide +kernel
theorem dX9_needCouple_12 : decode cX9_needCouple 12 = .ok (.if_icmp .ne 14, 3) := by decide +kernel
theorem dX9_needCouple_15 : decode cX9_needCouple 15 = .ok (.new 137, 3) := by decide +kernel
theorem dX9_needCouple_18 : decode cX9_needCouple 18 = .ok (.dup, 1) := by decide +kernel
theorem dX9_needCouple_19 : decode cX9_needCouple 19 = .ok (.ldc_w 425, 3) := by decide +kernel
theorem dX9_needCouple_22 : decode cX9_needCouple 22 = .ok (.invokespecial 141, 3) := by decide +kernel
theorem dX9_needCouple_25 : decode cX9_needCouple 25 = .ok (.athrow, 1) := by decide +kernel
theorem dX9_needCouple_26 : decode cX9_needCouple 26 = .ok (.return_, 1) := by decide +kernel
theorem dX9_needSide_0 : decode cX9_needSide 0 = .ok (.iload_n 1, 1) := by decide +kernel
theorem dX9_needSide_1 : decode cX9_needSide 1 = .ok (.ifCond .lt 8, 3) := by decide +kernel
theorem dX9_needSide_4 : decode cX9_needSide 4 = .ok (.iload_n 1, 1) := by decide +kernel
theorem dX9_needSide_5 : decode cX9_needSide 5 = .ok (.iconst 1, 1) := by decide +kernel
theorem dX9_needSide_6 : decode cX9_needSide 6 = .ok (.if_icmp .le 14, 3) := by decide +kernel
theorem dX9_needSide_9 : decode cX9_needSide 9 = .ok (.new 137, 3) := by decide +kernel
theorem dX9_needSide_12 : decode cX9_needSide 12 = .ok (.dup, 1) := by decide +kernel
theorem dX9_needSide_13 : decode cX9_needSide 13 = .ok (.ldc_w 427, 3) := by decide +kernel
theorem dX9_needSide_16 : decode cX9_needSide 16 = .ok (.invokespecial 141, 3) := by decide +kernel
theorem dX9_needSide_19 : decode cX9_needSide 19 = .ok (.athrow, 1) := by decide +kernel
theorem dX9_needSide_20 : decode cX9_needSide 20 = .ok (.return_, 1) := by decide +kernel
theorem dX9_needLink_0 : decode cX9_needLink 0 = .ok (.iload_n 1, 1) := by decide +kernel
theorem dX9_needLink_1 : decode cX9_needLink 1 = .ok (.ifCond .lt 14, 3) := by decide +kernel
theorem dX9_needLink_4 : decode cX9_needLink 4 = .ok (.iload_n 1, 1) := by decide +kernel
theorem dX9_needLink_5 : decode cX9_needLink 5 = .ok (.aload_n 0, 1) := by decide +kernel
theorem dX9_needLink_6 : decode cX9_needLink 6 = .ok (.getfield 21, 3) := by decide +kernel
theorem dX9_needLink_9 : decode cX9_needLink 9 = .ok (.getfield 117, 3) := by decide +kernel
theorem dX9_needLink_12 : decode cX9_needLink 12 = .ok (.if_icmp .lt 14, 3) := by decide +kernel
theorem dX9_needLink_15 : decode cX9_needLink 15 = .ok (.new 137, 3) := by decide +kernel
theorem dX9_needLink_18 : decode cX9_needLink 18 = .ok (.dup, 1) := by decide +kernel
theorem dX9_needLink_19 : decode cX9_needLink 19 = .ok (.ldc_w 429, 3) := by decide +kernel
theorem dX9_needLink_22 : decode cX9_needLink 22 = .ok (.invokespecial 141, 3) := by decide +kernel
theorem dX9_needLink_25 : decode cX9_needLink 25 = .ok (.athrow, 1) := by decide +kernel
theorem dX9_needLink_26 : decode cX9_needLink 26 = .ok (.return_, 1) := by decide +kernel
theorem dX9_needIssue_0 : decode cX9_needIssue 0 = .ok (.iload_n 2, 1) := by decide +kernel
theorem dX9_needIssue_1 : decode cX9_needIssue 1 = .ok (.ifCond .lt 20, 3) := by decide +kernel
theorem dX9_needIssue_4 : decode cX9_needIssue 4 = .ok (.iload_n 2, 1) := by decide +kernel
theorem dX9_needIssue_5 : decode cX9_needIssue 5 = .ok (.bipush 31, 2) := by decide +kernel
theorem dX9_needIssue_7 : decode cX9_needIssue 7 = .ok (.if_icmp .ge 14, 3) := by decide +kernel
theorem dX9_needIssue_10 : decode cX9_needIssue 10 = .ok (.aload_n 1, 1) := by decide +kernel
theorem dX9_needIssue_11 : decode cX9_needIssue 11 = .ok (.invokevirtual 296, 3) := by decide +kernel
theorem dX9_needIssue_14 : decode cX9_needIssue 14 = .ok (.iload_n 2, 1) := by decide +kernel
theorem dX9_needIssue_15 : decode cX9_needIssue 15 = .ok (.ishr, 1) := by decide +kernel
theorem dX9_needIssue_16 : decode cX9_needIssue 16 = .ok (.iconst 1, 1) := by decide +kernel
theorem dX9_needIssue_17 : decode cX9_needIssue 17 = .ok (.iand, 1) := by decide +kernel
theorem dX9_needIssue_18 : decode cX9_needIssue 18 = .ok (.ifCond .ne 14, 3) := by decide +kernel
theorem dX9_needIssue_21 : decode cX9_needIssue 21 = .ok (.new 137, 3) := by decide +kernel
theorem dX9_needIssue_24 : decode cX9_needIssue 24 = .ok (.dup, 1) := by decide +kernel
theorem dX9_needIssue_25 : decode cX9_needIssue 25 = .ok (.ldc_w 431, 3) := by decide +kernel
theorem dX9_needIssue_28 : decode cX9_needIssue 28 = .ok (.invokespecial 141, 3) := by decide +kernel
theorem dX9_needIssue_31 : decode cX9_needIssue 31 = .ok (.athrow, 1) := by decide +kernel
theorem dX9_needIssue_32 : decode cX9_needIssue 32 = .ok (.return_, 1) := by decide +kernel
theorem dX9_isDay_0 : decode cX9_isDay 0 = .ok (.iload_n 0, 1) := by decide +kernel
theorem dX9_isDay_1 : decode cX9_isDay 1 = .ok (.ifCond .lt 14, 3) := by decide +kernel
theorem dX9_isDay_4 : decode cX9_isDay 4 = .ok (.iload_n 0, 1) := by decide +kernel
theorem dX9_isDay_5 : decode cX9_isDay 5 = .ok (.sipush 9999, 3) := by decide +kernel
theorem dX9_isDay_8 : decode cX9_isDay 8 = .ok (.if_icmp .gt 7, 3) := by decide +kernel
theorem dX9_isDay_11 : decode cX9_isDay 11 = .ok (.iconst 1, 1) := by decide +kernel
theorem dX9_isDay_12 : decode cX9_isDay 12 = .ok (.goto 4, 3) := by decide +kernel
theorem dX9_isDay_15 : decode cX9_isDay 15 = .ok (.iconst 0, 1) := by decide +kernel
theorem dX9_isDay_16 : decode cX9_isDay 16 = .ok (.ireturn, 1) := by decide +kernel
theorem dX9_lowestBit_0 : decode cX9_lowestBit 0 = .ok (.iconst 0, 1) := by decide +kernel
theorem dX9_lowestBit_1 : decode cX9_lowestBit 1 = .ok (.istore_n 1, 1) := by decide +kernel
theorem dX9_lowestBit_2 : decode cX9_lowestBit 2 = .ok (.iload_n 1, 1) := by decide +kernel
theorem dX9_lowestBit_3 : decode cX9_lowestBit 3 = .ok (.bipush 31, 2) := by decide +kernel
theorem dX9_lowestBit_5 : decode cX9_lowestBit 5 = .ok (.if_icmp .ge 20, 3) := by decide +kernel
theorem dX9_lowestBit_8 : decode cX9_lowestBit 8 = .ok (.iload_n 0, 1) := by decide +kernel
theorem dX9_lowestBit_9 : decode cX9_lowestBit 9 = .ok (.iload_n 1, 1) := by decide +kernel
theorem dX9_lowestBit_10 : decode cX9_lowestBit 10 = .ok (.ishr, 1) := by decide +kernel
theorem dX9_lowestBit_11 : decode cX9_lowestBit 11 = .ok (.iconst 1, 1) := by decide +kernel
theorem dX9_lowestBit_12 : decode cX9_lowestBit 12 = .ok (.iand, 1) := by decide +kernel
theorem dX9_lowestBit_13 : decode cX9_lowestBit 13 = .ok (.iconst 1, 1) := by decide +kernel
theorem dX9_lowestBit_14 : decode cX9_lowestBit 14 = .ok (.if_icmp .ne 5, 3) := by decide +kernel
theorem dX9_lowestBit_17 : decode cX9_lowestBit 17 = .ok (.iload_n 1, 1) := by decide +kernel
theorem dX9_lowestBit_18 : decode cX9_lowestBit 18 = .ok (.ireturn, 1) := by decide +kernel
theorem dX9_lowestBit_19 : decode cX9_lowestBit 19 = .ok (.iinc 1 1, 3) := by decide +kernel
theorem dX9_lowestBit_22 : decode cX9_lowestBit 22 = .ok (.goto (-20), 3) := by decide +kernel
theorem dX9_lowestBit_25 : decode cX9_lowestBit 25 = .ok (.iconst (-1), 1) := by decide +kernel
theorem dX9_lowestBit_26 : decode cX9_lowestBit 26 = .ok (.ireturn, 1) := by decide +kernel
theorem dX10_init_0 : decode cX10_init 0 = .ok (.aload_n 0, 1) := by decide +kernel
theorem dX10_init_1 : decode cX10_init 1 = .ok (.invokespecial 1, 3) := by decide +kernel
theorem dX10_init_4 : decode cX10_init 4 = .ok (.aload_n 0, 1) := by decide +kernel
theorem dX10_init_5 : decode cX10_init 5 = .ok (.sipush 330, 3) := by decide +kernel
theorem dX10_init_8 : decode cX10_init 8 = .ok (.newarray .int, 2) := by decide +kernel
theorem dX10_init_10 : decode cX10_init 10 = .ok (.putfield 9, 3) := by decide +kernel
theorem dX10_init_13 : decode cX10_init 13 = .ok (.aload_n 0, 1) := by decide +kernel
theorem dX10_init_14 : decode cX10_init 14 = .ok (.sipush 330, 3) := by decide +kernel
theorem dX10_init_17 : decode cX10_init 17 = .ok (.newarray .int, 2) := by decide +kernel
theorem dX10_init_19 : decode cX10_init 19 = .ok (.putfield 13, 3) := by decide +kernel
theorem dX10_init_22 : decode cX10_init 22 = .ok (.aload_n 0, 1) := by decide +kernel
theorem dX10_init_23 : decode cX10_init 23 = .ok (.sipush 330, 3) := by decide +kernel
theorem dX10_init_26 : decode cX10_init 26 = .ok (.newarray .int, 2) := by decide +kernel
theorem dX10_init_28 : decode cX10_init 28 = .ok (.putfield 16, 3) := by decide +kernel
theorem dX10_init_31 : decode cX10_init 31 = .ok (.aload_n 0, 1) := by decide +kernel
theorem dX10_init_32 : decode cX10_init 32 = .ok (.sipush 3960, 3) := by decide +kernel
theorem dX10_init_35 : decode cX10_init 35 = .ok (.newarray .int, 2) := by decide +kernel
theorem dX10_init_37 : decode cX10_init 37 = .ok (.putfield 19, 3) := by decide +kernel
theorem dX10_init_40 : decode cX10_init 40 = .ok (.aload_n 0, 1) := by decide +kernel
theorem dX10_init_41 : decode cX10_init 41 = .ok (.bipush 22, 2) := by decide +kernel
theorem dX10_init_43 : decode cX10_init 43 = .ok (.newarray .int, 2) := by decide +kernel
theorem dX10_init_45 : decode cX10_init 45 = .ok (.putfield 22, 3) := by decide +kernel
theorem dX10_init_48 : decode cX10_init 48 = .ok (.aload_n 0, 1) := by decide +kernel
theorem dX10_init_49 : decode cX10_init 49 = .ok (.bipush 12, 2) := by decide +kernel
theorem dX10_init_51 : decode cX10_init 51 = .ok (.newarray .int, 2) := by decide +kernel
theorem dX10_init_53 : decode cX10_init 53 = .ok (.putfield 25, 3) := by decide +kernel
theorem dX10_init_56 : decode cX10_init 56 = .ok (.aload_n 0, 1) := by decide +kernel
theorem dX10_init_57 : decode cX10_init 57 = .ok (.bipush 10, 2) := by decide +kernel
theorem dX10_init_59 : decode cX10_init 59 = .ok (.newarray .int, 2) := by decide +kernel
theorem dX10_init_61 : decode cX10_init 61 = .ok (.putfield 28, 3) := by decide +kernel
theorem dX10_init_64 : decode cX10_init 64 = .ok (.aload_n 0, 1) := by decide +kernel
theorem dX10_init_65 : decode cX10_init 65 = .ok (.bipush 10, 2) := by decide +kernel
theorem dX10_init_67 : decode cX10_init 67 = .ok (.newarray .int, 2) := by decide +kernel
theorem dX10_init_69 : decode cX10_init 69 = .ok (.putfield 31, 3) := by decide +kernel
theorem dX10_init_72 : decode cX10_init 72 = .ok (.aload_n 0, 1) := by decide +kernel
theorem dX10_init_73 : decode cX10_init 73 = .ok (.bipush 10, 2) := by decide +kernel
theorem dX10_init_75 : decode cX10_init 75 = .ok (.newarray .int, 2) := by decide +kernel
theorem dX10_init_77 : decode cX10_init 77 = .ok (.putfield 34, 3) := by decide +kernel
theorem dX10_init_80 : decode cX10_init 80 = .ok (.aload_n 0, 1) := by decide +kernel
theorem dX10_init_81 : decode cX10_init 81 = .ok (.sipush 300, 3) := by decide +kernel
theorem dX10_init_84 : decode cX10_init 84 = .ok (.newarray .int, 2) := by decide +kernel
theorem dX10_init_86 : decode cX10_init 86 = .ok (.putfield 37, 3) := by decide +kernel
theorem dX10_init_89 : decode cX10_init 89 = .ok (.aload_n 0, 1) := by decide +kernel
theorem dX10_init_90 : decode cX10_init 90 = .ok (.sipush 600, 3) := by decide +kernel
theorem dX10_init_93 : decode cX10_init 93 = .ok (.newarray .int, 2) := by decide +kernel
theorem dX10_init_95 : decode cX10_init 95 = .ok (.putfield 40, 3) := by decide +kernel
theorem dX10_init_98 : decode cX10_init 98 = .ok (.aload_n 0, 1) := by decide +kernel
theorem dX10_init_99 : decode cX10_init 99 = .ok (.iconst (-1), 1) := by decide +kernel
theorem dX10_init_100 : decode cX10_init 100 = .ok (.putfield 43, 3) := by decide +kernel
theorem dX10_init_103 : decode cX10_init 103 = .ok (.aload_n 0, 1) := by decide +kernel
theorem dX10_init_104 : decode cX10_init 104 = .ok (.getfield 9, 3) := by decide +kernel
theorem dX10_init_107 : decode cX10_init 107 = .ok (.invokestatic 47, 3) := by decide +kernel
theorem dX10_init_110 : decode cX10_init 110 = .ok (.return_, 1) := by decide +kernel
theorem dX10_bare_0 : decode cX10_bare 0 = .ok (.iconst 0, 1) := by decide +kernel
theorem dX10_bare_1 : decode cX10_bare 1 = .ok (.istore_n 1, 1) := by decide +kernel
theorem dX10_bare_2 : decode cX10_bare 2 = .ok (.iload_n 1, 1) := by decide +kernel
theorem dX10_bare_3 : decode cX10_bare 3 = .ok (.sipush 330, 3) := by decide +kernel
theorem dX10_bare_6 : decode cX10_bare 6 = .ok (.if_icmp .ge 13, 3) := by decide +kernel
theorem dX10_bare_9 : decode cX10_bare 9 = .ok (.aload_n 0, 1) := by decide +kernel
theorem dX10_bare_10 : decode cX10_bare 10 = .ok (.iload_n 1, 1) := by decide +kernel
theorem dX10_bare_11 : decode cX10_bare 11 = .ok (.iconst 0, 1) := by decide +kernel
theorem dX10_bare_12 : decode cX10_bare 12 = .ok (.iastore, 1) := by decide +kernel
theorem dX10_bare_13 : decode cX10_bare 13 = .ok (.iinc 1 1, 3) := by decide +kernel
theorem dX10_bare_16 : decode cX10_bare 16 = .ok (.goto (-14), 3) := by decide +kernel
theorem dX10_bare_19 : decode cX10_bare 19 = .ok (.aload_n 0, 1) := by decide +kernel
theorem dX10_bare_20 : decode cX10_bare 20 = .ok (.iconst 3, 1) := by decide +kernel
theorem dX10_bare_21 : decode cX10_bare 21 = .ok (.bipush 50, 2) := by decide +kernel
theorem dX10_bare_23 : decode cX10_bare 23 = .ok (.iastore, 1) := by decide +kernel
theorem dX10_bare_24 : decode cX10_bare 24 = .ok (.return_, 1) := by decide +kernel
theorem dX10_thrown_0 : decode cX10_thrown 0 = .ok (.aload_n 0, 1) := by decide +kernel
theorem dX10_thrown_1 : decode cX10_thrown 1 = .ok (.getfield 51, 3) := by decide +kernel
theorem dX10_thrown_4 : decode cX10_thrown 4 = .ok (.ireturn, 1) := by decide +kernel
theorem dX10_fail_0 : decode cX10_fail 0 = .ok (.aload_n 0, 1) := by decide +kernel
theorem dX10_fail_1 : decode cX10_fail 1 = .ok (.iload_n 1, 1) := by decide +kernel
theorem dX10_fail_2 : decode cX10_fail 2 = .ok (.putfield 51, 3) := by decide +kernel
theorem dX10_fail_5 : decode cX10_fail 5 = .ok (.iconst 0, 1) := by decide +kernel
theorem dX10_fail_6 : decode cX10_fail 6 = .ok (.ireturn, 1) := by decide +kernel
theorem dX10_isIn_0 : decode cX10_isIn 0 = .ok (.iload_n 0, 1) := by decide +kernel
theorem dX10_isIn_1 : decode cX10_isIn 1 = .ok (.iload_n 1, 1) := by decide +kernel
theorem dX10_isIn_2 : decode cX10_isIn 2 = .ok (.if_icmp .lt 12, 3) := by decide +kernel
theorem dX10_isIn_5 : decode cX10_isIn 5 = .ok (.iload_n 0, 1) := by decide +kernel
theorem dX10_isIn_6 : decode cX10_isIn 6 = .ok (.iload_n 2, 1) := by decide +kernel
theorem dX10_isIn_7 : decode cX10_isIn 7 = .ok (.if_icmp .gt 7, 3) := by decide +kernel
theorem dX10_isIn_10 : decode cX10_isIn 10 = .ok (.iconst 1, 1) := by decide +kernel
theorem dX10_isIn_11 : decode cX10_isIn 11 = .ok (.goto 4, 3) := by decide +kernel
theorem dX10_isIn_14 : decode cX10_isIn 14 = .ok (.iconst 0, 1) := by decide +kernel
theorem dX10_isIn_15 : decode cX10_isIn 15 = .ok (.ireturn, 1) := by decide +kernel
theorem dX10_copy_0 : decode cX10_copy 0 = .ok (.iconst 0, 1) := by decide +kernel
theorem dX10_copy_1 : decode cX10_copy 1 = .ok (.istore_n 2, 1) := by decide +kernel
theorem dX10_copy_2 : decode cX10_copy 2 = .ok (.iload_n 2, 1) := by decide +kernel
theorem dX10_copy_3 : decode cX10_copy 3 = .ok (.sipush 330, 3) := by decide +kernel
theorem dX10_copy_6 : decode cX10_copy 6 = .ok (.if_icmp .ge 15, 3) := by decide +kernel
theorem dX10_copy_9 : decode cX10_copy 9 = .ok (.aload_n 0, 1) := by decide +kernel
theorem dX10_copy_10 : decode cX10_copy 10 = .ok (.iload_n 2, 1) := by decide +kernel
theorem dX10_copy_11 : decode cX10_copy 11 = .ok (.aload_n 1, 1) := by decide +kernel
theorem dX10_copy_12 : decode cX10_copy 12 = .ok (.iload_n 2, 1) := by decide +kernel
theorem dX10_copy_13 : decode cX10_copy 13 = .ok (.iaload, 1) := by decide +kernel
theorem dX10_copy_14 : decode cX10_copy 14 = .ok (.iastore, 1) := by decide +kernel
theorem dX10_copy_15 : decode cX10_copy 15 = .ok (.iinc 2 1, 3) := by decide +kernel
theorem dX10_copy_18 : decode cX10_copy 18 = .ok (.goto (-16), 3) := by decide +kernel
theorem dX10_copy_21 : decode cX10_copy 21 = .ok (.return_, 1) := by decide +kernel
theorem dX10_has_0 : decode cX10_has 0 = .ok (.iload_n 0, 1) := by decide +kernel
theorem dX10_has_1 : decode cX10_has 1 = .ok (.iload_n 1, 1) := by decide +kernel
theorem dX10_has_2 : decode cX10_has 2 = .ok (.ishr, 1) := by decide +kernel
theorem dX10_has_3 : decode cX10_has 3 = .ok (.iconst 1, 1) := by decide +kernel
theorem dX10_has_4 : decode cX10_has 4 = .ok (.iand, 1) := by decide +kernel
theorem dX10_has_5 : decode cX10_has 5 = .ok (.iconst 1, 1) := by decide +kernel
theorem dX10_has_6 : decode cX10_has 6 = .ok (.if_icmp .ne 7, 3) := by decide +kernel
theorem dX10_has_9 : decode cX10_has 9 = .ok (.iconst 1, 1) := by decide +kernel
theorem dX10_has_10 : decode cX10_has 10 = .ok (.goto 4, 3) := by decide +kernel
theorem dX10_has_13 : decode cX10_has 13 = .ok (.iconst 0, 1) := by decide +kernel
theorem dX10_has_14 : decode cX10_has 14 = .ok (.ireturn, 1) := by decide +kernel
theorem dX10_bitsOf_0 : decode cX10_bitsOf 0 = .ok (.iconst 0, 1) := by decide +kernel
theorem dX10_bitsOf_1 : decode cX10_bitsOf 1 = .ok (.istore_n 1, 1) := by decide +kernel
theorem dX10_bitsOf_2 : decode cX10_bitsOf 2 = .ok (.iload_n 0, 1) := by decide +kernel
theorem dX10_bitsOf_3 : decode cX10_bitsOf 3 = .ok (.istore_n 2, 1) := by decide +kernel
theorem dX10_bitsOf_4 : decode cX10_bitsOf 4 = .ok (.iload_n 2, 1) := by decide +kernel
theorem dX10_bitsOf_5 : decode cX10_bitsOf 5 = .ok (.ifCond .eq 15, 3) := by decide +kernel
theorem dX10_bitsOf_8 : decode cX10_bitsOf 8 = .ok (.iinc 1 1, 3) := by decide +kernel
theorem dX10_bitsOf_11 : decode cX10_bitsOf 11 = .ok (.iload_n 2, 1) := by decide +kernel
theorem dX10_bitsOf_12 : decode cX10_bitsOf 12 = .ok (.iload_n 2, 1) := by decide +kernel
theorem dX10_bitsOf_13 : decode cX10_bitsOf 13 = .ok (.iconst 1, 1) := by decide +kernel
theorem dX10_bitsOf_14 : decode cX10_bitsOf 14 = .ok (.isub, 1) := by decide +kernel
theorem dX10_bitsOf_15 : decode cX10_bitsOf 15 = .ok (.iand, 1) := by decide +kernel
theorem dX10_bitsOf_16 : decode cX10_bitsOf 16 = .ok (.istore_n 2, 1) := by decide +kernel
theorem dX10_bitsOf_17 : decode cX10_bitsOf 17 = .ok (.goto (-13), 3) := by decide +kernel
theorem dX10_bitsOf_20 : decode cX10_bitsOf 20 = .ok (.iload_n 1, 1) := by decide +kernel
theorem dX10_bitsOf_21 : decode cX10_bitsOf 21 = .ok (.ireturn, 1) := by decide +kernel
theorem dX10_persons_0 : decode cX10_persons 0 = .ok (.aload_n 0, 1) := by decide +kernel
theorem dX10_persons_1 : decode cX10_persons 1 = .ok (.getfield 9, 3) := by decide +kernel
theorem dX10_persons_4 : decode cX10_persons 4 = .ok (.iconst 0, 1) := by decide +kernel
theorem dX10_persons_5 : decode cX10_persons 5 = .ok (.iaload, 1) := by decide +kernel
theorem dX10_persons_6 : decode cX10_persons 6 = .ok (.ireturn, 1) := by decide +kernel
theorem dX10_links_0 : decode cX10_links 0 = .ok (.aload_n 0, 1) := by decide +kernel
theorem dX10_links_1 : decode cX10_links 1 = .ok (.getfield 9, 3) := by decide +kernel
theorem dX10_links_4 : decode cX10_links 4 = .ok (.iconst 1, 1) := by decide +kernel
theorem dX10_links_5 : decode cX10_links 5 = .ok (.iaload, 1) := by decide +kernel
theorem dX10_links_6 : decode cX10_links 6 = .ok (.ireturn, 1) := by decide +kernel
theorem dX10_suits_0 : decode cX10_suits 0 = .ok (.aload_n 0, 1) := by decide +kernel
theorem dX10_suits_1 : decode cX10_suits 1 = .ok (.getfield 9, 3) := by decide +kernel
theorem dX10_suits_4 : decode cX10_suits 4 = .ok (.iconst 2, 1) := by decide +kernel
theorem dX10_suits_5 : decode cX10_suits 5 = .ok (.iaload, 1) := by decide +kernel
theorem dX10_suits_6 : decode cX10_suits 6 = .ok (.ireturn, 1) := by decide +kernel
theorem dX10_linkOf_0 : decode cX10_linkOf 0 = .ok (.aload_n 0, 1) := by decide +kernel
theorem dX10_linkOf_1 : decode cX10_linkOf 1 = .ok (.getfield 9, 3) := by decide +kernel
theorem dX10_linkOf_4 : decode cX10_linkOf 4 = .ok (.bipush 78, 2) := by decide +kernel
theorem dX10_linkOf_6 : decode cX10_linkOf 6 = .ok (.iconst 5, 1) := by decide +kernel
theorem dX10_linkOf_7 : decode cX10_linkOf 7 = .ok (.iload_n 1, 1) := by decide +kernel
theorem dX10_linkOf_8 : decode cX10_linkOf 8 = .ok (.imul, 1) := by decide +kernel
theorem dX10_linkOf_9 : decode cX10_linkOf 9 = .ok (.iadd, 1) := by decide +kernel
theorem dX10_linkOf_10 : decode cX10_linkOf 10 = .ok (.iload_n 2, 1) := by decide +kernel
theorem dX10_linkOf_11 : decode cX10_linkOf 11 = .ok (.iadd, 1) := by decide +kernel
theorem dX10_linkOf_12 : decode cX10_linkOf 12 = .ok (.iaload, 1) := by decide +kernel
theorem dX10_linkOf_13 : decode cX10_linkOf 13 = .ok (.ireturn, 1) := by decide +kernel
theorem dX10_of_0 : decode cX10_of 0 = .ok (.aload_n 0, 1) := by decide +kernel
theorem dX10_of_1 : decode cX10_of 1 = .ok (.getfield 9, 3) := by decide +kernel
theorem dX10_of_4 : decode cX10_of 4 = .ok (.sipush 198, 3) := by decide +kernel
theorem dX10_of_7 : decode cX10_of 7 = .ok (.bipush 12, 2) := by decide +kernel
theorem dX10_of_9 : decode cX10_of 9 = .ok (.iload_n 1, 1) := by decide +kernel
theorem dX10_of_10 : decode cX10_of 10 = .ok (.imul, 1) := by decide +kernel
theorem dX10_of_11 : decode cX10_of 11 = .ok (.iadd, 1) := by decide +kernel
theorem dX10_of_12 : decode cX10_of 12 = .ok (.iload_n 2, 1) := by decide +kernel
theorem dX10_of_13 : decode cX10_of 13 = .ok (.iadd, 1) := by decide +kernel
theorem dX10_of_14 : decode cX10_of 14 = .ok (.iaload, 1) := by decide +kernel
theorem dX10_of_15 : decode cX10_of 15 = .ok (.ireturn, 1) := by decide +kernel
theorem dX10_put_0 : decode cX10_put 0 = .ok (.aload_n 0, 1) := by decide +kernel
theorem dX10_put_1 : decode cX10_put 1 = .ok (.getfield 9, 3) := by decide +kernel
theorem dX10_put_4 : decode cX10_put 4 = .ok (.sipush 198, 3) := by decide +kernel
theorem dX10_put_7 : decode cX10_put 7 = .ok (.bipush 12, 2) := by decide +kernel
theorem dX10_put_9 : decode cX10_put 9 = .ok (.iload_n 1, 1) := by decide +kernel
theorem dX10_put_10 : decode cX10_put 10 = .ok (.imul, 1) := by decide +kernel
theorem dX10_put_11 : decode cX10_put 11 = .ok (.iadd, 1) := by decide +kernel
theorem dX10_put_12 : decode cX10_put 12 = .ok (.iload_n 2, 1) := by decide +kernel
theorem dX10_put_13 : decode cX10_put 13 = .ok (.iadd, 1) := by decide +kernel
theorem dX10_put_14 : decode cX10_put 14 = .ok (.iload_n 3, 1) := by decide +kernel
theorem dX10_put_15 : decode cX10_put 15 = .ok (.iastore, 1) := by decide +kernel
theorem dX10_put_16 : decode cX10_put 16 = .ok (.return_, 1) := by decide +kernel
theorem dX10_isPerson_0 : decode cX10_isPerson 0 = .ok (.iload_n 1, 1) := by decide +kernel
theorem dX10_isPerson_1 : decode cX10_isPerson 1 = .ok (.iconst 0, 1) := by decide +kernel
theorem dX10_isPerson_2 : decode cX10_isPerson 2 = .ok (.aload_n 0, 1) := by decide +kernel
theorem dX10_isPerson_3 : decode cX10_isPerson 3 = .ok (.invokevirtual 54, 3) := by decide +kernel
theorem dX10_isPerson_6 : decode cX10_isPerson 6 = .ok (.iconst 1, 1) := by decide +kernel
theorem dX10_isPerson_7 : decode cX10_isPerson 7 = .ok (.isub, 1) := by decide +kernel
theorem dX10_isPerson_8 : decode cX10_isPerson 8 = .ok (.invokestatic 58, 3) := by decide +kernel
theorem dX10_isPerson_11 : decode cX10_isPerson 11 = .ok (.ireturn, 1) := by decide +kernel
theorem dX10_isSuit_0 : decode cX10_isSuit 0 = .ok (.iload_n 1, 1) := by decide +kernel
theorem dX10_isSuit_1 : decode cX10_isSuit 1 = .ok (.iconst 0, 1) := by decide +kernel
theorem dX10_isSuit_2 : decode cX10_isSuit 2 = .ok (.aload_n 0, 1) := by decide +kernel
theorem dX10_isSuit_3 : decode cX10_isSuit 3 = .ok (.invokevirtual 62, 3) := by decide +kernel
theorem dX10_isSuit_6 : decode cX10_isSuit 6 = .ok (.iconst 1, 1) := by decide +kernel
theorem dX10_isSuit_7 : decode cX10_isSuit 7 = .ok (.isub, 1) := by decide +kernel
theorem dX10_isSuit_8 : decode cX10_isSuit 8 = .ok (.invokestatic 58, 3) := by decide +kernel
theorem dX10_isSuit_11 : decode cX10_isSuit 11 = .ok (.ireturn, 1) := by decide +kernel
theorem dX10_isJudged_0 : decode cX10_isJudged 0 = .ok (.aload_n 0, 1) := by decide +kernel
theorem dX10_isJudged_1 : decode cX10_isJudged 1 = .ok (.iload_n 1, 1) := by decide +kernel
theorem dX10_isJudged_2 : decode cX10_isJudged 2 = .ok (.bipush 6, 2) := by decide +kernel
theorem dX10_isJudged_4 : decode cX10_isJudged 4 = .ok (.invokevirtual 65, 3) := by decide +kernel
theorem dX10_isJudged_7 : decode cX10_isJudged 7 = .ok (.iconst (-1), 1) := by decide +kernel
theorem dX10_isJudged_8 : decode cX10_isJudged 8 = .ok (.if_icmp .eq 7, 3) := by decide +kernel
theorem dX10_isJudged_11 : decode cX10_isJudged 11 = .ok (.iconst 1, 1) := by decide +kernel
theorem dX10_isJudged_12 : decode cX10_isJudged 12 = .ok (.goto 4, 3) := by decide +kernel
theorem dX10_isJudged_15 : decode cX10_isJudged 15 = .ok (.iconst 0, 1) := by decide +kernel
theorem dX10_isJudged_16 : decode cX10_isJudged 16 = .ok (.ireturn, 1) := by decide +kernel
theorem dX10_isReversed_0 : decode cX10_isReversed 0 = .ok (.aload_n 0, 1) := by decide +kernel
theorem dX10_isReversed_1 : decode cX10_isReversed 1 = .ok (.iload_n 1, 1) := by decide +kernel
theorem dX10_isReversed_2 : decode cX10_isReversed 2 = .ok (.bipush 8, 2) := by decide +kernel
theorem dX10_isReversed_4 : decode cX10_isReversed 4 = .ok (.invokevirtual 65, 3) := by decide +kernel
theorem dX10_isReversed_7 : decode cX10_isReversed 7 = .ok (.iconst 1, 1) := by decide +kernel
theorem dX10_isReversed_8 : decode cX10_isReversed 8 = .ok (.if_icmp .ne 7, 3) := by decide +kernel
theorem dX10_isReversed_11 : decode cX10_isReversed 11 = .ok (.iconst 1, 1) := by decide +kernel
theorem dX10_isReversed_12 : decode cX10_isReversed 12 = .ok (.goto 4, 3) := by decide +kernel
theorem dX10_isReversed_15 : decode cX10_isReversed 15 = .ok (.iconst 0, 1) := by decide +kernel
theorem dX10_isReversed_16 : decode cX10_isReversed 16 = .ok (.ireturn, 1) := by decide +kernel
theorem dX10_isOnMerits_0 : decode cX10_isOnMerits 0 = .ok (.aload_n 0, 1) := by decide +kernel
theorem dX10_isOnMerits_1 : decode cX10_isOnMerits 1 = .ok (.iload_n 1, 1) := by decide +kernel
theorem dX10_isOnMerits_2 : decode cX10_isOnMerits 2 = .ok (.invokevirtual 69, 3) := by decide +kernel
theorem dX10_isOnMerits_5 : decode cX10_isOnMerits 5 = .ok (.ifCond .eq 18, 3) := by decide +kernel
theorem dX10_isOnMerits_8 : decode cX10_isOnMerits 8 = .ok (.aload_n 0, 1) := by decide +kernel
theorem dX10_isOnMerits_9 : decode cX10_isOnMerits 9 = .ok (.iload_n 1, 1) := by decide +kernel
theorem dX10_isOnMerits_10 : decode cX10_isOnMerits 10 = .ok (.bipush 7, 2) := by decide +kernel
theorem dX10_isOnMerits_12 : decode cX10_isOnMerits 12 = .ok (.invokevirtual 65, 3) := by decide +kernel
theorem dX10_isOnMerits_15 : decode cX10_isOnMerits 15 = .ok (.iconst 1, 1) := by decide +kernel
theorem dX10_isOnMerits_16 : decode cX10_isOnMerits 16 = .ok (.if_icmp .ne 7, 3) := by decide +kernel
theorem dX10_isOnMerits_19 : decode cX10_isOnMerits 19 = .ok (.iconst 1, 1) := by decide +kernel
theorem dX10_isOnMerits_20 : decode cX10_isOnMerits 20 = .ok (.goto 4, 3) := by decide +kernel
theorem dX10_isOnMerits_23 : decode cX10_isOnMerits 23 = .ok (.iconst 0, 1) := by decide +kernel
theorem dX10_isOnMerits_24 : decode cX10_isOnMerits 24 = .ok (.ireturn, 1) := by decide +kernel
theorem dX10_issuesOf_0 : decode cX10_issuesOf 0 = .ok (.aload_n 0, 1) := by decide +kernel
theorem dX10_issuesOf_1 : decode cX10_issuesOf 1 = .ok (.iload_n 1, 1) := by decide +kernel
theorem dX10_issuesOf_2 : decode cX10_issuesOf 2 = .ok (.iconst 4, 1) := by decide +kernel
theorem dX10_issuesOf_3 : decode cX10_issuesOf 3 = .ok (.invokevirtual 65, 3) := by decide +kernel
theorem dX10_issuesOf_6 : decode cX10_issuesOf 6 = .ok (.aload_n 0, 1) := by decide +kernel
theorem dX10_issuesOf_7 : decode cX10_issuesOf 7 = .ok (.iload_n 1, 1) := by decide +kernel
theorem dX10_issuesOf_8 : decode cX10_issuesOf 8 = .ok (.iconst 5, 1) := by decide +kernel
theorem dX10_issuesOf_9 : decode cX10_issuesOf 9 = .ok (.invokevirtual 65, 3) := by decide +kernel
theorem dX10_issuesOf_12 : decode cX10_issuesOf 12 = .ok (.ior, 1) := by decide +kernel
theorem dX10_issuesOf_13 : decode cX10_issuesOf 13 = .ok (.ireturn, 1) := by decide +kernel
theorem dX10_winsOf_0 : decode cX10_winsOf 0 = .ok (.aload_n 0, 1) := by decide +kernel
theorem dX10_winsOf_1 : decode cX10_winsOf 1 = .ok (.iload_n 1, 1) := by decide +kernel
theorem dX10_winsOf_2 : decode cX10_winsOf 2 = .ok (.invokevirtual 73, 3) := by decide +kernel
theorem dX10_winsOf_5 : decode cX10_winsOf 5 = .ok (.ifCond .ne 5, 3) := by decide +kernel
theorem dX10_winsOf_8 : decode cX10_winsOf 8 = .ok (.iconst (-1), 1) := by decide +kernel
theorem dX10_winsOf_9 : decode cX10_winsOf 9 = .ok (.ireturn, 1) := by decide +kernel
theorem dX10_winsOf_10 : decode cX10_winsOf 10 = .ok (.aload_n 0, 1) := by decide +kernel
theorem dX10_winsOf_11 : decode cX10_winsOf 11 = .ok (.iload_n 1, 1) := by decide +kernel
theorem dX10_winsOf_12 : decode cX10_winsOf 12 = .ok (.iconst 4, 1) := by decide +kernel
theorem dX10_winsOf_13 : decode cX10_winsOf 13 = .ok (.invokevirtual 65, 3) := by decide +kernel
theorem dX10_winsOf_16 : decode cX10_winsOf 16 = .ok (.aload_n 0, 1) := by decide +kernel
theorem dX10_winsOf_17 : decode cX10_winsOf 17 = .ok (.iload_n 1, 1) := by decide +kernel
theorem dX10_winsOf_18 : decode cX10_winsOf 18 = .ok (.bipush 9, 2) := by decide +kernel
theorem dX10_winsOf_20 : decode cX10_winsOf 20 = .ok (.invokevirtual 65, 3) := by decide +kernel
theorem dX10_winsOf_23 : decode cX10_winsOf 23 = .ok (.iconst (-1), 1) := by decide +kernel
theorem dX10_winsOf_24 : decode cX10_winsOf 24 = .ok (.ixor, 1) := by decide +kernel
theorem dX10_winsOf_25 : decode cX10_winsOf 25 = .ok (.iand, 1) := by decide +kernel
theorem dX10_winsOf_26 : decode cX10_winsOf 26 = .ok (.ifCond .ne 24, 3) := by decide +kernel
theorem dX10_winsOf_29 : decode cX10_winsOf 29 = .ok (.aload_n 0, 1) := by decide +kernel
theorem dX10_winsOf_30 : decode cX10_winsOf 30 = .ok (.iload_n 1, 1) := by decide +kernel
theorem dX10_winsOf_31 : decode cX10_winsOf 31 = .ok (.iconst 5, 1) := by decide +kernel
theorem dX10_winsOf_32 : decode cX10_winsOf 32 = .ok (.invokevirtual 65, 3) := by decide +kernel
theorem dX10_winsOf_35 : decode cX10_winsOf 35 = .ok (.aload_n 0, 1) := by decide +kernel
theorem dX10_winsOf_36 : decode cX10_winsOf 36 = .ok (.iload_n 1, 1) := by decide +kernel
theorem dX10_winsOf_37 : decode cX10_winsOf 37 = .ok (.bipush 9, 2) := by decide +kernel
theorem dX10_winsOf_39 : decode cX10_winsOf 39 = .ok (.invokevirtual 65, 3) := by decide +kernel
theorem dX10_winsOf_42 : decode cX10_winsOf 42 = .ok (.iand, 1) := by decide +kernel
theorem dX10_winsOf_43 : decode cX10_winsOf 43 = .ok (.ifCond .ne 7, 3) := by decide +kernel
theorem dX10_winsOf_46 : decode cX10_winsOf 46 = .ok (.iconst 1, 1) := by decide +kernel
theorem dX10_winsOf_47 : decode cX10_winsOf 47 = .ok (.goto 4, 3) := by decide +kernel
theorem dX10_winsOf_50 : decode cX10_winsOf 50 = .ok (.iconst 0, 1) := by decide +kernel
theorem dX10_winsOf_51 : decode cX10_winsOf 51 = .ok (.istore_n 2, 1) := by decide +kernel
theorem dX10_winsOf_52 : decode cX10_winsOf 52 = .ok (.iload_n 2, 1) := by decide +kernel
theorem dX10_winsOf_53 : decode cX10_winsOf 53 = .ok (.ifCond .eq 7, 3) := by decide +kernel
theorem dX10_winsOf_56 : decode cX10_winsOf 56 = .ok (.iconst 0, 1) := by decide +kernel
theorem dX10_winsOf_57 : decode cX10_winsOf 57 = .ok (.goto 4, 3) := by decide +kernel
theorem dX10_winsOf_60 : decode cX10_winsOf 60 = .ok (.iconst 1, 1) := by decide +kernel
theorem dX10_winsOf_61 : decode cX10_winsOf 61 = .ok (.ireturn, 1) := by decide +kernel
theorem dX10_groundsOf_0 : decode cX10_groundsOf 0 = .ok (.aload_n 0, 1) := by decide +kernel
theorem dX10_groundsOf_1 : decode cX10_groundsOf 1 = .ok (.iload_n 1, 1) := by decide +kernel
theorem dX10_groundsOf_2 : decode cX10_groundsOf 2 = .ok (.iconst 4, 1) := by decide +kernel
theorem dX10_groundsOf_3 : decode cX10_groundsOf 3 = .ok (.invokevirtual 65, 3) := by decide +kernel
theorem dX10_groundsOf_6 : decode cX10_groundsOf 6 = .ok (.aload_n 0, 1) := by decide +kernel
theorem dX10_groundsOf_7 : decode cX10_groundsOf 7 = .ok (.iload_n 1, 1) := by decide +kernel
theorem dX10_groundsOf_8 : decode cX10_groundsOf 8 = .ok (.bipush 10, 2) := by decide +kernel
theorem dX10_groundsOf_10 : decode cX10_groundsOf 10 = .ok (.invokevirtual 65, 3) := by decide +kernel
theorem dX10_groundsOf_13 : decode cX10_groundsOf 13 = .ok (.iand, 1) := by decide +kernel
theorem dX10_groundsOf_14 : decode cX10_groundsOf 14 = .ok (.aload_n 0, 1) := by decide +kernel
theorem dX10_groundsOf_15 : decode cX10_groundsOf 15 = .ok (.iload_n 1, 1) := by decide +kernel
theorem dX10_groundsOf_16 : decode cX10_groundsOf 16 = .ok (.iconst 5, 1) := by decide +kernel
theorem dX10_groundsOf_17 : decode cX10_groundsOf 17 = .ok (.invokevirtual 65, 3) := by decide +kernel
theorem dX10_groundsOf_20 : decode cX10_groundsOf 20 = .ok (.aload_n 0, 1) := by decide +kernel
theorem dX10_groundsOf_21 : decode cX10_groundsOf 21 = .ok (.iload_n 1, 1) := by decide +kernel
theorem dX10_groundsOf_22 : decode cX10_groundsOf 22 = .ok (.bipush 9, 2) := by decide +kernel
theorem dX10_groundsOf_24 : decode cX10_groundsOf 24 = .ok (.invokevirtual 65, 3) := by decide +kernel
theorem dX10_groundsOf_27 : decode cX10_groundsOf 27 = .ok (.iand, 1) := by decide +kernel
theorem dX10_groundsOf_28 : decode cX10_groundsOf 28 = .ok (.ior, 1) := by decide +kernel
theorem dX10_groundsOf_29 : decode cX10_groundsOf 29 = .ok (.ireturn, 1) := by decide +kernel
theorem dX10_necessaryOf_0 : decode cX10_necessaryOf 0 = .ok (.aload_n 0, 1) := by decide +kernel
theorem dX10_necessaryOf_1 : decode cX10_necessaryOf 1 = .ok (.iload_n 1, 1) := by decide +kernel
theorem dX10_necessaryOf_2 : decode cX10_necessaryOf 2 = .ok (.invokevirtual 76, 3) := by decide +kernel
theorem dX10_necessaryOf_5 : decode cX10_necessaryOf 5 = .ok (.istore_n 2, 1) := by decide +kernel
theorem dX10_necessaryOf_6 : decode cX10_necessaryOf 6 = .ok (.iload_n 2, 1) := by decide +kernel
theorem dX10_necessaryOf_7 : decode cX10_necessaryOf 7 = .ok (.iconst (-1), 1) := by decide +kernel
theorem dX10_necessaryOf_8 : decode cX10_necessaryOf 8 = .ok (.if_icmp .ne 5, 3) := by decide +kernel
theorem dX10_necessaryOf_11 : decode cX10_necessaryOf 11 = .ok (.iconst 0, 1) := by decide +kernel
theorem dX10_necessaryOf_12 : decode cX10_necessaryOf 12 = .ok (.ireturn, 1) := by decide +kernel
theorem dX10_necessaryOf_13 : decode cX10_necessaryOf 13 = .ok (.iload_n 2, 1) := by decide +kernel
theorem dX10_necessaryOf_14 : decode cX10_necessaryOf 14 = .ok (.ifCond .ne 25, 3) := by decide +kernel
theorem dX10_necessaryOf_17 : decode cX10_necessaryOf 17 = .ok (.aload_n 0, 1) := by decide +kernel
theorem dX10_necessaryOf_18 : decode cX10_necessaryOf 18 = .ok (.iload_n 1, 1) := by decide +kernel
theorem dX10_necessaryOf_19 : decode cX10_necessaryOf 19 = .ok (.iconst 4, 1) := by decide +kernel
theorem dX10_necessaryOf_20 : decode cX10_necessaryOf 20 = .ok (.invokevirtual 65, 3) := by decide +kernel
theorem dX10_necessaryOf_23 : decode cX10_necessaryOf 23 = .ok (.aload_n 0, 1) := by decide +kernel
theorem dX10_necessaryOf_24 : decode cX10_necessaryOf 24 = .ok (.iload_n 1, 1) := by decide +kernel
theorem dX10_necessaryOf_25 : decode cX10_necessaryOf 25 = .ok (.iconst 5, 1) := by decide +kernel
theorem dX10_necessaryOf_26 : decode cX10_necessaryOf 26 = .ok (.invokevirtual 65, 3) := by decide +kernel
theorem dX10_necessaryOf_29 : decode cX10_necessaryOf 29 = .ok (.aload_n 0, 1) := by decide +kernel
theorem dX10_necessaryOf_30 : decode cX10_necessaryOf 30 = .ok (.iload_n 1, 1) := by decide +kernel
theorem dX10_necessaryOf_31 : decode cX10_necessaryOf 31 = .ok (.bipush 10, 2) := by decide +kernel
theorem dX10_necessaryOf_33 : decode cX10_necessaryOf 33 = .ok (.invokevirtual 65, 3) := by decide +kernel
theorem dX10_necessaryOf_36 : decode cX10_necessaryOf 36 = .ok (.iand, 1) := by decide +kernel
theorem dX10_necessaryOf_37 : decode cX10_necessaryOf 37 = .ok (.ior, 1) := by decide +kernel
theorem dX10_necessaryOf_38 : decode cX10_necessaryOf 38 = .ok (.ireturn, 1) := by decide +kernel
theorem dX10_necessaryOf_39 : decode cX10_necessaryOf 39 = .ok (.aload_n 0, 1) := by decide +kernel
theorem dX10_necessaryOf_40 : decode cX10_necessaryOf 40 = .ok (.iload_n 1, 1) := by decide +kernel
theorem dX10_necessaryOf_41 : decode cX10_necessaryOf 41 = .ok (.invokevirtual 80, 3) := by decide +kernel
theorem dX10_necessaryOf_44 : decode cX10_necessaryOf 44 = .ok (.istore_n 3, 1) := by decide +kernel
theorem dX10_necessaryOf_45 : decode cX10_necessaryOf 45 = .ok (.iload_n 3, 1) := by decide +kernel
theorem dX10_necessaryOf_46 : decode cX10_necessaryOf 46 = .ok (.invokestatic 83, 3) := by decide +kernel
theorem dX10_necessaryOf_49 : decode cX10_necessaryOf 49 = .ok (.iconst 1, 1) := by decide +kernel
theorem dX10_necessaryOf_50 : decode cX10_necessaryOf 50 = .ok (.if_icmp .eq 13, 3) := by decide +kernel
theorem dX10_necessaryOf_53 : decode cX10_necessaryOf 53 = .ok (.aload_n 0, 1) := by decide +kernel
theorem dX10_necessaryOf_54 : decode cX10_necessaryOf 54 = .ok (.getfield 9, 3) := by decide +kernel
theorem dX10_necessaryOf_57 : decode cX10_necessaryOf 57 = .ok (.iconst 5, 1) := by decide +kernel
theorem dX10_necessaryOf_58 : decode cX10_necessaryOf 58 = .ok (.iaload, 1) := by decide +kernel
theorem dX10_necessaryOf_59 : decode cX10_necessaryOf 59 = .ok (.iconst 1, 1) := by decide +kernel
theorem dX10_necessaryOf_60 : decode cX10_necessaryOf 60 = .ok (.if_icmp .ne 7, 3) := by decide +kernel
theorem dX10_necessaryOf_63 : decode cX10_necessaryOf 63 = .ok (.iload_n 3, 1) := by decide +kernel
theorem dX10_necessaryOf_64 : decode cX10_necessaryOf 64 = .ok (.goto 4, 3) := by decide +kernel
theorem dX10_necessaryOf_67 : decode cX10_necessaryOf 67 = .ok (.iconst 0, 1) := by decide +kernel
theorem dX10_necessaryOf_68 : decode cX10_necessaryOf 68 = .ok (.ireturn, 1) := by decide +kernel
theorem dX10_settledOf_0 : decode cX10_settledOf 0 = .ok (.aload_n 0, 1) := by decide +kernel
theorem dX10_settledOf_1 : decode cX10_settledOf 1 = .ok (.iload_n 1, 1) := by decide +kernel
theorem dX10_settledOf_2 : decode cX10_settledOf 2 = .ok (.invokevirtual 86, 3) := by decide +kernel
theorem dX10_settledOf_5 : decode cX10_settledOf 5 = .ok (.ifCond .eq 7, 3) := by decide +kernel
theorem dX10_settledOf_8 : decode cX10_settledOf 8 = .ok (.iconst 0, 1) := by decide +kernel
theorem dX10_settledOf_9 : decode cX10_settledOf 9 = .ok (.goto 18, 3) := by decide +kernel
theorem dX10_settledOf_12 : decode cX10_settledOf 12 = .ok (.aload_n 0, 1) := by decide +kernel
theorem dX10_settledOf_13 : decode cX10_settledOf 13 = .ok (.iload_n 1, 1) := by decide +kernel
theorem dX10_settledOf_14 : decode cX10_settledOf 14 = .ok (.invokevirtual 89, 3) := by decide +kernel
theorem dX10_settledOf_17 : decode cX10_settledOf 17 = .ok (.aload_n 0, 1) := by decide +kernel
theorem dX10_settledOf_18 : decode cX10_settledOf 18 = .ok (.iload_n 1, 1) := by decide +kernel
theorem dX10_settledOf_19 : decode cX10_settledOf 19 = .ok (.bipush 11, 2) := by decide +kernel
theorem dX10_settledOf_21 : decode cX10_settledOf 21 = .ok (.invokevirtual 65, 3) := by decide +kernel
theorem dX10_settledOf_24 : decode cX10_settledOf 24 = .ok (.iconst (-1), 1) := by decide +kernel
theorem dX10_settledOf_25 : decode cX10_settledOf 25 = .ok (.ixor, 1) := by decide +kernel
theorem dX10_settledOf_26 : decode cX10_settledOf 26 = .ok (.iand, 1) := by decide +kernel
theorem dX10_settledOf_27 : decode cX10_settledOf 27 = .ok (.ireturn, 1) := by decide +kernel
theorem dX10_binds_0 : decode cX10_binds 0 = .ok (.aload_n 0, 1) := by decide +kernel
theorem dX10_binds_1 : decode cX10_binds 1 = .ok (.iload_n 1, 1) := by decide +kernel
theorem dX10_binds_2 : decode cX10_binds 2 = .ok (.iconst 2, 1) := by decide +kernel
theorem dX10_binds_3 : decode cX10_binds 3 = .ok (.invokevirtual 92, 3) := by decide +kernel
theorem dX10_binds_6 : decode cX10_binds 6 = .ok (.iconst 1, 1) := by decide +kernel
theorem dX10_binds_7 : decode cX10_binds 7 = .ok (.if_icmp .ne 20, 3) := by decide +kernel
theorem dX10_binds_10 : decode cX10_binds 10 = .ok (.iload_n 2, 1) := by decide +kernel
theorem dX10_binds_11 : decode cX10_binds 11 = .ok (.aload_n 0, 1) := by decide +kernel
theorem dX10_binds_12 : decode cX10_binds 12 = .ok (.iload_n 1, 1) := by decide +kernel
theorem dX10_binds_13 : decode cX10_binds 13 = .ok (.iconst 3, 1) := by decide +kernel
theorem dX10_binds_14 : decode cX10_binds 14 = .ok (.invokevirtual 92, 3) := by decide +kernel
theorem dX10_binds_17 : decode cX10_binds 17 = .ok (.aload_n 0, 1) := by decide +kernel
theorem dX10_binds_18 : decode cX10_binds 18 = .ok (.iload_n 1, 1) := by decide +kernel
theorem dX10_binds_19 : decode cX10_binds 19 = .ok (.iconst 4, 1) := by decide +kernel
theorem dX10_binds_20 : decode cX10_binds 20 = .ok (.invokevirtual 92, 3) := by decide +kernel
theorem dX10_binds_23 : decode cX10_binds 23 = .ok (.invokestatic 58, 3) := by decide +kernel
theorem dX10_binds_26 : decode cX10_binds 26 = .ok (.ireturn, 1) := by decide +kernel
theorem dX10_binds_27 : decode cX10_binds 27 = .ok (.aload_n 0, 1) := by decide +kernel
theorem dX10_binds_28 : decode cX10_binds 28 = .ok (.iload_n 1, 1) := by decide +kernel
theorem dX10_binds_29 : decode cX10_binds 29 = .ok (.iconst 3, 1) := by decide +kernel
theorem dX10_binds_30 : decode cX10_binds 30 = .ok (.invokevirtual 92, 3) := by decide +kernel
theorem dX10_binds_33 : decode cX10_binds 33 = .ok (.iload_n 2, 1) := by decide +kernel
theorem dX10_binds_34 : decode cX10_binds 34 = .ok (.if_icmp .lt 7, 3) := by decide +kernel
theorem dX10_binds_37 : decode cX10_binds 37 = .ok (.iconst 1, 1) := by decide +kernel
theorem dX10_binds_38 : decode cX10_binds 38 = .ok (.goto 4, 3) := by decide +kernel
theorem dX10_binds_41 : decode cX10_binds 41 = .ok (.iconst 0, 1) := by decide +kernel
theorem dX10_binds_42 : decode cX10_binds 42 = .ok (.ireturn, 1) := by decide +kernel
theorem dX10_boundBy_0 : decode cX10_boundBy 0 = .ok (.iconst 1, 1) := by decide +kernel
theorem dX10_boundBy_1 : decode cX10_boundBy 1 = .ok (.aload_n 0, 1) := by decide +kernel
theorem dX10_boundBy_2 : decode cX10_boundBy 2 = .ok (.iload_n 1, 1) := by decide +kernel
theorem dX10_boundBy_3 : decode cX10_boundBy 3 = .ok (.iconst 0, 1) := by decide +kernel
theorem dX10_boundBy_4 : decode cX10_boundBy 4 = .ok (.iload_n 2, 1) := by decide +kernel
theorem dX10_boundBy_5 : decode cX10_boundBy 5 = .ok (.iadd, 1) := by decide +kernel
theorem dX10_boundBy_6 : decode cX10_boundBy 6 = .ok (.invokevirtual 65, 3) := by decide +kernel
theorem dX10_boundBy_9 : decode cX10_boundBy 9 = .ok (.ishl, 1) := by decide +kernel
theorem dX10_boundBy_10 : decode cX10_boundBy 10 = .ok (.istore_n 3, 1) := by decide +kernel
theorem dX10_boundBy_11 : decode cX10_boundBy 11 = .ok (.iconst 0, 1) := by decide +kernel
theorem dX10_boundBy_12 : decode cX10_boundBy 12 = .ok (.istore 4, 2) := by decide +kernel
theorem dX10_boundBy_14 : decode cX10_boundBy 14 = .ok (.iload 4, 2) := by decide +kernel
theorem dX10_boundBy_16 : decode cX10_boundBy 16 = .ok (.iload_n 3, 1) := by decide +kernel
theorem dX10_boundBy_17 : decode cX10_boundBy 17 = .ok (.if_icmp .eq 69, 3) := by decide +kernel
theorem dX10_boundBy_20 : decode cX10_boundBy 20 = .ok (.iload_n 3, 1) := by decide +kernel
theorem dX10_boundBy_21 : decode cX10_boundBy 21 = .ok (.istore 4, 2) := by decide +kernel
theorem dX10_boundBy_23 : decode cX10_boundBy 23 = .ok (.iconst 0, 1) := by decide +kernel
theorem dX10_boundBy_24 : decode cX10_boundBy 24 = .ok (.istore 5, 2) := by decide +kernel
theorem dX10_boundBy_26 : decode cX10_boundBy 26 = .ok (.iload 5, 2) := by decide +kernel
theorem dX10_boundBy_28 : decode cX10_boundBy 28 = .ok (.aload_n 0, 1) := by decide +kernel
theorem dX10_boundBy_29 : decode cX10_boundBy 29 = .ok (.invokevirtual 95, 3) := by decide +kernel
theorem dX10_boundBy_32 : decode cX10_boundBy 32 = .ok (.if_icmp .ge 51, 3) := by decide +kernel
theorem dX10_boundBy_35 : decode cX10_boundBy 35 = .ok (.iload_n 3, 1) := by decide +kernel
theorem dX10_boundBy_36 : decode cX10_boundBy 36 = .ok (.aload_n 0, 1) := by decide +kernel
theorem dX10_boundBy_37 : decode cX10_boundBy 37 = .ok (.iload 5, 2) := by decide +kernel
theorem dX10_boundBy_39 : decode cX10_boundBy 39 = .ok (.iconst 0, 1) := by decide +kernel
theorem dX10_boundBy_40 : decode cX10_boundBy 40 = .ok (.invokevirtual 92, 3) := by decide +kernel
theorem dX10_boundBy_43 : decode cX10_boundBy 43 = .ok (.invokestatic 98, 3) := by decide +kernel
theorem dX10_boundBy_46 : decode cX10_boundBy 46 = .ok (.ifCond .eq 31, 3) := by decide +kernel
theorem dX10_boundBy_49 : decode cX10_boundBy 49 = .ok (.aload_n 0, 1) := by decide +kernel
theorem dX10_boundBy_50 : decode cX10_boundBy 50 = .ok (.iload 5, 2) := by decide +kernel
theorem dX10_boundBy_52 : decode cX10_boundBy 52 = .ok (.aload_n 0, 1) := by decide +kernel
theorem dX10_boundBy_53 : decode cX10_boundBy 53 = .ok (.iload_n 1, 1) := by decide +kernel
theorem dX10_boundBy_54 : decode cX10_boundBy 54 = .ok (.bipush 6, 2) := by decide +kernel
theorem dX10_boundBy_56 : decode cX10_boundBy 56 = .ok (.invokevirtual 65, 3) := by decide +kernel
theorem dX10_boundBy_59 : decode cX10_boundBy 59 = .ok (.invokevirtual 102, 3) := by decide +kernel
theorem dX10_boundBy_62 : decode cX10_boundBy 62 = .ok (.ifCond .eq 15, 3) := by decide +kernel
theorem dX10_boundBy_65 : decode cX10_boundBy 65 = .ok (.iload_n 3, 1) := by decide +kernel
theorem dX10_boundBy_66 : decode cX10_boundBy 66 = .ok (.iconst 1, 1) := by decide +kernel
theorem dX10_boundBy_67 : decode cX10_boundBy 67 = .ok (.aload_n 0, 1) := by decide +kernel
theorem dX10_boundBy_68 : decode cX10_boundBy 68 = .ok (.iload 5, 2) := by decide +kernel
theorem dX10_boundBy_70 : decode cX10_boundBy 70 = .ok (.iconst 1, 1) := by decide +kernel
theorem dX10_boundBy_71 : decode cX10_boundBy 71 = .ok (.invokevirtual 92, 3) := by decide +kernel
theorem dX10_boundBy_74 : decode cX10_boundBy 74 = .ok (.ishl, 1) := by decide +kernel
theorem dX10_boundBy_75 : decode cX10_boundBy 75 = .ok (.ior, 1) := by decide +kernel
theorem dX10_boundBy_76 : decode cX10_boundBy 76 = .ok (.istore_n 3, 1) := by decide +kernel
theorem dX10_boundBy_77 : decode cX10_boundBy 77 = .ok (.iinc 5 1, 3) := by decide +kernel
theorem dX10_boundBy_80 : decode cX10_boundBy 80 = .ok (.goto (-54), 3) := by decide +kernel
theorem dX10_boundBy_83 : decode cX10_boundBy 83 = .ok (.goto (-69), 3) := by decide +kernel
theorem dX10_boundBy_86 : decode cX10_boundBy 86 = .ok (.iload_n 3, 1) := by decide +kernel
theorem dX10_boundBy_87 : decode cX10_boundBy 87 = .ok (.ireturn, 1) := by decide +kernel
theorem dX10_layBound_0 : decode cX10_layBound 0 = .ok (.iconst 0, 1) := by decide +kernel
theorem dX10_layBound_1 : decode cX10_layBound 1 = .ok (.istore_n 1, 1) := by decide +kernel
theorem dX10_layBound_2 : decode cX10_layBound 2 = .ok (.iload_n 1, 1) := by decide +kernel
theorem dX10_layBound_3 : decode cX10_layBound 3 = .ok (.aload_n 0, 1) := by decide +kernel
theorem dX10_layBound_4 : decode cX10_layBound 4 = .ok (.invokevirtual 62, 3) := by decide +kernel
theorem dX10_layBound_7 : decode cX10_layBound 7 = .ok (.if_icmp .ge 50, 3) := by decide +kernel
theorem dX10_layBound_10 : decode cX10_layBound 10 = .ok (.iconst 0, 1) := by decide +kernel
theorem dX10_layBound_11 : decode cX10_layBound 11 = .ok (.istore_n 2, 1) := by decide +kernel
theorem dX10_layBound_12 : decode cX10_layBound 12 = .ok (.iload_n 2, 1) := by decide +kernel
theorem dX10_layBound_13 : decode cX10_layBound 13 = .ok (.iconst 2, 1) := by decide +kernel
theorem dX10_layBound_14 : decode cX10_layBound 14 = .ok (.if_icmp .ge 37, 3) := by decide +kernel
theorem dX10_layBound_17 : decode cX10_layBound 17 = .ok (.aload_n 0, 1) := by decide +kernel
theorem dX10_layBound_18 : decode cX10_layBound 18 = .ok (.getfield 22, 3) := by decide +kernel
theorem dX10_layBound_21 : decode cX10_layBound 21 = .ok (.iconst 2, 1) := by decide +kernel
theorem dX10_layBound_22 : decode cX10_layBound 22 = .ok (.iload_n 1, 1) := by decide +kernel
theorem dX10_layBound_23 : decode cX10_layBound 23 = .ok (.imul, 1) := by decide +kernel
theorem dX10_layBound_24 : decode cX10_layBound 24 = .ok (.iload_n 2, 1) := by decide +kernel
theorem dX10_layBound_25 : decode cX10_layBound 25 = .ok (.iadd, 1) := by decide +kernel
theorem dX10_layBound_26 : decode cX10_layBound 26 = .ok (.aload_n 0, 1) := by decide +kernel
theorem dX10_layBound_27 : decode cX10_layBound 27 = .ok (.iload_n 1, 1) := by decide +kernel
theorem dX10_layBound_28 : decode cX10_layBound 28 = .ok (.invokevirtual 69, 3) := by decide +kernel
theorem dX10_layBound_31 : decode cX10_layBound 31 = .ok (.ifCond .eq 12, 3) := by decide +kernel
theorem dX10_layBound_34 : decode cX10_layBound 34 = .ok (.aload_n 0, 1) := by decide +kernel
theorem dX10_layBound_35 : decode cX10_layBound 35 = .ok (.iload_n 1, 1) := by decide +kernel
theorem dX10_layBound_36 : decode cX10_layBound 36 = .ok (.iload_n 2, 1) := by decide +kernel
theorem dX10_layBound_37 : decode cX10_layBound 37 = .ok (.invokevirtual 105, 3) := by decide +kernel
theorem dX10_layBound_40 : decode cX10_layBound 40 = .ok (.goto 4, 3) := by decide +kernel
theorem dX10_layBound_43 : decode cX10_layBound 43 = .ok (.iconst 0, 1) := by decide +kernel
theorem dX10_layBound_44 : decode cX10_layBound 44 = .ok (.iastore, 1) := by decide +kernel
theorem dX10_layBound_45 : decode cX10_layBound 45 = .ok (.iinc 2 1, 3) := by decide +kernel
theorem dX10_layBound_48 : decode cX10_layBound 48 = .ok (.goto (-36), 3) := by decide +kernel
theorem dX10_layBound_51 : decode cX10_layBound 51 = .ok (.iinc 1 1, 3) := by decide +kernel
theorem dX10_layBound_54 : decode cX10_layBound 54 = .ok (.goto (-52), 3) := by decide +kernel
theorem dX10_layBound_57 : decode cX10_layBound 57 = .ok (.return_, 1) := by decide +kernel
theorem dX10_isBoundBy_0 : decode cX10_isBoundBy 0 = .ok (.aload_n 0, 1) := by decide +kernel
theorem dX10_isBoundBy_1 : decode cX10_isBoundBy 1 = .ok (.getfield 22, 3) := by decide +kernel
theorem dX10_isBoundBy_4 : decode cX10_isBoundBy 4 = .ok (.iconst 2, 1) := by decide +kernel
theorem dX10_isBoundBy_5 : decode cX10_isBoundBy 5 = .ok (.iload_n 1, 1) := by decide +kernel
theorem dX10_isBoundBy_6 : decode cX10_isBoundBy 6 = .ok (.imul, 1) := by decide +kernel
theorem dX10_isBoundBy_7 : decode cX10_isBoundBy 7 = .ok (.iload_n 2, 1) := by decide +kernel
theorem dX10_isBoundBy_8 : decode cX10_isBoundBy 8 = .ok (.iadd, 1) := by decide +kernel
theorem dX10_isBoundBy_9 : decode cX10_isBoundBy 9 = .ok (.iaload, 1) := by decide +kernel
theorem dX10_isBoundBy_10 : decode cX10_isBoundBy 10 = .ok (.iload_n 3, 1) := by decide +kernel
theorem dX10_isBoundBy_11 : decode cX10_isBoundBy 11 = .ok (.invokestatic 98, 3) := by decide +kernel
theorem dX10_isBoundBy_14 : decode cX10_isBoundBy 14 = .ok (.ireturn, 1) := by decide +kernel
theorem dX10_isBoundAtAll_0 : decode cX10_isBoundAtAll 0 = .ok (.aload_n 0, 1) := by decide +kernel
theorem dX10_isBoundAtAll_1 : decode cX10_isBoundAtAll 1 = .ok (.iload_n 1, 1) := by decide +kernel
theorem dX10_isBoundAtAll_2 : decode cX10_isBoundAtAll 2 = .ok (.iconst 0, 1) := by decide +kernel
theorem dX10_isBoundAtAll_3 : decode cX10_isBoundAtAll 3 = .ok (.iload_n 2, 1) := by decide +kernel
theorem dX10_isBoundAtAll_4 : decode cX10_isBoundAtAll 4 = .ok (.invokevirtual 108, 3) := by decide +kernel
theorem dX10_isBoundAtAll_7 : decode cX10_isBoundAtAll 7 = .ok (.ifCond .ne 13, 3) := by decide +kernel
theorem dX10_isBoundAtAll_10 : decode cX10_isBoundAtAll 10 = .ok (.aload_n 0, 1) := by decide +kernel
theorem dX10_isBoundAtAll_11 : decode cX10_isBoundAtAll 11 = .ok (.iload_n 1, 1) := by decide +kernel
theorem dX10_isBoundAtAll_12 : decode cX10_isBoundAtAll 12 = .ok (.iconst 1, 1) := by decide +kernel
theorem dX10_isBoundAtAll_13 : decode cX10_isBoundAtAll 13 = .ok (.iload_n 2, 1) := by decide +kernel
theorem dX10_isBoundAtAll_14 : decode cX10_isBoundAtAll 14 = .ok (.invokevirtual 108, 3) := by decide +kernel
theorem dX10_isBoundAtAll_17 : decode cX10_isBoundAtAll 17 = .ok (.ifCond .eq 7, 3) := by decide +kernel
theorem dX10_isBoundAtAll_20 : decode cX10_isBoundAtAll 20 = .ok (.iconst 1, 1) := by decide +kernel
theorem dX10_isBoundAtAll_21 : decode cX10_isBoundAtAll 21 = .ok (.goto 4, 3) := by decide +kernel
theorem dX10_isBoundAtAll_24 : decode cX10_isBoundAtAll 24 = .ok (.iconst 0, 1) := by decide +kernel
theorem dX10_isBoundAtAll_25 : decode cX10_isBoundAtAll 25 = .ok (.ireturn, 1) := by decide +kernel
theorem dX10_layAway_0 : decode cX10_layAway 0 = .ok (.iconst 0, 1) := by decide +kernel
theorem dX10_layAway_1 : decode cX10_layAway 1 = .ok (.istore_n 3, 1) := by decide +kernel
theorem dX10_layAway_2 : decode cX10_layAway 2 = .ok (.iload_n 3, 1) := by decide +kernel
theorem dX10_layAway_3 : decode cX10_layAway 3 = .ok (.bipush 12, 2) := by decide +kernel
theorem dX10_layAway_5 : decode cX10_layAway 5 = .ok (.if_icmp .ge 16, 3) := by decide +kernel
theorem dX10_layAway_8 : decode cX10_layAway 8 = .ok (.aload_n 0, 1) := by decide +kernel
theorem dX10_layAway_9 : decode cX10_layAway 9 = .ok (.getfield 25, 3) := by decide +kernel
theorem dX10_layAway_12 : decode cX10_layAway 12 = .ok (.iload_n 3, 1) := by decide +kernel
theorem dX10_layAway_13 : decode cX10_layAway 13 = .ok (.iconst (-1), 1) := by decide +kernel
theorem dX10_layAway_14 : decode cX10_layAway 14 = .ok (.iastore, 1) := by decide +kernel
theorem dX10_layAway_15 : decode cX10_layAway 15 = .ok (.iinc 3 1, 3) := by decide +kernel
theorem dX10_layAway_18 : decode cX10_layAway 18 = .ok (.goto (-16), 3) := by decide +kernel
theorem dX10_layAway_21 : decode cX10_layAway 21 = .ok (.aload_n 0, 1) := by decide +kernel
theorem dX10_layAway_22 : decode cX10_layAway 22 = .ok (.getfield 25, 3) := by decide +kernel
theorem dX10_layAway_25 : decode cX10_layAway 25 = .ok (.iload_n 2, 1) := by decide +kernel
theorem dX10_layAway_26 : decode cX10_layAway 26 = .ok (.iconst 0, 1) := by decide +kernel
theorem dX10_layAway_27 : decode cX10_layAway 27 = .ok (.iastore, 1) := by decide +kernel
theorem dX10_layAway_28 : decode cX10_layAway 28 = .ok (.iconst 0, 1) := by decide +kernel
theorem dX10_layAway_29 : decode cX10_layAway 29 = .ok (.istore_n 3, 1) := by decide +kernel
theorem dX10_layAway_30 : decode cX10_layAway 30 = .ok (.iload_n 3, 1) := by decide +kernel
theorem dX10_layAway_31 : decode cX10_layAway 31 = .ok (.aload_n 0, 1) := by decide +kernel
theorem dX10_layAway_32 : decode cX10_layAway 32 = .ok (.invokevirtual 54, 3) := by decide +kernel
theorem dX10_layAway_35 : decode cX10_layAway 35 = .ok (.if_icmp .ge 89, 3) := by decide +kernel
theorem dX10_layAway_38 : decode cX10_layAway 38 = .ok (.iconst 0, 1) := by decide +kernel
theorem dX10_layAway_39 : decode cX10_layAway 39 = .ok (.istore 4, 2) := by decide +kernel
theorem dX10_layAway_41 : decode cX10_layAway 41 = .ok (.iload 4, 2) := by decide +kernel
theorem dX10_layAway_43 : decode cX10_layAway 43 = .ok (.aload_n 0, 1) := by decide +kernel
theorem dX10_layAway_44 : decode cX10_layAway 44 = .ok (.invokevirtual 95, 3) := by decide +kernel
theorem dX10_layAway_47 : decode cX10_layAway 47 = .ok (.if_icmp .ge 71, 3) := by decide +kernel
theorem dX10_layAway_50 : decode cX10_layAway 50 = .ok (.aload_n 0, 1) := by decide +kernel
theorem dX10_layAway_51 : decode cX10_layAway 51 = .ok (.iload 4, 2) := by decide +kernel
theorem dX10_layAway_53 : decode cX10_layAway 53 = .ok (.iconst 0, 1) := by decide +kernel
theorem dX10_layAway_54 : decode cX10_layAway 54 = .ok (.invokevirtual 92, 3) := by decide +kernel
theorem dX10_layAway_57 : decode cX10_layAway 57 = .ok (.istore 5, 2) := by decide +kernel
theorem dX10_layAway_59 : decode cX10_layAway 59 = .ok (.aload_n 0, 1) := by decide +kernel
theorem dX10_layAway_60 : decode cX10_layAway 60 = .ok (.getfield 25, 3) := by decide +kernel
theorem dX10_layAway_63 : decode cX10_layAway 63 = .ok (.aload_n 0, 1) := by decide +kernel
theorem dX10_layAway_64 : decode cX10_layAway 64 = .ok (.iload 4, 2) := by decide +kernel
theorem dX10_layAway_66 : decode cX10_layAway 66 = .ok (.iconst 1, 1) := by decide +kernel
theorem dX10_layAway_67 : decode cX10_layAway 67 = .ok (.invokevirtual 92, 3) := by decide +kernel
theorem dX10_layAway_70 : decode cX10_layAway 70 = .ok (.iaload, 1) := by decide +kernel
theorem dX10_layAway_71 : decode cX10_layAway 71 = .ok (.iload_n 3, 1) := by decide +kernel
theorem dX10_layAway_72 : decode cX10_layAway 72 = .ok (.if_icmp .ne 40, 3) := by decide +kernel
theorem dX10_layAway_75 : decode cX10_layAway 75 = .ok (.aload_n 0, 1) := by decide +kernel
theorem dX10_layAway_76 : decode cX10_layAway 76 = .ok (.getfield 25, 3) := by decide +kernel
theorem dX10_layAway_79 : decode cX10_layAway 79 = .ok (.iload 5, 2) := by decide +kernel
theorem dX10_layAway_81 : decode cX10_layAway 81 = .ok (.iaload, 1) := by decide +kernel
theorem dX10_layAway_82 : decode cX10_layAway 82 = .ok (.iconst (-1), 1) := by decide +kernel
theorem dX10_layAway_83 : decode cX10_layAway 83 = .ok (.if_icmp .ne 29, 3) := by decide +kernel
theorem dX10_layAway_86 : decode cX10_layAway 86 = .ok (.aload_n 0, 1) := by decide +kernel
theorem dX10_layAway_87 : decode cX10_layAway 87 = .ok (.iload 4, 2) := by decide +kernel
theorem dX10_layAway_89 : decode cX10_layAway 89 = .ok (.aload_n 0, 1) := by decide +kernel
theorem dX10_layAway_90 : decode cX10_layAway 90 = .ok (.iload_n 1, 1) := by decide +kernel
theorem dX10_layAway_91 : decode cX10_layAway 91 = .ok (.bipush 6, 2) := by decide +kernel
theorem dX10_layAway_93 : decode cX10_layAway 93 = .ok (.invokevirtual 65, 3) := by decide +kernel
theorem dX10_layAway_96 : decode cX10_layAway 96 = .ok (.invokevirtual 102, 3) := by decide +kernel
theorem dX10_layAway_99 : decode cX10_layAway 99 = .ok (.ifCond .eq 13, 3) := by decide +kernel
theorem dX10_layAway_102 : decode cX10_layAway 102 = .ok (.aload_n 0, 1) := by decide +kernel
theorem dX10_layAway_103 : decode cX10_layAway 103 = .ok (.getfield 25, 3) := by decide +kernel
theorem dX10_layAway_106 : decode cX10_layAway 106 = .ok (.iload 5, 2) := by decide +kernel
theorem dX10_layAway_108 : decode cX10_layAway 108 = .ok (.iload_n 3, 1) := by decide +kernel
theorem dX10_layAway_109 : decode cX10_layAway 109 = .ok (.iconst 1, 1) := by decide +kernel
theorem dX10_layAway_110 : decode cX10_layAway 110 = .ok (.iadd, 1) := by decide +kernel
theorem dX10_layAway_111 : decode cX10_layAway 111 = .ok (.iastore, 1) := by decide +kernel
theorem dX10_layAway_112 : decode cX10_layAway 112 = .ok (.iinc 4 1, 3) := by decide +kernel
theorem dX10_layAway_115 : decode cX10_layAway 115 = .ok (.goto (-74), 3) := by decide +kernel
theorem dX10_layAway_118 : decode cX10_layAway 118 = .ok (.iinc 3 1, 3) := by decide +kernel
theorem dX10_layAway_121 : decode cX10_layAway 121 = .ok (.goto (-91), 3) := by decide +kernel
theorem dX10_layAway_124 : decode cX10_layAway 124 = .ok (.return_, 1) := by decide +kernel
theorem dX10_nearer_0 : decode cX10_nearer 0 = .ok (.iconst 0, 1) := by decide +kernel
theorem dX10_nearer_1 : decode cX10_nearer 1 = .ok (.istore_n 3, 1) := by decide +kernel
theorem dX10_nearer_2 : decode cX10_nearer 2 = .ok (.aload_n 0, 1) := by decide +kernel
theorem dX10_nearer_3 : decode cX10_nearer 3 = .ok (.iload_n 3, 1) := by decide +kernel
theorem dX10_nearer_4 : decode cX10_nearer 4 = .ok (.iconst 0, 1) := by decide +kernel
theorem dX10_nearer_5 : decode cX10_nearer 5 = .ok (.invokevirtual 92, 3) := by decide +kernel
theorem dX10_nearer_8 : decode cX10_nearer 8 = .ok (.iload_n 2, 1) := by decide +kernel
theorem dX10_nearer_9 : decode cX10_nearer 9 = .ok (.if_icmp .ne 40, 3) := by decide +kernel
theorem dX10_nearer_12 : decode cX10_nearer 12 = .ok (.aload_n 0, 1) := by decide +kernel
theorem dX10_nearer_13 : decode cX10_nearer 13 = .ok (.iload_n 3, 1) := by decide +kernel
theorem dX10_nearer_14 : decode cX10_nearer 14 = .ok (.aload_n 0, 1) := by decide +kernel
theorem dX10_nearer_15 : decode cX10_nearer 15 = .ok (.iload_n 1, 1) := by decide +kernel
theorem dX10_nearer_16 : decode cX10_nearer 16 = .ok (.bipush 6, 2) := by decide +kernel
theorem dX10_nearer_18 : decode cX10_nearer 18 = .ok (.invokevirtual 65, 3) := by decide +kernel
theorem dX10_nearer_21 : decode cX10_nearer 21 = .ok (.invokevirtual 102, 3) := by decide +kernel
theorem dX10_nearer_24 : decode cX10_nearer 24 = .ok (.ifCond .eq 25, 3) := by decide +kernel
theorem dX10_nearer_27 : decode cX10_nearer 27 = .ok (.aload_n 0, 1) := by decide +kernel
theorem dX10_nearer_28 : decode cX10_nearer 28 = .ok (.getfield 25, 3) := by decide +kernel
theorem dX10_nearer_31 : decode cX10_nearer 31 = .ok (.aload_n 0, 1) := by decide +kernel
theorem dX10_nearer_32 : decode cX10_nearer 32 = .ok (.iload_n 3, 1) := by decide +kernel
theorem dX10_nearer_33 : decode cX10_nearer 33 = .ok (.iconst 1, 1) := by decide +kernel
theorem dX10_nearer_34 : decode cX10_nearer 34 = .ok (.invokevirtual 92, 3) := by decide +kernel
theorem dX10_nearer_37 : decode cX10_nearer 37 = .ok (.iaload, 1) := by decide +kernel
theorem dX10_nearer_38 : decode cX10_nearer 38 = .ok (.aload_n 0, 1) := by decide +kernel
theorem dX10_nearer_39 : decode cX10_nearer 39 = .ok (.getfield 25, 3) := by decide +kernel
theorem dX10_nearer_42 : decode cX10_nearer 42 = .ok (.iload_n 2, 1) := by decide +kernel
theorem dX10_nearer_43 : decode cX10_nearer 43 = .ok (.iaload, 1) := by decide +kernel
theorem dX10_nearer_44 : decode cX10_nearer 44 = .ok (.iconst 1, 1) := by decide +kernel
theorem dX10_nearer_45 : decode cX10_nearer 45 = .ok (.isub, 1) := by decide +kernel
theorem dX10_nearer_46 : decode cX10_nearer 46 = .ok (.if_icmp .eq 9, 3) := by decide +kernel
theorem dX10_nearer_49 : decode cX10_nearer 49 = .ok (.iinc 3 1, 3) := by decide +kernel
theorem dX10_nearer_52 : decode cX10_nearer 52 = .ok (.goto (-50), 3) := by decide +kernel
theorem dX10_nearer_55 : decode cX10_nearer 55 = .ok (.iload_n 3, 1) := by decide +kernel
theorem dX10_nearer_56 : decode cX10_nearer 56 = .ok (.ireturn, 1) := by decide +kernel
theorem dX10_comesBehind_0 : decode cX10_comesBehind 0 = .ok (.iload_n 2, 1) := by decide +kernel
theorem dX10_comesBehind_1 : decode cX10_comesBehind 1 = .ok (.iload_n 1, 1) := by decide +kernel
theorem dX10_comesBehind_2 : decode cX10_comesBehind 2 = .ok (.if_icmp .eq 39, 3) := by decide +kernel
theorem dX10_comesBehind_5 : decode cX10_comesBehind 5 = .ok (.aload_n 0, 1) := by decide +kernel
theorem dX10_comesBehind_6 : decode cX10_comesBehind 6 = .ok (.iload_n 2, 1) := by decide +kernel
theorem dX10_comesBehind_7 : decode cX10_comesBehind 7 = .ok (.invokevirtual 69, 3) := by decide +kernel
theorem dX10_comesBehind_10 : decode cX10_comesBehind 10 = .ok (.ifCond .eq 31, 3) := by decide +kernel
theorem dX10_comesBehind_13 : decode cX10_comesBehind 13 = .ok (.aload_n 0, 1) := by decide +kernel
theorem dX10_comesBehind_14 : decode cX10_comesBehind 14 = .ok (.iload_n 2, 1) := by decide +kernel
theorem dX10_comesBehind_15 : decode cX10_comesBehind 15 = .ok (.invokevirtual 86, 3) := by decide +kernel
theorem dX10_comesBehind_18 : decode cX10_comesBehind 18 = .ok (.ifCond .ne 23, 3) := by decide +kernel
theorem dX10_comesBehind_21 : decode cX10_comesBehind 21 = .ok (.aload_n 0, 1) := by decide +kernel
theorem dX10_comesBehind_22 : decode cX10_comesBehind 22 = .ok (.iload_n 1, 1) := by decide +kernel
theorem dX10_comesBehind_23 : decode cX10_comesBehind 23 = .ok (.iconst 2, 1) := by decide +kernel
theorem dX10_comesBehind_24 : decode cX10_comesBehind 24 = .ok (.invokevirtual 65, 3) := by decide +kernel
theorem dX10_comesBehind_27 : decode cX10_comesBehind 27 = .ok (.aload_n 0, 1) := by decide +kernel
theorem dX10_comesBehind_28 : decode cX10_comesBehind 28 = .ok (.iload_n 2, 1) := by decide +kernel
theorem dX10_comesBehind_29 : decode cX10_comesBehind 29 = .ok (.bipush 6, 2) := by decide +kernel
theorem dX10_comesBehind_31 : decode cX10_comesBehind 31 = .ok (.invokevirtual 65, 3) := by decide +kernel
theorem dX10_comesBehind_34 : decode cX10_comesBehind 34 = .ok (.if_icmp .lt 7, 3) := by decide +kernel
theorem dX10_comesBehind_37 : decode cX10_comesBehind 37 = .ok (.iconst 1, 1) := by decide +kernel
theorem dX10_comesBehind_38 : decode cX10_comesBehind 38 = .ok (.goto 4, 3) := by decide +kernel
theorem dX10_comesBehind_41 : decode cX10_comesBehind 41 = .ok (.iconst 0, 1) := by decide +kernel
theorem dX10_comesBehind_42 : decode cX10_comesBehind 42 = .ok (.ireturn, 1) := by decide +kernel
theorem dX10_areSame_0 : decode cX10_areSame 0 = .ok (.aload_n 0, 1) := by decide +kernel
theorem dX10_areSame_1 : decode cX10_areSame 1 = .ok (.iload_n 2, 1) := by decide +kernel
theorem dX10_areSame_2 : decode cX10_areSame 2 = .ok (.iconst 3, 1) := by decide +kernel
theorem dX10_areSame_3 : decode cX10_areSame 3 = .ok (.invokevirtual 65, 3) := by decide +kernel
theorem dX10_areSame_6 : decode cX10_areSame 6 = .ok (.invokestatic 83, 3) := by decide +kernel
theorem dX10_areSame_9 : decode cX10_areSame 9 = .ok (.aload_n 0, 1) := by decide +kernel
theorem dX10_areSame_10 : decode cX10_areSame 10 = .ok (.iload_n 1, 1) := by decide +kernel
theorem dX10_areSame_11 : decode cX10_areSame 11 = .ok (.iconst 3, 1) := by decide +kernel
theorem dX10_areSame_12 : decode cX10_areSame 12 = .ok (.invokevirtual 65, 3) := by decide +kernel
theorem dX10_areSame_15 : decode cX10_areSame 15 = .ok (.invokestatic 83, 3) := by decide +kernel
theorem dX10_areSame_18 : decode cX10_areSame 18 = .ok (.invokestatic 111, 3) := by decide +kernel
theorem dX10_areSame_21 : decode cX10_areSame 21 = .ok (.istore_n 3, 1) := by decide +kernel
theorem dX10_areSame_22 : decode cX10_areSame 22 = .ok (.aload_n 0, 1) := by decide +kernel
theorem dX10_areSame_23 : decode cX10_areSame 23 = .ok (.iload_n 2, 1) := by decide +kernel
theorem dX10_areSame_24 : decode cX10_areSame 24 = .ok (.iconst 3, 1) := by decide +kernel
theorem dX10_areSame_25 : decode cX10_areSame 25 = .ok (.invokevirtual 65, 3) := by decide +kernel
theorem dX10_areSame_28 : decode cX10_areSame 28 = .ok (.aload_n 0, 1) := by decide +kernel
theorem dX10_areSame_29 : decode cX10_areSame 29 = .ok (.iload_n 1, 1) := by decide +kernel
theorem dX10_areSame_30 : decode cX10_areSame 30 = .ok (.iconst 3, 1) := by decide +kernel
theorem dX10_areSame_31 : decode cX10_areSame 31 = .ok (.invokevirtual 65, 3) := by decide +kernel
theorem dX10_areSame_34 : decode cX10_areSame 34 = .ok (.iand, 1) := by decide +kernel
theorem dX10_areSame_35 : decode cX10_areSame 35 = .ok (.invokestatic 83, 3) := by decide +kernel
theorem dX10_areSame_38 : decode cX10_areSame 38 = .ok (.istore 4, 2) := by decide +kernel
theorem dX10_areSame_40 : decode cX10_areSame 40 = .ok (.iload_n 3, 1) := by decide +kernel
theorem dX10_areSame_41 : decode cX10_areSame 41 = .ok (.ifCond .le 23, 3) := by decide +kernel
theorem dX10_areSame_44 : decode cX10_areSame 44 = .ok (.bipush 100, 2) := by decide +kernel
theorem dX10_areSame_46 : decode cX10_areSame 46 = .ok (.iload 4, 2) := by decide +kernel
theorem dX10_areSame_48 : decode cX10_areSame 48 = .ok (.imul, 1) := by decide +kernel
theorem dX10_areSame_49 : decode cX10_areSame 49 = .ok (.aload_n 0, 1) := by decide +kernel
theorem dX10_areSame_50 : decode cX10_areSame 50 = .ok (.getfield 9, 3) := by decide +kernel
theorem dX10_areSame_53 : decode cX10_areSame 53 = .ok (.iconst 3, 1) := by decide +kernel
theorem dX10_areSame_54 : decode cX10_areSame 54 = .ok (.iaload, 1) := by decide +kernel
theorem dX10_areSame_55 : decode cX10_areSame 55 = .ok (.iload_n 3, 1) := by decide +kernel
theorem dX10_areSame_56 : decode cX10_areSame 56 = .ok (.imul, 1) := by decide +kernel
theorem dX10_areSame_57 : decode cX10_areSame 57 = .ok (.if_icmp .lt 7, 3) := by decide +kernel
theorem dX10_areSame_60 : decode cX10_areSame 60 = .ok (.iconst 1, 1) := by decide +kernel
theorem dX10_areSame_61 : decode cX10_areSame 61 = .ok (.goto 4, 3) := by decide +kernel
theorem dX10_areSame_64 : decode cX10_areSame 64 = .ok (.iconst 0, 1) := by decide +kernel
theorem dX10_areSame_65 : decode cX10_areSame 65 = .ok (.ireturn, 1) := by decide +kernel
theorem dX10_isBarredBy_0 : decode cX10_isBarredBy 0 = .ok (.aload_n 0, 1) := by decide +kernel
theorem dX10_isBarredBy_1 : decode cX10_isBarredBy 1 = .ok (.iload_n 1, 1) := by decide +kernel
theorem dX10_isBarredBy_2 : decode cX10_isBarredBy 2 = .ok (.iload_n 2, 1) := by decide +kernel
theorem dX10_isBarredBy_3 : decode cX10_isBarredBy 3 = .ok (.invokevirtual 116, 3) := by decide +kernel
theorem dX10_isBarredBy_6 : decode cX10_isBarredBy 6 = .ok (.ifCond .eq 20, 3) := by decide +kernel
theorem dX10_isBarredBy_9 : decode cX10_isBarredBy 9 = .ok (.aload_n 0, 1) := by decide +kernel
theorem dX10_isBarredBy_10 : decode cX10_isBarredBy 10 = .ok (.iload_n 2, 1) := by decide +kernel
theorem dX10_isBarredBy_11 : decode cX10_isBarredBy 11 = .ok (.invokevirtual 73, 3) := by decide +kernel
theorem dX10_isBarredBy_14 : decode cX10_isBarredBy 14 = .ok (.ifCond .eq 12, 3) := by decide +kernel
theorem dX10_isBarredBy_17 : decode cX10_isBarredBy 17 = .ok (.aload_n 0, 1) := by decide +kernel
theorem dX10_isBarredBy_18 : decode cX10_isBarredBy 18 = .ok (.iload_n 1, 1) := by decide +kernel
theorem dX10_isBarredBy_19 : decode cX10_isBarredBy 19 = .ok (.iload_n 2, 1) := by decide +kernel
theorem dX10_isBarredBy_20 : decode cX10_isBarredBy 20 = .ok (.invokevirtual 119, 3) := by decide +kernel
theorem dX10_isBarredBy_23 : decode cX10_isBarredBy 23 = .ok (.ifCond .ne 5, 3) := by decide +kernel
theorem dX10_isBarredBy_26 : decode cX10_isBarredBy 26 = .ok (.iconst 0, 1) := by decide +kernel
theorem dX10_isBarredBy_27 : decode cX10_isBarredBy 27 = .ok (.ireturn, 1) := by decide +kernel
theorem dX10_isBarredBy_28 : decode cX10_isBarredBy 28 = .ok (.aload_n 0, 1) := by decide +kernel
theorem dX10_isBarredBy_29 : decode cX10_isBarredBy 29 = .ok (.iload_n 1, 1) := by decide +kernel
theorem dX10_isBarredBy_30 : decode cX10_isBarredBy 30 = .ok (.iconst 0, 1) := by decide +kernel
theorem dX10_isBarredBy_31 : decode cX10_isBarredBy 31 = .ok (.invokevirtual 65, 3) := by decide +kernel
theorem dX10_isBarredBy_34 : decode cX10_isBarredBy 34 = .ok (.istore_n 3, 1) := by decide +kernel
theorem dX10_isBarredBy_35 : decode cX10_isBarredBy 35 = .ok (.aload_n 0, 1) := by decide +kernel
theorem dX10_isBarredBy_36 : decode cX10_isBarredBy 36 = .ok (.iload_n 1, 1) := by decide +kernel
theorem dX10_isBarredBy_37 : decode cX10_isBarredBy 37 = .ok (.iconst 1, 1) := by decide +kernel
theorem dX10_isBarredBy_38 : decode cX10_isBarredBy 38 = .ok (.invokevirtual 65, 3) := by decide +kernel
theorem dX10_isBarredBy_41 : decode cX10_isBarredBy 41 = .ok (.istore 4, 2) := by decide +kernel
theorem dX10_isBarredBy_43 : decode cX10_isBarredBy 43 = .ok (.aload_n 0, 1) := by decide +kernel
theorem dX10_isBarredBy_44 : decode cX10_isBarredBy 44 = .ok (.iload_n 2, 1) := by decide +kernel
theorem dX10_isBarredBy_45 : decode cX10_isBarredBy 45 = .ok (.iconst 0, 1) := by decide +kernel
theorem dX10_isBarredBy_46 : decode cX10_isBarredBy 46 = .ok (.iload_n 3, 1) := by decide +kernel
theorem dX10_isBarredBy_47 : decode cX10_isBarredBy 47 = .ok (.invokevirtual 108, 3) := by decide +kernel
theorem dX10_isBarredBy_50 : decode cX10_isBarredBy 50 = .ok (.ifCond .eq 16, 3) := by decide +kernel
theorem dX10_isBarredBy_53 : decode cX10_isBarredBy 53 = .ok (.aload_n 0, 1) := by decide +kernel
theorem dX10_isBarredBy_54 : decode cX10_isBarredBy 54 = .ok (.iload_n 2, 1) := by decide +kernel
theorem dX10_isBarredBy_55 : decode cX10_isBarredBy 55 = .ok (.iconst 1, 1) := by decide +kernel
theorem dX10_isBarredBy_56 : decode cX10_isBarredBy 56 = .ok (.iload 4, 2) := by decide +kernel
theorem dX10_isBarredBy_58 : decode cX10_isBarredBy 58 = .ok (.invokevirtual 108, 3) := by decide +kernel
theorem dX10_isBarredBy_61 : decode cX10_isBarredBy 61 = .ok (.ifCond .eq 5, 3) := by decide +kernel
theorem dX10_isBarredBy_64 : decode cX10_isBarredBy 64 = .ok (.iconst 1, 1) := by decide +kernel
theorem dX10_isBarredBy_65 : decode cX10_isBarredBy 65 = .ok (.ireturn, 1) := by decide +kernel
theorem dX10_isBarredBy_66 : decode cX10_isBarredBy 66 = .ok (.aload_n 0, 1) := by decide +kernel
theorem dX10_isBarredBy_67 : decode cX10_isBarredBy 67 = .ok (.getfield 9, 3) := by decide +kernel
theorem dX10_isBarredBy_70 : decode cX10_isBarredBy 70 = .ok (.iconst 4, 1) := by decide +kernel
theorem dX10_isBarredBy_71 : decode cX10_isBarredBy 71 = .ok (.iaload, 1) := by decide +kernel
theorem dX10_isBarredBy_72 : decode cX10_isBarredBy 72 = .ok (.iconst 2, 1) := by decide +kernel
theorem dX10_isBarredBy_73 : decode cX10_isBarredBy 73 = .ok (.if_icmp .ne 28, 3) := by decide +kernel
theorem dX10_isBarredBy_76 : decode cX10_isBarredBy 76 = .ok (.aload_n 0, 1) := by decide +kernel
theorem dX10_isBarredBy_77 : decode cX10_isBarredBy 77 = .ok (.iload_n 2, 1) := by decide +kernel
theorem dX10_isBarredBy_78 : decode cX10_isBarredBy 78 = .ok (.iconst 1, 1) := by decide +kernel
theorem dX10_isBarredBy_79 : decode cX10_isBarredBy 79 = .ok (.iload_n 3, 1) := by decide +kernel
theorem dX10_isBarredBy_80 : decode cX10_isBarredBy 80 = .ok (.invokevirtual 108, 3) := by decide +kernel
theorem dX10_isBarredBy_83 : decode cX10_isBarredBy 83 = .ok (.ifCond .eq 18, 3) := by decide +kernel
theorem dX10_isBarredBy_86 : decode cX10_isBarredBy 86 = .ok (.aload_n 0, 1) := by decide +kernel
theorem dX10_isBarredBy_87 : decode cX10_isBarredBy 87 = .ok (.iload_n 2, 1) := by decide +kernel
theorem dX10_isBarredBy_88 : decode cX10_isBarredBy 88 = .ok (.iconst 0, 1) := by decide +kernel
theorem dX10_isBarredBy_89 : decode cX10_isBarredBy 89 = .ok (.iload 4, 2) := by decide +kernel
theorem dX10_isBarredBy_91 : decode cX10_isBarredBy 91 = .ok (.invokevirtual 108, 3) := by decide +kernel
theorem dX10_isBarredBy_94 : decode cX10_isBarredBy 94 = .ok (.ifCond .eq 7, 3) := by decide +kernel
theorem dX10_isBarredBy_97 : decode cX10_isBarredBy 97 = .ok (.iconst 1, 1) := by decide +kernel
theorem dX10_isBarredBy_98 : decode cX10_isBarredBy 98 = .ok (.goto 4, 3) := by decide +kernel
theorem dX10_isBarredBy_101 : decode cX10_isBarredBy 101 = .ok (.iconst 0, 1) := by decide +kernel
theorem dX10_isBarredBy_102 : decode cX10_isBarredBy 102 = .ok (.ireturn, 1) := by decide +kernel
theorem dX10_barsOf_0 : decode cX10_barsOf 0 = .ok (.iconst 0, 1) := by decide +kernel
theorem dX10_barsOf_1 : decode cX10_barsOf 1 = .ok (.istore_n 2, 1) := by decide +kernel
